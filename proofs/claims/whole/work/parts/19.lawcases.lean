section
variable {p : Program} {l : Launch} {e : Env} {s : State} {m : MethodId} {below : List Frame} {meth : Method} {c : Code} {Q : State → Prop} {D : va_G} {cA : Nat → ClassId} {adx adm : Nat → Nat} {b L B2 : Nat} {xs : Nat → Int32} {I : gS → gS → Prop} {x3 : Int32}
set_option maxRecDepth 100000 in
set_option maxHeartbeats 4000000 in
theorem lc_feed (hs : ∀ a1 a2 a3 a4 a5 : Int32, sOK I (fX10_feed a1 a2 a3 a4 a5) (fX11_feed a1 a2 a3 a4 a5)) (K : lawK p s m meth c b L xs D cA adx adm B2) (hi1 : vp_in (x3 + 1) L) (hi2 : vp_in (x3 + 2) L) (hi3 : vp_in (x3 + 3) L) (hi4 : vp_in (x3 + 4) L) (hi5 : vp_in (x3 + 5) L)
    (hk : ∀ {x y : gS} {H : Heap} {locs : List Loc} {ls : Array Slot}, I x y → lawH s D cA adx adm x y H locs → lv_has ls 4 [(0, .ref b), (1, .ref (adx 0)), (2, .ref (adm 0)), (3, .int x3)] → W p l e room_1 s m #[Value.ref b] below meth c H locs 265 8728 Q (F0 m 1307 ls []))
    {x y : gS} {H : Heap} {locs : List Loc} {ls : Array Slot} (hI : I x y) (hH : lawH s D cA adx adm x y H locs) (hl : lv_has ls 4 [(0, .ref b), (1, .ref (adx 0)), (2, .ref (adm 0)), (3, .int x3)]) : W p l e room_1 s m #[Value.ref b] below meth c H locs 265 8728 Q (F0 m 212 ls []) := by
  obtain ⟨hx, hb, hml, hown, hts⟩ := id K.1
  refine lv_aload_n (pc := 212) hx hb dL_law_212 rfl (lv_at hl 1 rfl) ?_
  refine lv_aload_n (pc := 213) hx hb dL_law_213 rfl (lv_at hl 0 rfl) ?_
  refine lv_iload_n (pc := 214) hx hb dL_law_214 rfl (lv_at hl 3 rfl) ?_
  refine lv_iconst (v := 1) (pc := 215) hx hb dL_law_215 (by decide) ?_
  refine lv_iadd (pc := 216) hx hb dL_law_216 ?_
  refine l_sld (pc := 217) K hH hi1 dL_law_217 ?_
  refine lv_aload_n (pc := 218) hx hb dL_law_218 rfl (lv_at hl 0 rfl) ?_
  refine lv_iload_n (pc := 219) hx hb dL_law_219 rfl (lv_at hl 3 rfl) ?_
  refine lv_iconst (v := 2) (pc := 220) hx hb dL_law_220 (by decide) ?_
  refine lv_iadd (pc := 221) hx hb dL_law_221 ?_
  refine l_sld (pc := 222) K hH hi2 dL_law_222 ?_
  refine lv_aload_n (pc := 223) hx hb dL_law_223 rfl (lv_at hl 0 rfl) ?_
  refine lv_iload_n (pc := 224) hx hb dL_law_224 rfl (lv_at hl 3 rfl) ?_
  refine lv_iconst (v := 3) (pc := 225) hx hb dL_law_225 (by decide) ?_
  refine lv_iadd (pc := 226) hx hb dL_law_226 ?_
  refine l_sld (pc := 227) K hH hi3 dL_law_227 ?_
  refine lv_aload_n (pc := 228) hx hb dL_law_228 rfl (lv_at hl 0 rfl) ?_
  refine lv_iload_n (pc := 229) hx hb dL_law_229 rfl (lv_at hl 3 rfl) ?_
  refine lv_iconst (v := 4) (pc := 230) hx hb dL_law_230 (by decide) ?_
  refine lv_iadd (pc := 231) hx hb dL_law_231 ?_
  refine l_sld (pc := 232) K hH hi4 dL_law_232 ?_
  refine lv_aload_n (pc := 233) hx hb dL_law_233 rfl (lv_at hl 0 rfl) ?_
  refine lv_iload_n (pc := 234) hx hb dL_law_234 rfl (lv_at hl 3 rfl) ?_
  refine lv_iconst (v := 5) (pc := 235) hx hb dL_law_235 (by decide) ?_
  refine lv_iadd (pc := 236) hx hb dL_law_236 ?_
  refine l_sld (pc := 237) K hH hi5 dL_law_237 ?_
  obtain ⟨r, x1, y1, e1, e2, hI⟩ := hs (xs (x3 + 1).toNatClampNeg) (xs (x3 + 2).toNatClampNeg) (xs (x3 + 3).toNatClampNeg) (xs (x3 + 4).toNatClampNeg) (xs (x3 + 5).toNatClampNeg) x y hI
  refine l_callX (pc := 238) (rest := []) K hH hl.1 rfl (mX10_feed e1) ky_X10_feed km_L_13 ⟨Nat.le_of_ble_eq_true rfl, Nat.le_of_ble_eq_true rfl⟩ ⟨Nat.le_of_ble_eq_true rfl, Nat.le_of_ble_eq_true rfl⟩ rfl (Nat.le_of_ble_eq_true rfl) dL_law_238 rfl (fun H locs hH => ?_)
  refine lv_aload_n (pc := 241) hx hb dL_law_241 rfl (lv_at hl 2 rfl) ?_
  refine lv_aload_n (pc := 242) hx hb dL_law_242 rfl (lv_at hl 0 rfl) ?_
  refine lv_iload_n (pc := 243) hx hb dL_law_243 rfl (lv_at hl 3 rfl) ?_
  refine lv_iconst (v := 1) (pc := 244) hx hb dL_law_244 (by decide) ?_
  refine lv_iadd (pc := 245) hx hb dL_law_245 ?_
  refine l_sld (pc := 246) K hH hi1 dL_law_246 ?_
  refine lv_aload_n (pc := 247) hx hb dL_law_247 rfl (lv_at hl 0 rfl) ?_
  refine lv_iload_n (pc := 248) hx hb dL_law_248 rfl (lv_at hl 3 rfl) ?_
  refine lv_iconst (v := 2) (pc := 249) hx hb dL_law_249 (by decide) ?_
  refine lv_iadd (pc := 250) hx hb dL_law_250 ?_
  refine l_sld (pc := 251) K hH hi2 dL_law_251 ?_
  refine lv_aload_n (pc := 252) hx hb dL_law_252 rfl (lv_at hl 0 rfl) ?_
  refine lv_iload_n (pc := 253) hx hb dL_law_253 rfl (lv_at hl 3 rfl) ?_
  refine lv_iconst (v := 3) (pc := 254) hx hb dL_law_254 (by decide) ?_
  refine lv_iadd (pc := 255) hx hb dL_law_255 ?_
  refine l_sld (pc := 256) K hH hi3 dL_law_256 ?_
  refine lv_aload_n (pc := 257) hx hb dL_law_257 rfl (lv_at hl 0 rfl) ?_
  refine lv_iload_n (pc := 258) hx hb dL_law_258 rfl (lv_at hl 3 rfl) ?_
  refine lv_iconst (v := 4) (pc := 259) hx hb dL_law_259 (by decide) ?_
  refine lv_iadd (pc := 260) hx hb dL_law_260 ?_
  refine l_sld (pc := 261) K hH hi4 dL_law_261 ?_
  refine lv_aload_n (pc := 262) hx hb dL_law_262 rfl (lv_at hl 0 rfl) ?_
  refine lv_iload_n (pc := 263) hx hb dL_law_263 rfl (lv_at hl 3 rfl) ?_
  refine lv_iconst (v := 5) (pc := 264) hx hb dL_law_264 (by decide) ?_
  refine lv_iadd (pc := 265) hx hb dL_law_265 ?_
  refine l_sld (pc := 266) K hH hi5 dL_law_266 ?_
  refine l_callY (pc := 267) (rest := [.int r]) K hH hl.1 rfl (mX11_feed e2) ky_X11_feed km_L_17 ⟨Nat.le_of_ble_eq_true rfl, Nat.le_of_ble_eq_true rfl⟩ ⟨Nat.le_of_ble_eq_true rfl, Nat.le_of_ble_eq_true rfl⟩ rfl (Nat.le_of_ble_eq_true rfl) dL_law_267 rfl (fun H locs hH => ?_)
  refine lv_icmp_eq (tgt := 1307) (pc := 270) hx hb dL_law_270 (by decide) (fun _ => ?_) (fun hc => absurd rfl hc)
  exact hk hI hH hl
set_option maxRecDepth 100000 in
set_option maxHeartbeats 4000000 in
theorem lc_end (hs : ∀ a1 : Int32, sOK I (fX10_end a1) (fX11_end a1)) (K : lawK p s m meth c b L xs D cA adx adm B2) (hi1 : vp_in (x3 + 1) L) (hi2 : vp_in (x3 + 2) L) (hi3 : vp_in (x3 + 3) L) (hi4 : vp_in (x3 + 4) L) (hi5 : vp_in (x3 + 5) L)
    (hk : ∀ {x y : gS} {H : Heap} {locs : List Loc} {ls : Array Slot}, I x y → lawH s D cA adx adm x y H locs → lv_has ls 4 [(0, .ref b), (1, .ref (adx 0)), (2, .ref (adm 0)), (3, .int x3)] → W p l e room_1 s m #[Value.ref b] below meth c H locs 265 8728 Q (F0 m 1307 ls []))
    {x y : gS} {H : Heap} {locs : List Loc} {ls : Array Slot} (hI : I x y) (hH : lawH s D cA adx adm x y H locs) (hl : lv_has ls 4 [(0, .ref b), (1, .ref (adx 0)), (2, .ref (adm 0)), (3, .int x3)]) : W p l e room_1 s m #[Value.ref b] below meth c H locs 265 8728 Q (F0 m 275 ls []) := by
  obtain ⟨hx, hb, hml, hown, hts⟩ := id K.1
  refine lv_aload_n (pc := 275) hx hb dL_law_275 rfl (lv_at hl 1 rfl) ?_
  refine lv_aload_n (pc := 276) hx hb dL_law_276 rfl (lv_at hl 0 rfl) ?_
  refine lv_iload_n (pc := 277) hx hb dL_law_277 rfl (lv_at hl 3 rfl) ?_
  refine lv_iconst (v := 1) (pc := 278) hx hb dL_law_278 (by decide) ?_
  refine lv_iadd (pc := 279) hx hb dL_law_279 ?_
  refine l_sld (pc := 280) K hH hi1 dL_law_280 ?_
  obtain ⟨r, x1, y1, e1, e2, hI⟩ := hs (xs (x3 + 1).toNatClampNeg) x y hI
  refine l_callX (pc := 281) (rest := []) K hH hl.1 rfl (mX10_end e1) ky_X10_end km_L_18 ⟨Nat.le_of_ble_eq_true rfl, Nat.le_of_ble_eq_true rfl⟩ ⟨Nat.le_of_ble_eq_true rfl, Nat.le_of_ble_eq_true rfl⟩ rfl (Nat.le_of_ble_eq_true rfl) dL_law_281 rfl (fun H locs hH => ?_)
  refine lv_aload_n (pc := 284) hx hb dL_law_284 rfl (lv_at hl 2 rfl) ?_
  refine lv_aload_n (pc := 285) hx hb dL_law_285 rfl (lv_at hl 0 rfl) ?_
  refine lv_iload_n (pc := 286) hx hb dL_law_286 rfl (lv_at hl 3 rfl) ?_
  refine lv_iconst (v := 1) (pc := 287) hx hb dL_law_287 (by decide) ?_
  refine lv_iadd (pc := 288) hx hb dL_law_288 ?_
  refine l_sld (pc := 289) K hH hi1 dL_law_289 ?_
  refine l_callY (pc := 290) (rest := [.int r]) K hH hl.1 rfl (mX11_end e2) ky_X11_end km_L_22 ⟨Nat.le_of_ble_eq_true rfl, Nat.le_of_ble_eq_true rfl⟩ ⟨Nat.le_of_ble_eq_true rfl, Nat.le_of_ble_eq_true rfl⟩ rfl (Nat.le_of_ble_eq_true rfl) dL_law_290 rfl (fun H locs hH => ?_)
  refine lv_icmp_eq (tgt := 1307) (pc := 293) hx hb dL_law_293 (by decide) (fun _ => ?_) (fun hc => absurd rfl hc)
  exact hk hI hH hl
set_option maxRecDepth 100000 in
set_option maxHeartbeats 4000000 in
theorem lc_treaty (hs : sOK I fX10_treaty fX11_treaty) (K : lawK p s m meth c b L xs D cA adx adm B2) (hi1 : vp_in (x3 + 1) L) (hi2 : vp_in (x3 + 2) L) (hi3 : vp_in (x3 + 3) L) (hi4 : vp_in (x3 + 4) L) (hi5 : vp_in (x3 + 5) L)
    (hk : ∀ {x y : gS} {H : Heap} {locs : List Loc} {ls : Array Slot}, I x y → lawH s D cA adx adm x y H locs → lv_has ls 4 [(0, .ref b), (1, .ref (adx 0)), (2, .ref (adm 0)), (3, .int x3)] → W p l e room_1 s m #[Value.ref b] below meth c H locs 265 8728 Q (F0 m 1307 ls []))
    {x y : gS} {H : Heap} {locs : List Loc} {ls : Array Slot} (hI : I x y) (hH : lawH s D cA adx adm x y H locs) (hl : lv_has ls 4 [(0, .ref b), (1, .ref (adx 0)), (2, .ref (adm 0)), (3, .int x3)]) : W p l e room_1 s m #[Value.ref b] below meth c H locs 265 8728 Q (F0 m 298 ls []) := by
  obtain ⟨hx, hb, hml, hown, hts⟩ := id K.1
  refine lv_aload_n (pc := 298) hx hb dL_law_298 rfl (lv_at hl 1 rfl) ?_
  obtain ⟨r, x1, y1, e1, e2, hI⟩ := hs x y hI
  refine l_callX (pc := 299) (rest := []) K hH hl.1 rfl (mX10_treaty e1) ky_X10_treaty km_L_23 ⟨Nat.le_of_ble_eq_true rfl, Nat.le_of_ble_eq_true rfl⟩ ⟨Nat.le_of_ble_eq_true rfl, Nat.le_of_ble_eq_true rfl⟩ rfl (Nat.le_of_ble_eq_true rfl) dL_law_299 rfl (fun H locs hH => ?_)
  refine lv_aload_n (pc := 302) hx hb dL_law_302 rfl (lv_at hl 2 rfl) ?_
  refine l_callY (pc := 303) (rest := [.int r]) K hH hl.1 rfl (mX11_treaty e2) ky_X11_treaty km_L_27 ⟨Nat.le_of_ble_eq_true rfl, Nat.le_of_ble_eq_true rfl⟩ ⟨Nat.le_of_ble_eq_true rfl, Nat.le_of_ble_eq_true rfl⟩ rfl (Nat.le_of_ble_eq_true rfl) dL_law_303 rfl (fun H locs hH => ?_)
  refine lv_icmp_eq (tgt := 1307) (pc := 306) hx hb dL_law_306 (by decide) (fun _ => ?_) (fun hc => absurd rfl hc)
  exact hk hI hH hl
set_option maxRecDepth 100000 in
set_option maxHeartbeats 4000000 in
theorem lc_fault (hs : ∀ a1 : Int32, sOK I (fX10_fault a1) (fX11_fault a1)) (K : lawK p s m meth c b L xs D cA adx adm B2) (hi1 : vp_in (x3 + 1) L) (hi2 : vp_in (x3 + 2) L) (hi3 : vp_in (x3 + 3) L) (hi4 : vp_in (x3 + 4) L) (hi5 : vp_in (x3 + 5) L)
    (hk : ∀ {x y : gS} {H : Heap} {locs : List Loc} {ls : Array Slot}, I x y → lawH s D cA adx adm x y H locs → lv_has ls 4 [(0, .ref b), (1, .ref (adx 0)), (2, .ref (adm 0)), (3, .int x3)] → W p l e room_1 s m #[Value.ref b] below meth c H locs 265 8728 Q (F0 m 1307 ls []))
    {x y : gS} {H : Heap} {locs : List Loc} {ls : Array Slot} (hI : I x y) (hH : lawH s D cA adx adm x y H locs) (hl : lv_has ls 4 [(0, .ref b), (1, .ref (adx 0)), (2, .ref (adm 0)), (3, .int x3)]) : W p l e room_1 s m #[Value.ref b] below meth c H locs 265 8728 Q (F0 m 311 ls []) := by
  obtain ⟨hx, hb, hml, hown, hts⟩ := id K.1
  refine lv_aload_n (pc := 311) hx hb dL_law_311 rfl (lv_at hl 1 rfl) ?_
  refine lv_aload_n (pc := 312) hx hb dL_law_312 rfl (lv_at hl 0 rfl) ?_
  refine lv_iload_n (pc := 313) hx hb dL_law_313 rfl (lv_at hl 3 rfl) ?_
  refine lv_iconst (v := 1) (pc := 314) hx hb dL_law_314 (by decide) ?_
  refine lv_iadd (pc := 315) hx hb dL_law_315 ?_
  refine l_sld (pc := 316) K hH hi1 dL_law_316 ?_
  obtain ⟨r, x1, y1, e1, e2, hI⟩ := hs (xs (x3 + 1).toNatClampNeg) x y hI
  refine l_callX (pc := 317) (rest := []) K hH hl.1 rfl (mX10_fault e1) ky_X10_fault km_L_28 ⟨Nat.le_of_ble_eq_true rfl, Nat.le_of_ble_eq_true rfl⟩ ⟨Nat.le_of_ble_eq_true rfl, Nat.le_of_ble_eq_true rfl⟩ rfl (Nat.le_of_ble_eq_true rfl) dL_law_317 rfl (fun H locs hH => ?_)
  refine lv_aload_n (pc := 320) hx hb dL_law_320 rfl (lv_at hl 2 rfl) ?_
  refine lv_aload_n (pc := 321) hx hb dL_law_321 rfl (lv_at hl 0 rfl) ?_
  refine lv_iload_n (pc := 322) hx hb dL_law_322 rfl (lv_at hl 3 rfl) ?_
  refine lv_iconst (v := 1) (pc := 323) hx hb dL_law_323 (by decide) ?_
  refine lv_iadd (pc := 324) hx hb dL_law_324 ?_
  refine l_sld (pc := 325) K hH hi1 dL_law_325 ?_
  refine l_callY (pc := 326) (rest := [.int r]) K hH hl.1 rfl (mX11_fault e2) ky_X11_fault km_L_31 ⟨Nat.le_of_ble_eq_true rfl, Nat.le_of_ble_eq_true rfl⟩ ⟨Nat.le_of_ble_eq_true rfl, Nat.le_of_ble_eq_true rfl⟩ rfl (Nat.le_of_ble_eq_true rfl) dL_law_326 rfl (fun H locs hH => ?_)
  refine lv_icmp_eq (tgt := 1307) (pc := 329) hx hb dL_law_329 (by decide) (fun _ => ?_) (fun hc => absurd rfl hc)
  exact hk hI hH hl
set_option maxRecDepth 100000 in
set_option maxHeartbeats 4000000 in
theorem lc_tribe (hs : ∀ a1 a2 : Int32, sOK I (fX10_tribe a1 a2) (fX11_tribe a1 a2)) (K : lawK p s m meth c b L xs D cA adx adm B2) (hi1 : vp_in (x3 + 1) L) (hi2 : vp_in (x3 + 2) L) (hi3 : vp_in (x3 + 3) L) (hi4 : vp_in (x3 + 4) L) (hi5 : vp_in (x3 + 5) L)
    (hk : ∀ {x y : gS} {H : Heap} {locs : List Loc} {ls : Array Slot}, I x y → lawH s D cA adx adm x y H locs → lv_has ls 4 [(0, .ref b), (1, .ref (adx 0)), (2, .ref (adm 0)), (3, .int x3)] → W p l e room_1 s m #[Value.ref b] below meth c H locs 265 8728 Q (F0 m 1307 ls []))
    {x y : gS} {H : Heap} {locs : List Loc} {ls : Array Slot} (hI : I x y) (hH : lawH s D cA adx adm x y H locs) (hl : lv_has ls 4 [(0, .ref b), (1, .ref (adx 0)), (2, .ref (adm 0)), (3, .int x3)]) : W p l e room_1 s m #[Value.ref b] below meth c H locs 265 8728 Q (F0 m 334 ls []) := by
  obtain ⟨hx, hb, hml, hown, hts⟩ := id K.1
  refine lv_aload_n (pc := 334) hx hb dL_law_334 rfl (lv_at hl 1 rfl) ?_
  refine lv_aload_n (pc := 335) hx hb dL_law_335 rfl (lv_at hl 0 rfl) ?_
  refine lv_iload_n (pc := 336) hx hb dL_law_336 rfl (lv_at hl 3 rfl) ?_
  refine lv_iconst (v := 1) (pc := 337) hx hb dL_law_337 (by decide) ?_
  refine lv_iadd (pc := 338) hx hb dL_law_338 ?_
  refine l_sld (pc := 339) K hH hi1 dL_law_339 ?_
  refine lv_aload_n (pc := 340) hx hb dL_law_340 rfl (lv_at hl 0 rfl) ?_
  refine lv_iload_n (pc := 341) hx hb dL_law_341 rfl (lv_at hl 3 rfl) ?_
  refine lv_iconst (v := 2) (pc := 342) hx hb dL_law_342 (by decide) ?_
  refine lv_iadd (pc := 343) hx hb dL_law_343 ?_
  refine l_sld (pc := 344) K hH hi2 dL_law_344 ?_
  obtain ⟨r, x1, y1, e1, e2, hI⟩ := hs (xs (x3 + 1).toNatClampNeg) (xs (x3 + 2).toNatClampNeg) x y hI
  refine l_callX (pc := 345) (rest := []) K hH hl.1 rfl (mX10_tribe e1) ky_X10_tribe km_L_32 ⟨Nat.le_of_ble_eq_true rfl, Nat.le_of_ble_eq_true rfl⟩ ⟨Nat.le_of_ble_eq_true rfl, Nat.le_of_ble_eq_true rfl⟩ rfl (Nat.le_of_ble_eq_true rfl) dL_law_345 rfl (fun H locs hH => ?_)
  refine lv_aload_n (pc := 348) hx hb dL_law_348 rfl (lv_at hl 2 rfl) ?_
  refine lv_aload_n (pc := 349) hx hb dL_law_349 rfl (lv_at hl 0 rfl) ?_
  refine lv_iload_n (pc := 350) hx hb dL_law_350 rfl (lv_at hl 3 rfl) ?_
  refine lv_iconst (v := 1) (pc := 351) hx hb dL_law_351 (by decide) ?_
  refine lv_iadd (pc := 352) hx hb dL_law_352 ?_
  refine l_sld (pc := 353) K hH hi1 dL_law_353 ?_
  refine lv_aload_n (pc := 354) hx hb dL_law_354 rfl (lv_at hl 0 rfl) ?_
  refine lv_iload_n (pc := 355) hx hb dL_law_355 rfl (lv_at hl 3 rfl) ?_
  refine lv_iconst (v := 2) (pc := 356) hx hb dL_law_356 (by decide) ?_
  refine lv_iadd (pc := 357) hx hb dL_law_357 ?_
  refine l_sld (pc := 358) K hH hi2 dL_law_358 ?_
  refine l_callY (pc := 359) (rest := [.int r]) K hH hl.1 rfl (mX11_tribe e2) ky_X11_tribe km_L_36 ⟨Nat.le_of_ble_eq_true rfl, Nat.le_of_ble_eq_true rfl⟩ ⟨Nat.le_of_ble_eq_true rfl, Nat.le_of_ble_eq_true rfl⟩ rfl (Nat.le_of_ble_eq_true rfl) dL_law_359 rfl (fun H locs hH => ?_)
  refine lv_icmp_eq (tgt := 1307) (pc := 362) hx hb dL_law_362 (by decide) (fun _ => ?_) (fun hc => absurd rfl hc)
  exact hk hI hH hl
set_option maxRecDepth 100000 in
set_option maxHeartbeats 4000000 in
theorem lc_move (hs : ∀ a1 a2 : Int32, sOK I (fX10_move a1 a2) (fX11_move a1 a2)) (K : lawK p s m meth c b L xs D cA adx adm B2) (hi1 : vp_in (x3 + 1) L) (hi2 : vp_in (x3 + 2) L) (hi3 : vp_in (x3 + 3) L) (hi4 : vp_in (x3 + 4) L) (hi5 : vp_in (x3 + 5) L)
    (hk : ∀ {x y : gS} {H : Heap} {locs : List Loc} {ls : Array Slot}, I x y → lawH s D cA adx adm x y H locs → lv_has ls 4 [(0, .ref b), (1, .ref (adx 0)), (2, .ref (adm 0)), (3, .int x3)] → W p l e room_1 s m #[Value.ref b] below meth c H locs 265 8728 Q (F0 m 1307 ls []))
    {x y : gS} {H : Heap} {locs : List Loc} {ls : Array Slot} (hI : I x y) (hH : lawH s D cA adx adm x y H locs) (hl : lv_has ls 4 [(0, .ref b), (1, .ref (adx 0)), (2, .ref (adm 0)), (3, .int x3)]) : W p l e room_1 s m #[Value.ref b] below meth c H locs 265 8728 Q (F0 m 367 ls []) := by
  obtain ⟨hx, hb, hml, hown, hts⟩ := id K.1
  refine lv_aload_n (pc := 367) hx hb dL_law_367 rfl (lv_at hl 1 rfl) ?_
  refine lv_aload_n (pc := 368) hx hb dL_law_368 rfl (lv_at hl 0 rfl) ?_
  refine lv_iload_n (pc := 369) hx hb dL_law_369 rfl (lv_at hl 3 rfl) ?_
  refine lv_iconst (v := 1) (pc := 370) hx hb dL_law_370 (by decide) ?_
  refine lv_iadd (pc := 371) hx hb dL_law_371 ?_
  refine l_sld (pc := 372) K hH hi1 dL_law_372 ?_
  refine lv_aload_n (pc := 373) hx hb dL_law_373 rfl (lv_at hl 0 rfl) ?_
  refine lv_iload_n (pc := 374) hx hb dL_law_374 rfl (lv_at hl 3 rfl) ?_
  refine lv_iconst (v := 2) (pc := 375) hx hb dL_law_375 (by decide) ?_
  refine lv_iadd (pc := 376) hx hb dL_law_376 ?_
  refine l_sld (pc := 377) K hH hi2 dL_law_377 ?_
  obtain ⟨r, x1, y1, e1, e2, hI⟩ := hs (xs (x3 + 1).toNatClampNeg) (xs (x3 + 2).toNatClampNeg) x y hI
  refine l_callX (pc := 378) (rest := []) K hH hl.1 rfl (mX10_move e1) ky_X10_move km_L_37 ⟨Nat.le_of_ble_eq_true rfl, Nat.le_of_ble_eq_true rfl⟩ ⟨Nat.le_of_ble_eq_true rfl, Nat.le_of_ble_eq_true rfl⟩ rfl (Nat.le_of_ble_eq_true rfl) dL_law_378 rfl (fun H locs hH => ?_)
  refine lv_aload_n (pc := 381) hx hb dL_law_381 rfl (lv_at hl 2 rfl) ?_
  refine lv_aload_n (pc := 382) hx hb dL_law_382 rfl (lv_at hl 0 rfl) ?_
  refine lv_iload_n (pc := 383) hx hb dL_law_383 rfl (lv_at hl 3 rfl) ?_
  refine lv_iconst (v := 1) (pc := 384) hx hb dL_law_384 (by decide) ?_
  refine lv_iadd (pc := 385) hx hb dL_law_385 ?_
  refine l_sld (pc := 386) K hH hi1 dL_law_386 ?_
  refine lv_aload_n (pc := 387) hx hb dL_law_387 rfl (lv_at hl 0 rfl) ?_
  refine lv_iload_n (pc := 388) hx hb dL_law_388 rfl (lv_at hl 3 rfl) ?_
  refine lv_iconst (v := 2) (pc := 389) hx hb dL_law_389 (by decide) ?_
  refine lv_iadd (pc := 390) hx hb dL_law_390 ?_
  refine l_sld (pc := 391) K hH hi2 dL_law_391 ?_
  refine l_callY (pc := 392) (rest := [.int r]) K hH hl.1 rfl (mX11_move e2) ky_X11_move km_L_40 ⟨Nat.le_of_ble_eq_true rfl, Nat.le_of_ble_eq_true rfl⟩ ⟨Nat.le_of_ble_eq_true rfl, Nat.le_of_ble_eq_true rfl⟩ rfl (Nat.le_of_ble_eq_true rfl) dL_law_392 rfl (fun H locs hH => ?_)
  refine lv_icmp_eq (tgt := 1307) (pc := 395) hx hb dL_law_395 (by decide) (fun _ => ?_) (fun hc => absurd rfl hc)
  exact hk hI hH hl
set_option maxRecDepth 100000 in
set_option maxHeartbeats 4000000 in
theorem lc_worth (hs : ∀ a1 a2 : Int32, sOK I (fX10_worth a1 a2) (fX11_worth a1 a2)) (K : lawK p s m meth c b L xs D cA adx adm B2) (hi1 : vp_in (x3 + 1) L) (hi2 : vp_in (x3 + 2) L) (hi3 : vp_in (x3 + 3) L) (hi4 : vp_in (x3 + 4) L) (hi5 : vp_in (x3 + 5) L)
    (hk : ∀ {x y : gS} {H : Heap} {locs : List Loc} {ls : Array Slot}, I x y → lawH s D cA adx adm x y H locs → lv_has ls 4 [(0, .ref b), (1, .ref (adx 0)), (2, .ref (adm 0)), (3, .int x3)] → W p l e room_1 s m #[Value.ref b] below meth c H locs 265 8728 Q (F0 m 1307 ls []))
    {x y : gS} {H : Heap} {locs : List Loc} {ls : Array Slot} (hI : I x y) (hH : lawH s D cA adx adm x y H locs) (hl : lv_has ls 4 [(0, .ref b), (1, .ref (adx 0)), (2, .ref (adm 0)), (3, .int x3)]) : W p l e room_1 s m #[Value.ref b] below meth c H locs 265 8728 Q (F0 m 400 ls []) := by
  obtain ⟨hx, hb, hml, hown, hts⟩ := id K.1
  refine lv_aload_n (pc := 400) hx hb dL_law_400 rfl (lv_at hl 1 rfl) ?_
  refine lv_aload_n (pc := 401) hx hb dL_law_401 rfl (lv_at hl 0 rfl) ?_
  refine lv_iload_n (pc := 402) hx hb dL_law_402 rfl (lv_at hl 3 rfl) ?_
  refine lv_iconst (v := 1) (pc := 403) hx hb dL_law_403 (by decide) ?_
  refine lv_iadd (pc := 404) hx hb dL_law_404 ?_
  refine l_sld (pc := 405) K hH hi1 dL_law_405 ?_
  refine lv_aload_n (pc := 406) hx hb dL_law_406 rfl (lv_at hl 0 rfl) ?_
  refine lv_iload_n (pc := 407) hx hb dL_law_407 rfl (lv_at hl 3 rfl) ?_
  refine lv_iconst (v := 2) (pc := 408) hx hb dL_law_408 (by decide) ?_
  refine lv_iadd (pc := 409) hx hb dL_law_409 ?_
  refine l_sld (pc := 410) K hH hi2 dL_law_410 ?_
  obtain ⟨r, x1, y1, e1, e2, hI⟩ := hs (xs (x3 + 1).toNatClampNeg) (xs (x3 + 2).toNatClampNeg) x y hI
  refine l_callX (pc := 411) (rest := []) K hH hl.1 rfl (mX10_worth e1) ky_X10_worth km_L_41 ⟨Nat.le_of_ble_eq_true rfl, Nat.le_of_ble_eq_true rfl⟩ ⟨Nat.le_of_ble_eq_true rfl, Nat.le_of_ble_eq_true rfl⟩ rfl (Nat.le_of_ble_eq_true rfl) dL_law_411 rfl (fun H locs hH => ?_)
  refine lv_aload_n (pc := 414) hx hb dL_law_414 rfl (lv_at hl 2 rfl) ?_
  refine lv_aload_n (pc := 415) hx hb dL_law_415 rfl (lv_at hl 0 rfl) ?_
  refine lv_iload_n (pc := 416) hx hb dL_law_416 rfl (lv_at hl 3 rfl) ?_
  refine lv_iconst (v := 1) (pc := 417) hx hb dL_law_417 (by decide) ?_
  refine lv_iadd (pc := 418) hx hb dL_law_418 ?_
  refine l_sld (pc := 419) K hH hi1 dL_law_419 ?_
  refine lv_aload_n (pc := 420) hx hb dL_law_420 rfl (lv_at hl 0 rfl) ?_
  refine lv_iload_n (pc := 421) hx hb dL_law_421 rfl (lv_at hl 3 rfl) ?_
  refine lv_iconst (v := 2) (pc := 422) hx hb dL_law_422 (by decide) ?_
  refine lv_iadd (pc := 423) hx hb dL_law_423 ?_
  refine l_sld (pc := 424) K hH hi2 dL_law_424 ?_
  refine l_callY (pc := 425) (rest := [.int r]) K hH hl.1 rfl (mX11_worth e2) ky_X11_worth km_L_44 ⟨Nat.le_of_ble_eq_true rfl, Nat.le_of_ble_eq_true rfl⟩ ⟨Nat.le_of_ble_eq_true rfl, Nat.le_of_ble_eq_true rfl⟩ rfl (Nat.le_of_ble_eq_true rfl) dL_law_425 rfl (fun H locs hH => ?_)
  refine lv_icmp_eq (tgt := 1307) (pc := 428) hx hb dL_law_428 (by decide) (fun _ => ?_) (fun hc => absurd rfl hc)
  exact hk hI hH hl
set_option maxRecDepth 100000 in
set_option maxHeartbeats 4000000 in
theorem lc_slip (hs : ∀ a1 a2 : Int32, sOK I (fX10_slip a1 a2) (fX11_slip a1 a2)) (K : lawK p s m meth c b L xs D cA adx adm B2) (hi1 : vp_in (x3 + 1) L) (hi2 : vp_in (x3 + 2) L) (hi3 : vp_in (x3 + 3) L) (hi4 : vp_in (x3 + 4) L) (hi5 : vp_in (x3 + 5) L)
    (hk : ∀ {x y : gS} {H : Heap} {locs : List Loc} {ls : Array Slot}, I x y → lawH s D cA adx adm x y H locs → lv_has ls 4 [(0, .ref b), (1, .ref (adx 0)), (2, .ref (adm 0)), (3, .int x3)] → W p l e room_1 s m #[Value.ref b] below meth c H locs 265 8728 Q (F0 m 1307 ls []))
    {x y : gS} {H : Heap} {locs : List Loc} {ls : Array Slot} (hI : I x y) (hH : lawH s D cA adx adm x y H locs) (hl : lv_has ls 4 [(0, .ref b), (1, .ref (adx 0)), (2, .ref (adm 0)), (3, .int x3)]) : W p l e room_1 s m #[Value.ref b] below meth c H locs 265 8728 Q (F0 m 433 ls []) := by
  obtain ⟨hx, hb, hml, hown, hts⟩ := id K.1
  refine lv_aload_n (pc := 433) hx hb dL_law_433 rfl (lv_at hl 1 rfl) ?_
  refine lv_aload_n (pc := 434) hx hb dL_law_434 rfl (lv_at hl 0 rfl) ?_
  refine lv_iload_n (pc := 435) hx hb dL_law_435 rfl (lv_at hl 3 rfl) ?_
  refine lv_iconst (v := 1) (pc := 436) hx hb dL_law_436 (by decide) ?_
  refine lv_iadd (pc := 437) hx hb dL_law_437 ?_
  refine l_sld (pc := 438) K hH hi1 dL_law_438 ?_
  refine lv_aload_n (pc := 439) hx hb dL_law_439 rfl (lv_at hl 0 rfl) ?_
  refine lv_iload_n (pc := 440) hx hb dL_law_440 rfl (lv_at hl 3 rfl) ?_
  refine lv_iconst (v := 2) (pc := 441) hx hb dL_law_441 (by decide) ?_
  refine lv_iadd (pc := 442) hx hb dL_law_442 ?_
  refine l_sld (pc := 443) K hH hi2 dL_law_443 ?_
  obtain ⟨r, x1, y1, e1, e2, hI⟩ := hs (xs (x3 + 1).toNatClampNeg) (xs (x3 + 2).toNatClampNeg) x y hI
  refine l_callX (pc := 444) (rest := []) K hH hl.1 rfl (mX10_slip e1) ky_X10_slip km_L_45 ⟨Nat.le_of_ble_eq_true rfl, Nat.le_of_ble_eq_true rfl⟩ ⟨Nat.le_of_ble_eq_true rfl, Nat.le_of_ble_eq_true rfl⟩ rfl (Nat.le_of_ble_eq_true rfl) dL_law_444 rfl (fun H locs hH => ?_)
  refine lv_aload_n (pc := 447) hx hb dL_law_447 rfl (lv_at hl 2 rfl) ?_
  refine lv_aload_n (pc := 448) hx hb dL_law_448 rfl (lv_at hl 0 rfl) ?_
  refine lv_iload_n (pc := 449) hx hb dL_law_449 rfl (lv_at hl 3 rfl) ?_
  refine lv_iconst (v := 1) (pc := 450) hx hb dL_law_450 (by decide) ?_
  refine lv_iadd (pc := 451) hx hb dL_law_451 ?_
  refine l_sld (pc := 452) K hH hi1 dL_law_452 ?_
  refine lv_aload_n (pc := 453) hx hb dL_law_453 rfl (lv_at hl 0 rfl) ?_
  refine lv_iload_n (pc := 454) hx hb dL_law_454 rfl (lv_at hl 3 rfl) ?_
  refine lv_iconst (v := 2) (pc := 455) hx hb dL_law_455 (by decide) ?_
  refine lv_iadd (pc := 456) hx hb dL_law_456 ?_
  refine l_sld (pc := 457) K hH hi2 dL_law_457 ?_
  refine l_callY (pc := 458) (rest := [.int r]) K hH hl.1 rfl (mX11_slip e2) ky_X11_slip km_L_48 ⟨Nat.le_of_ble_eq_true rfl, Nat.le_of_ble_eq_true rfl⟩ ⟨Nat.le_of_ble_eq_true rfl, Nat.le_of_ble_eq_true rfl⟩ rfl (Nat.le_of_ble_eq_true rfl) dL_law_458 rfl (fun H locs hH => ?_)
  refine lv_icmp_eq (tgt := 1307) (pc := 461) hx hb dL_law_461 (by decide) (fun _ => ?_) (fun hc => absurd rfl hc)
  exact hk hI hH hl
set_option maxRecDepth 100000 in
set_option maxHeartbeats 4000000 in
theorem lc_take (hs : ∀ a1 a2 : Int32, sOK I (fX10_take a1 a2) (fX11_take a1 a2)) (K : lawK p s m meth c b L xs D cA adx adm B2) (hi1 : vp_in (x3 + 1) L) (hi2 : vp_in (x3 + 2) L) (hi3 : vp_in (x3 + 3) L) (hi4 : vp_in (x3 + 4) L) (hi5 : vp_in (x3 + 5) L)
    (hk : ∀ {x y : gS} {H : Heap} {locs : List Loc} {ls : Array Slot}, I x y → lawH s D cA adx adm x y H locs → lv_has ls 4 [(0, .ref b), (1, .ref (adx 0)), (2, .ref (adm 0)), (3, .int x3)] → W p l e room_1 s m #[Value.ref b] below meth c H locs 265 8728 Q (F0 m 1307 ls []))
    {x y : gS} {H : Heap} {locs : List Loc} {ls : Array Slot} (hI : I x y) (hH : lawH s D cA adx adm x y H locs) (hl : lv_has ls 4 [(0, .ref b), (1, .ref (adx 0)), (2, .ref (adm 0)), (3, .int x3)]) : W p l e room_1 s m #[Value.ref b] below meth c H locs 265 8728 Q (F0 m 466 ls []) := by
  obtain ⟨hx, hb, hml, hown, hts⟩ := id K.1
  refine lv_aload_n (pc := 466) hx hb dL_law_466 rfl (lv_at hl 1 rfl) ?_
  refine lv_aload_n (pc := 467) hx hb dL_law_467 rfl (lv_at hl 0 rfl) ?_
  refine lv_iload_n (pc := 468) hx hb dL_law_468 rfl (lv_at hl 3 rfl) ?_
  refine lv_iconst (v := 1) (pc := 469) hx hb dL_law_469 (by decide) ?_
  refine lv_iadd (pc := 470) hx hb dL_law_470 ?_
  refine l_sld (pc := 471) K hH hi1 dL_law_471 ?_
  refine lv_aload_n (pc := 472) hx hb dL_law_472 rfl (lv_at hl 0 rfl) ?_
  refine lv_iload_n (pc := 473) hx hb dL_law_473 rfl (lv_at hl 3 rfl) ?_
  refine lv_iconst (v := 2) (pc := 474) hx hb dL_law_474 (by decide) ?_
  refine lv_iadd (pc := 475) hx hb dL_law_475 ?_
  refine l_sld (pc := 476) K hH hi2 dL_law_476 ?_
  obtain ⟨r, x1, y1, e1, e2, hI⟩ := hs (xs (x3 + 1).toNatClampNeg) (xs (x3 + 2).toNatClampNeg) x y hI
  refine l_callX (pc := 477) (rest := []) K hH hl.1 rfl (mX10_take e1) ky_X10_take km_L_49 ⟨Nat.le_of_ble_eq_true rfl, Nat.le_of_ble_eq_true rfl⟩ ⟨Nat.le_of_ble_eq_true rfl, Nat.le_of_ble_eq_true rfl⟩ rfl (Nat.le_of_ble_eq_true rfl) dL_law_477 rfl (fun H locs hH => ?_)
  refine lv_aload_n (pc := 480) hx hb dL_law_480 rfl (lv_at hl 2 rfl) ?_
  refine lv_aload_n (pc := 481) hx hb dL_law_481 rfl (lv_at hl 0 rfl) ?_
  refine lv_iload_n (pc := 482) hx hb dL_law_482 rfl (lv_at hl 3 rfl) ?_
  refine lv_iconst (v := 1) (pc := 483) hx hb dL_law_483 (by decide) ?_
  refine lv_iadd (pc := 484) hx hb dL_law_484 ?_
  refine l_sld (pc := 485) K hH hi1 dL_law_485 ?_
  refine lv_aload_n (pc := 486) hx hb dL_law_486 rfl (lv_at hl 0 rfl) ?_
  refine lv_iload_n (pc := 487) hx hb dL_law_487 rfl (lv_at hl 3 rfl) ?_
  refine lv_iconst (v := 2) (pc := 488) hx hb dL_law_488 (by decide) ?_
  refine lv_iadd (pc := 489) hx hb dL_law_489 ?_
  refine l_sld (pc := 490) K hH hi2 dL_law_490 ?_
  refine l_callY (pc := 491) (rest := [.int r]) K hH hl.1 rfl (mX11_take e2) ky_X11_take km_L_52 ⟨Nat.le_of_ble_eq_true rfl, Nat.le_of_ble_eq_true rfl⟩ ⟨Nat.le_of_ble_eq_true rfl, Nat.le_of_ble_eq_true rfl⟩ rfl (Nat.le_of_ble_eq_true rfl) dL_law_491 rfl (fun H locs hH => ?_)
  refine lv_icmp_eq (tgt := 1307) (pc := 494) hx hb dL_law_494 (by decide) (fun _ => ?_) (fun hc => absurd rfl hc)
  exact hk hI hH hl
set_option maxRecDepth 100000 in
set_option maxHeartbeats 4000000 in
theorem lc_rain (hs : sOK I fX10_rain fX11_rain) (K : lawK p s m meth c b L xs D cA adx adm B2) (hi1 : vp_in (x3 + 1) L) (hi2 : vp_in (x3 + 2) L) (hi3 : vp_in (x3 + 3) L) (hi4 : vp_in (x3 + 4) L) (hi5 : vp_in (x3 + 5) L)
    (hk : ∀ {x y : gS} {H : Heap} {locs : List Loc} {ls : Array Slot}, I x y → lawH s D cA adx adm x y H locs → lv_has ls 4 [(0, .ref b), (1, .ref (adx 0)), (2, .ref (adm 0)), (3, .int x3)] → W p l e room_1 s m #[Value.ref b] below meth c H locs 265 8728 Q (F0 m 1307 ls []))
    {x y : gS} {H : Heap} {locs : List Loc} {ls : Array Slot} (hI : I x y) (hH : lawH s D cA adx adm x y H locs) (hl : lv_has ls 4 [(0, .ref b), (1, .ref (adx 0)), (2, .ref (adm 0)), (3, .int x3)]) : W p l e room_1 s m #[Value.ref b] below meth c H locs 265 8728 Q (F0 m 499 ls []) := by
  obtain ⟨hx, hb, hml, hown, hts⟩ := id K.1
  refine lv_aload_n (pc := 499) hx hb dL_law_499 rfl (lv_at hl 1 rfl) ?_
  obtain ⟨r, x1, y1, e1, e2, hI⟩ := hs x y hI
  refine l_callX (pc := 500) (rest := []) K hH hl.1 rfl (mX10_rain e1) ky_X10_rain km_L_53 ⟨Nat.le_of_ble_eq_true rfl, Nat.le_of_ble_eq_true rfl⟩ ⟨Nat.le_of_ble_eq_true rfl, Nat.le_of_ble_eq_true rfl⟩ rfl (Nat.le_of_ble_eq_true rfl) dL_law_500 rfl (fun H locs hH => ?_)
  refine lv_aload_n (pc := 503) hx hb dL_law_503 rfl (lv_at hl 2 rfl) ?_
  refine l_callY (pc := 504) (rest := [.int r]) K hH hl.1 rfl (mX11_rain e2) ky_X11_rain km_L_56 ⟨Nat.le_of_ble_eq_true rfl, Nat.le_of_ble_eq_true rfl⟩ ⟨Nat.le_of_ble_eq_true rfl, Nat.le_of_ble_eq_true rfl⟩ rfl (Nat.le_of_ble_eq_true rfl) dL_law_504 rfl (fun H locs hH => ?_)
  refine lv_icmp_eq (tgt := 1307) (pc := 507) hx hb dL_law_507 (by decide) (fun _ => ?_) (fun hc => absurd rfl hc)
  exact hk hI hH hl
set_option maxRecDepth 100000 in
set_option maxHeartbeats 4000000 in
theorem lc_give (hs : ∀ a1 : Int32, sOK I (fX10_give a1) (fX11_give a1)) (K : lawK p s m meth c b L xs D cA adx adm B2) (hi1 : vp_in (x3 + 1) L) (hi2 : vp_in (x3 + 2) L) (hi3 : vp_in (x3 + 3) L) (hi4 : vp_in (x3 + 4) L) (hi5 : vp_in (x3 + 5) L)
    (hk : ∀ {x y : gS} {H : Heap} {locs : List Loc} {ls : Array Slot}, I x y → lawH s D cA adx adm x y H locs → lv_has ls 4 [(0, .ref b), (1, .ref (adx 0)), (2, .ref (adm 0)), (3, .int x3)] → W p l e room_1 s m #[Value.ref b] below meth c H locs 265 8728 Q (F0 m 1307 ls []))
    {x y : gS} {H : Heap} {locs : List Loc} {ls : Array Slot} (hI : I x y) (hH : lawH s D cA adx adm x y H locs) (hl : lv_has ls 4 [(0, .ref b), (1, .ref (adx 0)), (2, .ref (adm 0)), (3, .int x3)]) : W p l e room_1 s m #[Value.ref b] below meth c H locs 265 8728 Q (F0 m 512 ls []) := by
  obtain ⟨hx, hb, hml, hown, hts⟩ := id K.1
  refine lv_aload_n (pc := 512) hx hb dL_law_512 rfl (lv_at hl 1 rfl) ?_
  refine lv_aload_n (pc := 513) hx hb dL_law_513 rfl (lv_at hl 0 rfl) ?_
  refine lv_iload_n (pc := 514) hx hb dL_law_514 rfl (lv_at hl 3 rfl) ?_
  refine lv_iconst (v := 1) (pc := 515) hx hb dL_law_515 (by decide) ?_
  refine lv_iadd (pc := 516) hx hb dL_law_516 ?_
  refine l_sld (pc := 517) K hH hi1 dL_law_517 ?_
  obtain ⟨r, x1, y1, e1, e2, hI⟩ := hs (xs (x3 + 1).toNatClampNeg) x y hI
  refine l_callX (pc := 518) (rest := []) K hH hl.1 rfl (mX10_give e1) ky_X10_give km_L_57 ⟨Nat.le_of_ble_eq_true rfl, Nat.le_of_ble_eq_true rfl⟩ ⟨Nat.le_of_ble_eq_true rfl, Nat.le_of_ble_eq_true rfl⟩ rfl (Nat.le_of_ble_eq_true rfl) dL_law_518 rfl (fun H locs hH => ?_)
  refine lv_aload_n (pc := 521) hx hb dL_law_521 rfl (lv_at hl 2 rfl) ?_
  refine lv_aload_n (pc := 522) hx hb dL_law_522 rfl (lv_at hl 0 rfl) ?_
  refine lv_iload_n (pc := 523) hx hb dL_law_523 rfl (lv_at hl 3 rfl) ?_
  refine lv_iconst (v := 1) (pc := 524) hx hb dL_law_524 (by decide) ?_
  refine lv_iadd (pc := 525) hx hb dL_law_525 ?_
  refine l_sld (pc := 526) K hH hi1 dL_law_526 ?_
  refine l_callY (pc := 527) (rest := [.int r]) K hH hl.1 rfl (mX11_give e2) ky_X11_give km_L_60 ⟨Nat.le_of_ble_eq_true rfl, Nat.le_of_ble_eq_true rfl⟩ ⟨Nat.le_of_ble_eq_true rfl, Nat.le_of_ble_eq_true rfl⟩ rfl (Nat.le_of_ble_eq_true rfl) dL_law_527 rfl (fun H locs hH => ?_)
  refine lv_icmp_eq (tgt := 1307) (pc := 530) hx hb dL_law_530 (by decide) (fun _ => ?_) (fun hc => absurd rfl hc)
  exact hk hI hH hl
set_option maxRecDepth 100000 in
set_option maxHeartbeats 4000000 in
theorem lc_night (hs : sOK I fX10_night fX11_night) (K : lawK p s m meth c b L xs D cA adx adm B2) (hi1 : vp_in (x3 + 1) L) (hi2 : vp_in (x3 + 2) L) (hi3 : vp_in (x3 + 3) L) (hi4 : vp_in (x3 + 4) L) (hi5 : vp_in (x3 + 5) L)
    (hk : ∀ {x y : gS} {H : Heap} {locs : List Loc} {ls : Array Slot}, I x y → lawH s D cA adx adm x y H locs → lv_has ls 4 [(0, .ref b), (1, .ref (adx 0)), (2, .ref (adm 0)), (3, .int x3)] → W p l e room_1 s m #[Value.ref b] below meth c H locs 265 8728 Q (F0 m 1307 ls []))
    {x y : gS} {H : Heap} {locs : List Loc} {ls : Array Slot} (hI : I x y) (hH : lawH s D cA adx adm x y H locs) (hl : lv_has ls 4 [(0, .ref b), (1, .ref (adx 0)), (2, .ref (adm 0)), (3, .int x3)]) : W p l e room_1 s m #[Value.ref b] below meth c H locs 265 8728 Q (F0 m 535 ls []) := by
  obtain ⟨hx, hb, hml, hown, hts⟩ := id K.1
  refine lv_aload_n (pc := 535) hx hb dL_law_535 rfl (lv_at hl 1 rfl) ?_
  obtain ⟨r, x1, y1, e1, e2, hI⟩ := hs x y hI
  refine l_callX (pc := 536) (rest := []) K hH hl.1 rfl (mX10_night e1) ky_X10_night km_L_61 ⟨Nat.le_of_ble_eq_true rfl, Nat.le_of_ble_eq_true rfl⟩ ⟨Nat.le_of_ble_eq_true rfl, Nat.le_of_ble_eq_true rfl⟩ rfl (Nat.le_of_ble_eq_true rfl) dL_law_536 rfl (fun H locs hH => ?_)
  refine lv_aload_n (pc := 539) hx hb dL_law_539 rfl (lv_at hl 2 rfl) ?_
  refine l_callY (pc := 540) (rest := [.int r]) K hH hl.1 rfl (mX11_night e2) ky_X11_night km_L_64 ⟨Nat.le_of_ble_eq_true rfl, Nat.le_of_ble_eq_true rfl⟩ ⟨Nat.le_of_ble_eq_true rfl, Nat.le_of_ble_eq_true rfl⟩ rfl (Nat.le_of_ble_eq_true rfl) dL_law_540 rfl (fun H locs hH => ?_)
  refine lv_icmp_eq (tgt := 1307) (pc := 543) hx hb dL_law_543 (by decide) (fun _ => ?_) (fun hc => absurd rfl hc)
  exact hk hI hH hl
set_option maxRecDepth 100000 in
set_option maxHeartbeats 4000000 in
theorem lc_undo (hs : sOK I fX10_undo fX11_undo) (K : lawK p s m meth c b L xs D cA adx adm B2) (hi1 : vp_in (x3 + 1) L) (hi2 : vp_in (x3 + 2) L) (hi3 : vp_in (x3 + 3) L) (hi4 : vp_in (x3 + 4) L) (hi5 : vp_in (x3 + 5) L)
    (hk : ∀ {x y : gS} {H : Heap} {locs : List Loc} {ls : Array Slot}, I x y → lawH s D cA adx adm x y H locs → lv_has ls 4 [(0, .ref b), (1, .ref (adx 0)), (2, .ref (adm 0)), (3, .int x3)] → W p l e room_1 s m #[Value.ref b] below meth c H locs 265 8728 Q (F0 m 1307 ls []))
    {x y : gS} {H : Heap} {locs : List Loc} {ls : Array Slot} (hI : I x y) (hH : lawH s D cA adx adm x y H locs) (hl : lv_has ls 4 [(0, .ref b), (1, .ref (adx 0)), (2, .ref (adm 0)), (3, .int x3)]) : W p l e room_1 s m #[Value.ref b] below meth c H locs 265 8728 Q (F0 m 548 ls []) := by
  obtain ⟨hx, hb, hml, hown, hts⟩ := id K.1
  refine lv_aload_n (pc := 548) hx hb dL_law_548 rfl (lv_at hl 1 rfl) ?_
  obtain ⟨r, x1, y1, e1, e2, hI⟩ := hs x y hI
  refine l_callX (pc := 549) (rest := []) K hH hl.1 rfl (mX10_undo e1) ky_X10_undo km_L_65 ⟨Nat.le_of_ble_eq_true rfl, Nat.le_of_ble_eq_true rfl⟩ ⟨Nat.le_of_ble_eq_true rfl, Nat.le_of_ble_eq_true rfl⟩ rfl (Nat.le_of_ble_eq_true rfl) dL_law_549 rfl (fun H locs hH => ?_)
  refine lv_aload_n (pc := 552) hx hb dL_law_552 rfl (lv_at hl 2 rfl) ?_
  refine l_callY (pc := 553) (rest := [.int r]) K hH hl.1 rfl (mX11_undo e2) ky_X11_undo km_L_69 ⟨Nat.le_of_ble_eq_true rfl, Nat.le_of_ble_eq_true rfl⟩ ⟨Nat.le_of_ble_eq_true rfl, Nat.le_of_ble_eq_true rfl⟩ rfl (Nat.le_of_ble_eq_true rfl) dL_law_553 rfl (fun H locs hH => ?_)
  refine lv_icmp_eq (tgt := 1307) (pc := 556) hx hb dL_law_556 (by decide) (fun _ => ?_) (fun hc => absurd rfl hc)
  exact hk hI hH hl
set_option maxRecDepth 100000 in
set_option maxHeartbeats 4000000 in
theorem lc_redo (hs : sOK I fX10_redo fX11_redo) (K : lawK p s m meth c b L xs D cA adx adm B2) (hi1 : vp_in (x3 + 1) L) (hi2 : vp_in (x3 + 2) L) (hi3 : vp_in (x3 + 3) L) (hi4 : vp_in (x3 + 4) L) (hi5 : vp_in (x3 + 5) L)
    (hk : ∀ {x y : gS} {H : Heap} {locs : List Loc} {ls : Array Slot}, I x y → lawH s D cA adx adm x y H locs → lv_has ls 4 [(0, .ref b), (1, .ref (adx 0)), (2, .ref (adm 0)), (3, .int x3)] → W p l e room_1 s m #[Value.ref b] below meth c H locs 265 8728 Q (F0 m 1307 ls []))
    {x y : gS} {H : Heap} {locs : List Loc} {ls : Array Slot} (hI : I x y) (hH : lawH s D cA adx adm x y H locs) (hl : lv_has ls 4 [(0, .ref b), (1, .ref (adx 0)), (2, .ref (adm 0)), (3, .int x3)]) : W p l e room_1 s m #[Value.ref b] below meth c H locs 265 8728 Q (F0 m 561 ls []) := by
  obtain ⟨hx, hb, hml, hown, hts⟩ := id K.1
  refine lv_aload_n (pc := 561) hx hb dL_law_561 rfl (lv_at hl 1 rfl) ?_
  obtain ⟨r, x1, y1, e1, e2, hI⟩ := hs x y hI
  refine l_callX (pc := 562) (rest := []) K hH hl.1 rfl (mX10_redo e1) ky_X10_redo km_L_70 ⟨Nat.le_of_ble_eq_true rfl, Nat.le_of_ble_eq_true rfl⟩ ⟨Nat.le_of_ble_eq_true rfl, Nat.le_of_ble_eq_true rfl⟩ rfl (Nat.le_of_ble_eq_true rfl) dL_law_562 rfl (fun H locs hH => ?_)
  refine lv_aload_n (pc := 565) hx hb dL_law_565 rfl (lv_at hl 2 rfl) ?_
  refine l_callY (pc := 566) (rest := [.int r]) K hH hl.1 rfl (mX11_redo e2) ky_X11_redo km_L_73 ⟨Nat.le_of_ble_eq_true rfl, Nat.le_of_ble_eq_true rfl⟩ ⟨Nat.le_of_ble_eq_true rfl, Nat.le_of_ble_eq_true rfl⟩ rfl (Nat.le_of_ble_eq_true rfl) dL_law_566 rfl (fun H locs hH => ?_)
  refine lv_icmp_eq (tgt := 1307) (pc := 569) hx hb dL_law_569 (by decide) (fun _ => ?_) (fun hc => absurd rfl hc)
  exact hk hI hH hl
set_option maxRecDepth 100000 in
set_option maxHeartbeats 4000000 in
theorem lc_way (hs : ∀ a1 a2 : Int32, sOK I (fX10_way a1 a2) (fX11_way a1 a2)) (K : lawK p s m meth c b L xs D cA adx adm B2) (hi1 : vp_in (x3 + 1) L) (hi2 : vp_in (x3 + 2) L) (hi3 : vp_in (x3 + 3) L) (hi4 : vp_in (x3 + 4) L) (hi5 : vp_in (x3 + 5) L)
    (hk : ∀ {x y : gS} {H : Heap} {locs : List Loc} {ls : Array Slot}, I x y → lawH s D cA adx adm x y H locs → lv_has ls 4 [(0, .ref b), (1, .ref (adx 0)), (2, .ref (adm 0)), (3, .int x3)] → W p l e room_1 s m #[Value.ref b] below meth c H locs 265 8728 Q (F0 m 1307 ls []))
    {x y : gS} {H : Heap} {locs : List Loc} {ls : Array Slot} (hI : I x y) (hH : lawH s D cA adx adm x y H locs) (hl : lv_has ls 4 [(0, .ref b), (1, .ref (adx 0)), (2, .ref (adm 0)), (3, .int x3)]) : W p l e room_1 s m #[Value.ref b] below meth c H locs 265 8728 Q (F0 m 574 ls []) := by
  obtain ⟨hx, hb, hml, hown, hts⟩ := id K.1
  refine lv_aload_n (pc := 574) hx hb dL_law_574 rfl (lv_at hl 1 rfl) ?_
  refine lv_aload_n (pc := 575) hx hb dL_law_575 rfl (lv_at hl 0 rfl) ?_
  refine lv_iload_n (pc := 576) hx hb dL_law_576 rfl (lv_at hl 3 rfl) ?_
  refine lv_iconst (v := 1) (pc := 577) hx hb dL_law_577 (by decide) ?_
  refine lv_iadd (pc := 578) hx hb dL_law_578 ?_
  refine l_sld (pc := 579) K hH hi1 dL_law_579 ?_
  refine lv_aload_n (pc := 580) hx hb dL_law_580 rfl (lv_at hl 0 rfl) ?_
  refine lv_iload_n (pc := 581) hx hb dL_law_581 rfl (lv_at hl 3 rfl) ?_
  refine lv_iconst (v := 2) (pc := 582) hx hb dL_law_582 (by decide) ?_
  refine lv_iadd (pc := 583) hx hb dL_law_583 ?_
  refine l_sld (pc := 584) K hH hi2 dL_law_584 ?_
  obtain ⟨r, x1, y1, e1, e2, hI⟩ := hs (xs (x3 + 1).toNatClampNeg) (xs (x3 + 2).toNatClampNeg) x y hI
  refine l_callX (pc := 585) (rest := []) K hH hl.1 rfl (mX10_way e1) ky_X10_way km_L_74 ⟨Nat.le_of_ble_eq_true rfl, Nat.le_of_ble_eq_true rfl⟩ ⟨Nat.le_of_ble_eq_true rfl, Nat.le_of_ble_eq_true rfl⟩ rfl (Nat.le_of_ble_eq_true rfl) dL_law_585 rfl (fun H locs hH => ?_)
  refine lv_aload_n (pc := 588) hx hb dL_law_588 rfl (lv_at hl 2 rfl) ?_
  refine lv_aload_n (pc := 589) hx hb dL_law_589 rfl (lv_at hl 0 rfl) ?_
  refine lv_iload_n (pc := 590) hx hb dL_law_590 rfl (lv_at hl 3 rfl) ?_
  refine lv_iconst (v := 1) (pc := 591) hx hb dL_law_591 (by decide) ?_
  refine lv_iadd (pc := 592) hx hb dL_law_592 ?_
  refine l_sld (pc := 593) K hH hi1 dL_law_593 ?_
  refine lv_aload_n (pc := 594) hx hb dL_law_594 rfl (lv_at hl 0 rfl) ?_
  refine lv_iload_n (pc := 595) hx hb dL_law_595 rfl (lv_at hl 3 rfl) ?_
  refine lv_iconst (v := 2) (pc := 596) hx hb dL_law_596 (by decide) ?_
  refine lv_iadd (pc := 597) hx hb dL_law_597 ?_
  refine l_sld (pc := 598) K hH hi2 dL_law_598 ?_
  refine l_callY (pc := 599) (rest := [.int r]) K hH hl.1 rfl (mX11_way e2) ky_X11_way km_L_77 ⟨Nat.le_of_ble_eq_true rfl, Nat.le_of_ble_eq_true rfl⟩ ⟨Nat.le_of_ble_eq_true rfl, Nat.le_of_ble_eq_true rfl⟩ rfl (Nat.le_of_ble_eq_true rfl) dL_law_599 rfl (fun H locs hH => ?_)
  refine lv_icmp_eq (tgt := 1307) (pc := 602) hx hb dL_law_602 (by decide) (fun _ => ?_) (fun hc => absurd rfl hc)
  exact hk hI hH hl
set_option maxRecDepth 100000 in
set_option maxHeartbeats 4000000 in
theorem lc_surest (hs : ∀ a1 a2 a3 : Int32, sOK I (fX10_surest a1 a2 a3) (fX11_surest a1 a2 a3)) (K : lawK p s m meth c b L xs D cA adx adm B2) (hi1 : vp_in (x3 + 1) L) (hi2 : vp_in (x3 + 2) L) (hi3 : vp_in (x3 + 3) L) (hi4 : vp_in (x3 + 4) L) (hi5 : vp_in (x3 + 5) L)
    (hk : ∀ {x y : gS} {H : Heap} {locs : List Loc} {ls : Array Slot}, I x y → lawH s D cA adx adm x y H locs → lv_has ls 4 [(0, .ref b), (1, .ref (adx 0)), (2, .ref (adm 0)), (3, .int x3)] → W p l e room_1 s m #[Value.ref b] below meth c H locs 265 8728 Q (F0 m 1307 ls []))
    {x y : gS} {H : Heap} {locs : List Loc} {ls : Array Slot} (hI : I x y) (hH : lawH s D cA adx adm x y H locs) (hl : lv_has ls 4 [(0, .ref b), (1, .ref (adx 0)), (2, .ref (adm 0)), (3, .int x3)]) : W p l e room_1 s m #[Value.ref b] below meth c H locs 265 8728 Q (F0 m 607 ls []) := by
  obtain ⟨hx, hb, hml, hown, hts⟩ := id K.1
  refine lv_aload_n (pc := 607) hx hb dL_law_607 rfl (lv_at hl 1 rfl) ?_
  refine lv_aload_n (pc := 608) hx hb dL_law_608 rfl (lv_at hl 0 rfl) ?_
  refine lv_iload_n (pc := 609) hx hb dL_law_609 rfl (lv_at hl 3 rfl) ?_
  refine lv_iconst (v := 1) (pc := 610) hx hb dL_law_610 (by decide) ?_
  refine lv_iadd (pc := 611) hx hb dL_law_611 ?_
  refine l_sld (pc := 612) K hH hi1 dL_law_612 ?_
  refine lv_aload_n (pc := 613) hx hb dL_law_613 rfl (lv_at hl 0 rfl) ?_
  refine lv_iload_n (pc := 614) hx hb dL_law_614 rfl (lv_at hl 3 rfl) ?_
  refine lv_iconst (v := 2) (pc := 615) hx hb dL_law_615 (by decide) ?_
  refine lv_iadd (pc := 616) hx hb dL_law_616 ?_
  refine l_sld (pc := 617) K hH hi2 dL_law_617 ?_
  refine lv_aload_n (pc := 618) hx hb dL_law_618 rfl (lv_at hl 0 rfl) ?_
  refine lv_iload_n (pc := 619) hx hb dL_law_619 rfl (lv_at hl 3 rfl) ?_
  refine lv_iconst (v := 3) (pc := 620) hx hb dL_law_620 (by decide) ?_
  refine lv_iadd (pc := 621) hx hb dL_law_621 ?_
  refine l_sld (pc := 622) K hH hi3 dL_law_622 ?_
  obtain ⟨r, x1, y1, e1, e2, hI⟩ := hs (xs (x3 + 1).toNatClampNeg) (xs (x3 + 2).toNatClampNeg) (xs (x3 + 3).toNatClampNeg) x y hI
  refine l_callX (pc := 623) (rest := []) K hH hl.1 rfl (mX10_surest e1) ky_X10_surest km_L_78 ⟨Nat.le_of_ble_eq_true rfl, Nat.le_of_ble_eq_true rfl⟩ ⟨Nat.le_of_ble_eq_true rfl, Nat.le_of_ble_eq_true rfl⟩ rfl (Nat.le_of_ble_eq_true rfl) dL_law_623 rfl (fun H locs hH => ?_)
  refine lv_aload_n (pc := 626) hx hb dL_law_626 rfl (lv_at hl 2 rfl) ?_
  refine lv_aload_n (pc := 627) hx hb dL_law_627 rfl (lv_at hl 0 rfl) ?_
  refine lv_iload_n (pc := 628) hx hb dL_law_628 rfl (lv_at hl 3 rfl) ?_
  refine lv_iconst (v := 1) (pc := 629) hx hb dL_law_629 (by decide) ?_
  refine lv_iadd (pc := 630) hx hb dL_law_630 ?_
  refine l_sld (pc := 631) K hH hi1 dL_law_631 ?_
  refine lv_aload_n (pc := 632) hx hb dL_law_632 rfl (lv_at hl 0 rfl) ?_
  refine lv_iload_n (pc := 633) hx hb dL_law_633 rfl (lv_at hl 3 rfl) ?_
  refine lv_iconst (v := 2) (pc := 634) hx hb dL_law_634 (by decide) ?_
  refine lv_iadd (pc := 635) hx hb dL_law_635 ?_
  refine l_sld (pc := 636) K hH hi2 dL_law_636 ?_
  refine lv_aload_n (pc := 637) hx hb dL_law_637 rfl (lv_at hl 0 rfl) ?_
  refine lv_iload_n (pc := 638) hx hb dL_law_638 rfl (lv_at hl 3 rfl) ?_
  refine lv_iconst (v := 3) (pc := 639) hx hb dL_law_639 (by decide) ?_
  refine lv_iadd (pc := 640) hx hb dL_law_640 ?_
  refine l_sld (pc := 641) K hH hi3 dL_law_641 ?_
  refine l_callY (pc := 642) (rest := [.int r]) K hH hl.1 rfl (mX11_surest e2) ky_X11_surest km_L_82 ⟨Nat.le_of_ble_eq_true rfl, Nat.le_of_ble_eq_true rfl⟩ ⟨Nat.le_of_ble_eq_true rfl, Nat.le_of_ble_eq_true rfl⟩ rfl (Nat.le_of_ble_eq_true rfl) dL_law_642 rfl (fun H locs hH => ?_)
  refine lv_icmp_eq (tgt := 1307) (pc := 645) hx hb dL_law_645 (by decide) (fun _ => ?_) (fun hc => absurd rfl hc)
  exact hk hI hH hl
set_option maxRecDepth 100000 in
set_option maxHeartbeats 4000000 in
theorem lc_makes (hs : ∀ a1 : Int32, sOK I (fX10_makes a1) (fX11_makes a1)) (K : lawK p s m meth c b L xs D cA adx adm B2) (hi1 : vp_in (x3 + 1) L) (hi2 : vp_in (x3 + 2) L) (hi3 : vp_in (x3 + 3) L) (hi4 : vp_in (x3 + 4) L) (hi5 : vp_in (x3 + 5) L)
    (hk : ∀ {x y : gS} {H : Heap} {locs : List Loc} {ls : Array Slot}, I x y → lawH s D cA adx adm x y H locs → lv_has ls 4 [(0, .ref b), (1, .ref (adx 0)), (2, .ref (adm 0)), (3, .int x3)] → W p l e room_1 s m #[Value.ref b] below meth c H locs 265 8728 Q (F0 m 1307 ls []))
    {x y : gS} {H : Heap} {locs : List Loc} {ls : Array Slot} (hI : I x y) (hH : lawH s D cA adx adm x y H locs) (hl : lv_has ls 4 [(0, .ref b), (1, .ref (adx 0)), (2, .ref (adm 0)), (3, .int x3)]) : W p l e room_1 s m #[Value.ref b] below meth c H locs 265 8728 Q (F0 m 650 ls []) := by
  obtain ⟨hx, hb, hml, hown, hts⟩ := id K.1
  refine lv_aload_n (pc := 650) hx hb dL_law_650 rfl (lv_at hl 1 rfl) ?_
  refine lv_aload_n (pc := 651) hx hb dL_law_651 rfl (lv_at hl 0 rfl) ?_
  refine lv_iload_n (pc := 652) hx hb dL_law_652 rfl (lv_at hl 3 rfl) ?_
  refine lv_iconst (v := 1) (pc := 653) hx hb dL_law_653 (by decide) ?_
  refine lv_iadd (pc := 654) hx hb dL_law_654 ?_
  refine l_sld (pc := 655) K hH hi1 dL_law_655 ?_
  obtain ⟨r, x1, y1, e1, e2, hI⟩ := hs (xs (x3 + 1).toNatClampNeg) x y hI
  refine l_callX (pc := 656) (rest := []) K hH hl.1 rfl (mX10_makes e1) ky_X10_makes km_L_83 ⟨Nat.le_of_ble_eq_true rfl, Nat.le_of_ble_eq_true rfl⟩ ⟨Nat.le_of_ble_eq_true rfl, Nat.le_of_ble_eq_true rfl⟩ rfl (Nat.le_of_ble_eq_true rfl) dL_law_656 rfl (fun H locs hH => ?_)
  refine lv_aload_n (pc := 659) hx hb dL_law_659 rfl (lv_at hl 2 rfl) ?_
  refine lv_aload_n (pc := 660) hx hb dL_law_660 rfl (lv_at hl 0 rfl) ?_
  refine lv_iload_n (pc := 661) hx hb dL_law_661 rfl (lv_at hl 3 rfl) ?_
  refine lv_iconst (v := 1) (pc := 662) hx hb dL_law_662 (by decide) ?_
  refine lv_iadd (pc := 663) hx hb dL_law_663 ?_
  refine l_sld (pc := 664) K hH hi1 dL_law_664 ?_
  refine l_callY (pc := 665) (rest := [.int r]) K hH hl.1 rfl (mX11_makes e2) ky_X11_makes km_L_86 ⟨Nat.le_of_ble_eq_true rfl, Nat.le_of_ble_eq_true rfl⟩ ⟨Nat.le_of_ble_eq_true rfl, Nat.le_of_ble_eq_true rfl⟩ rfl (Nat.le_of_ble_eq_true rfl) dL_law_665 rfl (fun H locs hH => ?_)
  refine lv_icmp_eq (tgt := 1307) (pc := 668) hx hb dL_law_668 (by decide) (fun _ => ?_) (fun hc => absurd rfl hc)
  exact hk hI hH hl
set_option maxRecDepth 100000 in
set_option maxHeartbeats 4000000 in
theorem lc_hands (hs : ∀ a1 a2 : Int32, sOK I (fX10_hands a1 a2) (fX11_hands a1 a2)) (K : lawK p s m meth c b L xs D cA adx adm B2) (hi1 : vp_in (x3 + 1) L) (hi2 : vp_in (x3 + 2) L) (hi3 : vp_in (x3 + 3) L) (hi4 : vp_in (x3 + 4) L) (hi5 : vp_in (x3 + 5) L)
    (hk : ∀ {x y : gS} {H : Heap} {locs : List Loc} {ls : Array Slot}, I x y → lawH s D cA adx adm x y H locs → lv_has ls 4 [(0, .ref b), (1, .ref (adx 0)), (2, .ref (adm 0)), (3, .int x3)] → W p l e room_1 s m #[Value.ref b] below meth c H locs 265 8728 Q (F0 m 1307 ls []))
    {x y : gS} {H : Heap} {locs : List Loc} {ls : Array Slot} (hI : I x y) (hH : lawH s D cA adx adm x y H locs) (hl : lv_has ls 4 [(0, .ref b), (1, .ref (adx 0)), (2, .ref (adm 0)), (3, .int x3)]) : W p l e room_1 s m #[Value.ref b] below meth c H locs 265 8728 Q (F0 m 673 ls []) := by
  obtain ⟨hx, hb, hml, hown, hts⟩ := id K.1
  refine lv_aload_n (pc := 673) hx hb dL_law_673 rfl (lv_at hl 1 rfl) ?_
  refine lv_aload_n (pc := 674) hx hb dL_law_674 rfl (lv_at hl 0 rfl) ?_
  refine lv_iload_n (pc := 675) hx hb dL_law_675 rfl (lv_at hl 3 rfl) ?_
  refine lv_iconst (v := 1) (pc := 676) hx hb dL_law_676 (by decide) ?_
  refine lv_iadd (pc := 677) hx hb dL_law_677 ?_
  refine l_sld (pc := 678) K hH hi1 dL_law_678 ?_
  refine lv_aload_n (pc := 679) hx hb dL_law_679 rfl (lv_at hl 0 rfl) ?_
  refine lv_iload_n (pc := 680) hx hb dL_law_680 rfl (lv_at hl 3 rfl) ?_
  refine lv_iconst (v := 2) (pc := 681) hx hb dL_law_681 (by decide) ?_
  refine lv_iadd (pc := 682) hx hb dL_law_682 ?_
  refine l_sld (pc := 683) K hH hi2 dL_law_683 ?_
  obtain ⟨r, x1, y1, e1, e2, hI⟩ := hs (xs (x3 + 1).toNatClampNeg) (xs (x3 + 2).toNatClampNeg) x y hI
  refine l_callX (pc := 684) (rest := []) K hH hl.1 rfl (mX10_hands e1) ky_X10_hands km_L_87 ⟨Nat.le_of_ble_eq_true rfl, Nat.le_of_ble_eq_true rfl⟩ ⟨Nat.le_of_ble_eq_true rfl, Nat.le_of_ble_eq_true rfl⟩ rfl (Nat.le_of_ble_eq_true rfl) dL_law_684 rfl (fun H locs hH => ?_)
  refine lv_aload_n (pc := 687) hx hb dL_law_687 rfl (lv_at hl 2 rfl) ?_
  refine lv_aload_n (pc := 688) hx hb dL_law_688 rfl (lv_at hl 0 rfl) ?_
  refine lv_iload_n (pc := 689) hx hb dL_law_689 rfl (lv_at hl 3 rfl) ?_
  refine lv_iconst (v := 1) (pc := 690) hx hb dL_law_690 (by decide) ?_
  refine lv_iadd (pc := 691) hx hb dL_law_691 ?_
  refine l_sld (pc := 692) K hH hi1 dL_law_692 ?_
  refine lv_aload_n (pc := 693) hx hb dL_law_693 rfl (lv_at hl 0 rfl) ?_
  refine lv_iload_n (pc := 694) hx hb dL_law_694 rfl (lv_at hl 3 rfl) ?_
  refine lv_iconst (v := 2) (pc := 695) hx hb dL_law_695 (by decide) ?_
  refine lv_iadd (pc := 696) hx hb dL_law_696 ?_
  refine l_sld (pc := 697) K hH hi2 dL_law_697 ?_
  refine l_callY (pc := 698) (rest := [.int r]) K hH hl.1 rfl (mX11_hands e2) ky_X11_hands km_L_90 ⟨Nat.le_of_ble_eq_true rfl, Nat.le_of_ble_eq_true rfl⟩ ⟨Nat.le_of_ble_eq_true rfl, Nat.le_of_ble_eq_true rfl⟩ rfl (Nat.le_of_ble_eq_true rfl) dL_law_698 rfl (fun H locs hH => ?_)
  refine lv_icmp_eq (tgt := 1307) (pc := 701) hx hb dL_law_701 (by decide) (fun _ => ?_) (fun hc => absurd rfl hc)
  exact hk hI hH hl
set_option maxRecDepth 100000 in
set_option maxHeartbeats 4000000 in
theorem lc_deal (hs : ∀ a1 a2 : Int32, sOK I (fX10_deal a1 a2) (fX11_deal a1 a2)) (K : lawK p s m meth c b L xs D cA adx adm B2) (hi1 : vp_in (x3 + 1) L) (hi2 : vp_in (x3 + 2) L) (hi3 : vp_in (x3 + 3) L) (hi4 : vp_in (x3 + 4) L) (hi5 : vp_in (x3 + 5) L)
    (hk : ∀ {x y : gS} {H : Heap} {locs : List Loc} {ls : Array Slot}, I x y → lawH s D cA adx adm x y H locs → lv_has ls 4 [(0, .ref b), (1, .ref (adx 0)), (2, .ref (adm 0)), (3, .int x3)] → W p l e room_1 s m #[Value.ref b] below meth c H locs 265 8728 Q (F0 m 1307 ls []))
    {x y : gS} {H : Heap} {locs : List Loc} {ls : Array Slot} (hI : I x y) (hH : lawH s D cA adx adm x y H locs) (hl : lv_has ls 4 [(0, .ref b), (1, .ref (adx 0)), (2, .ref (adm 0)), (3, .int x3)]) : W p l e room_1 s m #[Value.ref b] below meth c H locs 265 8728 Q (F0 m 706 ls []) := by
  obtain ⟨hx, hb, hml, hown, hts⟩ := id K.1
  refine lv_aload_n (pc := 706) hx hb dL_law_706 rfl (lv_at hl 1 rfl) ?_
  refine lv_aload_n (pc := 707) hx hb dL_law_707 rfl (lv_at hl 0 rfl) ?_
  refine lv_iload_n (pc := 708) hx hb dL_law_708 rfl (lv_at hl 3 rfl) ?_
  refine lv_iconst (v := 1) (pc := 709) hx hb dL_law_709 (by decide) ?_
  refine lv_iadd (pc := 710) hx hb dL_law_710 ?_
  refine l_sld (pc := 711) K hH hi1 dL_law_711 ?_
  refine lv_aload_n (pc := 712) hx hb dL_law_712 rfl (lv_at hl 0 rfl) ?_
  refine lv_iload_n (pc := 713) hx hb dL_law_713 rfl (lv_at hl 3 rfl) ?_
  refine lv_iconst (v := 2) (pc := 714) hx hb dL_law_714 (by decide) ?_
  refine lv_iadd (pc := 715) hx hb dL_law_715 ?_
  refine l_sld (pc := 716) K hH hi2 dL_law_716 ?_
  obtain ⟨r, x1, y1, e1, e2, hI⟩ := hs (xs (x3 + 1).toNatClampNeg) (xs (x3 + 2).toNatClampNeg) x y hI
  refine l_callX (pc := 717) (rest := []) K hH hl.1 rfl (mX10_deal e1) ky_X10_deal km_L_91 ⟨Nat.le_of_ble_eq_true rfl, Nat.le_of_ble_eq_true rfl⟩ ⟨Nat.le_of_ble_eq_true rfl, Nat.le_of_ble_eq_true rfl⟩ rfl (Nat.le_of_ble_eq_true rfl) dL_law_717 rfl (fun H locs hH => ?_)
  refine lv_aload_n (pc := 720) hx hb dL_law_720 rfl (lv_at hl 2 rfl) ?_
  refine lv_aload_n (pc := 721) hx hb dL_law_721 rfl (lv_at hl 0 rfl) ?_
  refine lv_iload_n (pc := 722) hx hb dL_law_722 rfl (lv_at hl 3 rfl) ?_
  refine lv_iconst (v := 1) (pc := 723) hx hb dL_law_723 (by decide) ?_
  refine lv_iadd (pc := 724) hx hb dL_law_724 ?_
  refine l_sld (pc := 725) K hH hi1 dL_law_725 ?_
  refine lv_aload_n (pc := 726) hx hb dL_law_726 rfl (lv_at hl 0 rfl) ?_
  refine lv_iload_n (pc := 727) hx hb dL_law_727 rfl (lv_at hl 3 rfl) ?_
  refine lv_iconst (v := 2) (pc := 728) hx hb dL_law_728 (by decide) ?_
  refine lv_iadd (pc := 729) hx hb dL_law_729 ?_
  refine l_sld (pc := 730) K hH hi2 dL_law_730 ?_
  refine l_callY (pc := 731) (rest := [.int r]) K hH hl.1 rfl (mX11_deal e2) ky_X11_deal km_L_94 ⟨Nat.le_of_ble_eq_true rfl, Nat.le_of_ble_eq_true rfl⟩ ⟨Nat.le_of_ble_eq_true rfl, Nat.le_of_ble_eq_true rfl⟩ rfl (Nat.le_of_ble_eq_true rfl) dL_law_731 rfl (fun H locs hH => ?_)
  refine lv_icmp_eq (tgt := 1307) (pc := 734) hx hb dL_law_734 (by decide) (fun _ => ?_) (fun hc => absurd rfl hc)
  exact hk hI hH hl
set_option maxRecDepth 100000 in
set_option maxHeartbeats 4000000 in
theorem lc_fair (hs : sOK I fX10_fair fX11_fair) (K : lawK p s m meth c b L xs D cA adx adm B2) (hi1 : vp_in (x3 + 1) L) (hi2 : vp_in (x3 + 2) L) (hi3 : vp_in (x3 + 3) L) (hi4 : vp_in (x3 + 4) L) (hi5 : vp_in (x3 + 5) L)
    (hk : ∀ {x y : gS} {H : Heap} {locs : List Loc} {ls : Array Slot}, I x y → lawH s D cA adx adm x y H locs → lv_has ls 4 [(0, .ref b), (1, .ref (adx 0)), (2, .ref (adm 0)), (3, .int x3)] → W p l e room_1 s m #[Value.ref b] below meth c H locs 265 8728 Q (F0 m 1307 ls []))
    {x y : gS} {H : Heap} {locs : List Loc} {ls : Array Slot} (hI : I x y) (hH : lawH s D cA adx adm x y H locs) (hl : lv_has ls 4 [(0, .ref b), (1, .ref (adx 0)), (2, .ref (adm 0)), (3, .int x3)]) : W p l e room_1 s m #[Value.ref b] below meth c H locs 265 8728 Q (F0 m 739 ls []) := by
  obtain ⟨hx, hb, hml, hown, hts⟩ := id K.1
  refine lv_aload_n (pc := 739) hx hb dL_law_739 rfl (lv_at hl 1 rfl) ?_
  obtain ⟨r, x1, y1, e1, e2, hI⟩ := hs x y hI
  refine l_callX (pc := 740) (rest := []) K hH hl.1 rfl (mX10_fair e1) ky_X10_fair km_L_95 ⟨Nat.le_of_ble_eq_true rfl, Nat.le_of_ble_eq_true rfl⟩ ⟨Nat.le_of_ble_eq_true rfl, Nat.le_of_ble_eq_true rfl⟩ rfl (Nat.le_of_ble_eq_true rfl) dL_law_740 rfl (fun H locs hH => ?_)
  refine lv_aload_n (pc := 743) hx hb dL_law_743 rfl (lv_at hl 2 rfl) ?_
  refine l_callY (pc := 744) (rest := [.int r]) K hH hl.1 rfl (mX11_fair e2) ky_X11_fair km_L_98 ⟨Nat.le_of_ble_eq_true rfl, Nat.le_of_ble_eq_true rfl⟩ ⟨Nat.le_of_ble_eq_true rfl, Nat.le_of_ble_eq_true rfl⟩ rfl (Nat.le_of_ble_eq_true rfl) dL_law_744 rfl (fun H locs hH => ?_)
  refine lv_icmp_eq (tgt := 1307) (pc := 747) hx hb dL_law_747 (by decide) (fun _ => ?_) (fun hc => absurd rfl hc)
  exact hk hI hH hl
set_option maxRecDepth 100000 in
set_option maxHeartbeats 4000000 in
theorem lc_good (hs : sOK I fX10_good fX11_good) (K : lawK p s m meth c b L xs D cA adx adm B2) (hi1 : vp_in (x3 + 1) L) (hi2 : vp_in (x3 + 2) L) (hi3 : vp_in (x3 + 3) L) (hi4 : vp_in (x3 + 4) L) (hi5 : vp_in (x3 + 5) L)
    (hk : ∀ {x y : gS} {H : Heap} {locs : List Loc} {ls : Array Slot}, I x y → lawH s D cA adx adm x y H locs → lv_has ls 4 [(0, .ref b), (1, .ref (adx 0)), (2, .ref (adm 0)), (3, .int x3)] → W p l e room_1 s m #[Value.ref b] below meth c H locs 265 8728 Q (F0 m 1307 ls []))
    {x y : gS} {H : Heap} {locs : List Loc} {ls : Array Slot} (hI : I x y) (hH : lawH s D cA adx adm x y H locs) (hl : lv_has ls 4 [(0, .ref b), (1, .ref (adx 0)), (2, .ref (adm 0)), (3, .int x3)]) : W p l e room_1 s m #[Value.ref b] below meth c H locs 265 8728 Q (F0 m 752 ls []) := by
  obtain ⟨hx, hb, hml, hown, hts⟩ := id K.1
  refine lv_aload_n (pc := 752) hx hb dL_law_752 rfl (lv_at hl 1 rfl) ?_
  obtain ⟨r, x1, y1, e1, e2, hI⟩ := hs x y hI
  refine l_callX (pc := 753) (rest := []) K hH hl.1 rfl (mX10_good e1) ky_X10_good km_L_99 ⟨Nat.le_of_ble_eq_true rfl, Nat.le_of_ble_eq_true rfl⟩ ⟨Nat.le_of_ble_eq_true rfl, Nat.le_of_ble_eq_true rfl⟩ rfl (Nat.le_of_ble_eq_true rfl) dL_law_753 rfl (fun H locs hH => ?_)
  refine lv_aload_n (pc := 756) hx hb dL_law_756 rfl (lv_at hl 2 rfl) ?_
  refine l_callY (pc := 757) (rest := [.int r]) K hH hl.1 rfl (mX11_good e2) ky_X11_good km_L_102 ⟨Nat.le_of_ble_eq_true rfl, Nat.le_of_ble_eq_true rfl⟩ ⟨Nat.le_of_ble_eq_true rfl, Nat.le_of_ble_eq_true rfl⟩ rfl (Nat.le_of_ble_eq_true rfl) dL_law_757 rfl (fun H locs hH => ?_)
  refine lv_icmp_eq (tgt := 1307) (pc := 760) hx hb dL_law_760 (by decide) (fun _ => ?_) (fun hc => absurd rfl hc)
  exact hk hI hH hl
set_option maxRecDepth 100000 in
set_option maxHeartbeats 4000000 in
theorem lc_round (hs : ∀ a1 : Int32, sOK I (fX10_round a1) (fX11_round a1)) (K : lawK p s m meth c b L xs D cA adx adm B2) (hi1 : vp_in (x3 + 1) L) (hi2 : vp_in (x3 + 2) L) (hi3 : vp_in (x3 + 3) L) (hi4 : vp_in (x3 + 4) L) (hi5 : vp_in (x3 + 5) L)
    (hk : ∀ {x y : gS} {H : Heap} {locs : List Loc} {ls : Array Slot}, I x y → lawH s D cA adx adm x y H locs → lv_has ls 4 [(0, .ref b), (1, .ref (adx 0)), (2, .ref (adm 0)), (3, .int x3)] → W p l e room_1 s m #[Value.ref b] below meth c H locs 265 8728 Q (F0 m 1307 ls []))
    {x y : gS} {H : Heap} {locs : List Loc} {ls : Array Slot} (hI : I x y) (hH : lawH s D cA adx adm x y H locs) (hl : lv_has ls 4 [(0, .ref b), (1, .ref (adx 0)), (2, .ref (adm 0)), (3, .int x3)]) : W p l e room_1 s m #[Value.ref b] below meth c H locs 265 8728 Q (F0 m 765 ls []) := by
  obtain ⟨hx, hb, hml, hown, hts⟩ := id K.1
  refine lv_aload_n (pc := 765) hx hb dL_law_765 rfl (lv_at hl 1 rfl) ?_
  refine lv_aload_n (pc := 766) hx hb dL_law_766 rfl (lv_at hl 0 rfl) ?_
  refine lv_iload_n (pc := 767) hx hb dL_law_767 rfl (lv_at hl 3 rfl) ?_
  refine lv_iconst (v := 1) (pc := 768) hx hb dL_law_768 (by decide) ?_
  refine lv_iadd (pc := 769) hx hb dL_law_769 ?_
  refine l_sld (pc := 770) K hH hi1 dL_law_770 ?_
  obtain ⟨r, x1, y1, e1, e2, hI⟩ := hs (xs (x3 + 1).toNatClampNeg) x y hI
  refine l_callX (pc := 771) (rest := []) K hH hl.1 rfl (mX10_round e1) ky_X10_round km_L_103 ⟨Nat.le_of_ble_eq_true rfl, Nat.le_of_ble_eq_true rfl⟩ ⟨Nat.le_of_ble_eq_true rfl, Nat.le_of_ble_eq_true rfl⟩ rfl (Nat.le_of_ble_eq_true rfl) dL_law_771 rfl (fun H locs hH => ?_)
  refine lv_aload_n (pc := 774) hx hb dL_law_774 rfl (lv_at hl 2 rfl) ?_
  refine lv_aload_n (pc := 775) hx hb dL_law_775 rfl (lv_at hl 0 rfl) ?_
  refine lv_iload_n (pc := 776) hx hb dL_law_776 rfl (lv_at hl 3 rfl) ?_
  refine lv_iconst (v := 1) (pc := 777) hx hb dL_law_777 (by decide) ?_
  refine lv_iadd (pc := 778) hx hb dL_law_778 ?_
  refine l_sld (pc := 779) K hH hi1 dL_law_779 ?_
  refine l_callY (pc := 780) (rest := [.int r]) K hH hl.1 rfl (mX11_round e2) ky_X11_round km_L_106 ⟨Nat.le_of_ble_eq_true rfl, Nat.le_of_ble_eq_true rfl⟩ ⟨Nat.le_of_ble_eq_true rfl, Nat.le_of_ble_eq_true rfl⟩ rfl (Nat.le_of_ble_eq_true rfl) dL_law_780 rfl (fun H locs hH => ?_)
  refine lv_icmp_eq (tgt := 1307) (pc := 783) hx hb dL_law_783 (by decide) (fun _ => ?_) (fun hc => absurd rfl hc)
  exact hk hI hH hl
set_option maxRecDepth 100000 in
set_option maxHeartbeats 4000000 in
theorem lc_near (hs : ∀ a1 : Int32, sOK I (fX10_near a1) (fX11_near a1)) (K : lawK p s m meth c b L xs D cA adx adm B2) (hi1 : vp_in (x3 + 1) L) (hi2 : vp_in (x3 + 2) L) (hi3 : vp_in (x3 + 3) L) (hi4 : vp_in (x3 + 4) L) (hi5 : vp_in (x3 + 5) L)
    (hk : ∀ {x y : gS} {H : Heap} {locs : List Loc} {ls : Array Slot}, I x y → lawH s D cA adx adm x y H locs → lv_has ls 4 [(0, .ref b), (1, .ref (adx 0)), (2, .ref (adm 0)), (3, .int x3)] → W p l e room_1 s m #[Value.ref b] below meth c H locs 265 8728 Q (F0 m 1307 ls []))
    {x y : gS} {H : Heap} {locs : List Loc} {ls : Array Slot} (hI : I x y) (hH : lawH s D cA adx adm x y H locs) (hl : lv_has ls 4 [(0, .ref b), (1, .ref (adx 0)), (2, .ref (adm 0)), (3, .int x3)]) : W p l e room_1 s m #[Value.ref b] below meth c H locs 265 8728 Q (F0 m 788 ls []) := by
  obtain ⟨hx, hb, hml, hown, hts⟩ := id K.1
  refine lv_aload_n (pc := 788) hx hb dL_law_788 rfl (lv_at hl 1 rfl) ?_
  refine lv_aload_n (pc := 789) hx hb dL_law_789 rfl (lv_at hl 0 rfl) ?_
  refine lv_iload_n (pc := 790) hx hb dL_law_790 rfl (lv_at hl 3 rfl) ?_
  refine lv_iconst (v := 1) (pc := 791) hx hb dL_law_791 (by decide) ?_
  refine lv_iadd (pc := 792) hx hb dL_law_792 ?_
  refine l_sld (pc := 793) K hH hi1 dL_law_793 ?_
  obtain ⟨r, x1, y1, e1, e2, hI⟩ := hs (xs (x3 + 1).toNatClampNeg) x y hI
  refine l_callX (pc := 794) (rest := []) K hH hl.1 rfl (mX10_near e1) ky_X10_near km_L_107 ⟨Nat.le_of_ble_eq_true rfl, Nat.le_of_ble_eq_true rfl⟩ ⟨Nat.le_of_ble_eq_true rfl, Nat.le_of_ble_eq_true rfl⟩ rfl (Nat.le_of_ble_eq_true rfl) dL_law_794 rfl (fun H locs hH => ?_)
  refine lv_aload_n (pc := 797) hx hb dL_law_797 rfl (lv_at hl 2 rfl) ?_
  refine lv_aload_n (pc := 798) hx hb dL_law_798 rfl (lv_at hl 0 rfl) ?_
  refine lv_iload_n (pc := 799) hx hb dL_law_799 rfl (lv_at hl 3 rfl) ?_
  refine lv_iconst (v := 1) (pc := 800) hx hb dL_law_800 (by decide) ?_
  refine lv_iadd (pc := 801) hx hb dL_law_801 ?_
  refine l_sld (pc := 802) K hH hi1 dL_law_802 ?_
  refine l_callY (pc := 803) (rest := [.int r]) K hH hl.1 rfl (mX11_near e2) ky_X11_near km_L_110 ⟨Nat.le_of_ble_eq_true rfl, Nat.le_of_ble_eq_true rfl⟩ ⟨Nat.le_of_ble_eq_true rfl, Nat.le_of_ble_eq_true rfl⟩ rfl (Nat.le_of_ble_eq_true rfl) dL_law_803 rfl (fun H locs hH => ?_)
  refine lv_icmp_eq (tgt := 1307) (pc := 806) hx hb dL_law_806 (by decide) (fun _ => ?_) (fun hc => absurd rfl hc)
  exact hk hI hH hl
set_option maxRecDepth 100000 in
set_option maxHeartbeats 4000000 in
theorem lc_both (hs : ∀ a1 a2 : Int32, sOK I (fX10_both a1 a2) (fX11_both a1 a2)) (K : lawK p s m meth c b L xs D cA adx adm B2) (hi1 : vp_in (x3 + 1) L) (hi2 : vp_in (x3 + 2) L) (hi3 : vp_in (x3 + 3) L) (hi4 : vp_in (x3 + 4) L) (hi5 : vp_in (x3 + 5) L)
    (hk : ∀ {x y : gS} {H : Heap} {locs : List Loc} {ls : Array Slot}, I x y → lawH s D cA adx adm x y H locs → lv_has ls 4 [(0, .ref b), (1, .ref (adx 0)), (2, .ref (adm 0)), (3, .int x3)] → W p l e room_1 s m #[Value.ref b] below meth c H locs 265 8728 Q (F0 m 1307 ls []))
    {x y : gS} {H : Heap} {locs : List Loc} {ls : Array Slot} (hI : I x y) (hH : lawH s D cA adx adm x y H locs) (hl : lv_has ls 4 [(0, .ref b), (1, .ref (adx 0)), (2, .ref (adm 0)), (3, .int x3)]) : W p l e room_1 s m #[Value.ref b] below meth c H locs 265 8728 Q (F0 m 811 ls []) := by
  obtain ⟨hx, hb, hml, hown, hts⟩ := id K.1
  refine lv_aload_n (pc := 811) hx hb dL_law_811 rfl (lv_at hl 1 rfl) ?_
  refine lv_aload_n (pc := 812) hx hb dL_law_812 rfl (lv_at hl 0 rfl) ?_
  refine lv_iload_n (pc := 813) hx hb dL_law_813 rfl (lv_at hl 3 rfl) ?_
  refine lv_iconst (v := 1) (pc := 814) hx hb dL_law_814 (by decide) ?_
  refine lv_iadd (pc := 815) hx hb dL_law_815 ?_
  refine l_sld (pc := 816) K hH hi1 dL_law_816 ?_
  refine lv_aload_n (pc := 817) hx hb dL_law_817 rfl (lv_at hl 0 rfl) ?_
  refine lv_iload_n (pc := 818) hx hb dL_law_818 rfl (lv_at hl 3 rfl) ?_
  refine lv_iconst (v := 2) (pc := 819) hx hb dL_law_819 (by decide) ?_
  refine lv_iadd (pc := 820) hx hb dL_law_820 ?_
  refine l_sld (pc := 821) K hH hi2 dL_law_821 ?_
  obtain ⟨r, x1, y1, e1, e2, hI⟩ := hs (xs (x3 + 1).toNatClampNeg) (xs (x3 + 2).toNatClampNeg) x y hI
  refine l_callX (pc := 822) (rest := []) K hH hl.1 rfl (mX10_both e1) ky_X10_both km_L_111 ⟨Nat.le_of_ble_eq_true rfl, Nat.le_of_ble_eq_true rfl⟩ ⟨Nat.le_of_ble_eq_true rfl, Nat.le_of_ble_eq_true rfl⟩ rfl (Nat.le_of_ble_eq_true rfl) dL_law_822 rfl (fun H locs hH => ?_)
  refine lv_aload_n (pc := 825) hx hb dL_law_825 rfl (lv_at hl 2 rfl) ?_
  refine lv_aload_n (pc := 826) hx hb dL_law_826 rfl (lv_at hl 0 rfl) ?_
  refine lv_iload_n (pc := 827) hx hb dL_law_827 rfl (lv_at hl 3 rfl) ?_
  refine lv_iconst (v := 1) (pc := 828) hx hb dL_law_828 (by decide) ?_
  refine lv_iadd (pc := 829) hx hb dL_law_829 ?_
  refine l_sld (pc := 830) K hH hi1 dL_law_830 ?_
  refine lv_aload_n (pc := 831) hx hb dL_law_831 rfl (lv_at hl 0 rfl) ?_
  refine lv_iload_n (pc := 832) hx hb dL_law_832 rfl (lv_at hl 3 rfl) ?_
  refine lv_iconst (v := 2) (pc := 833) hx hb dL_law_833 (by decide) ?_
  refine lv_iadd (pc := 834) hx hb dL_law_834 ?_
  refine l_sld (pc := 835) K hH hi2 dL_law_835 ?_
  refine l_callY (pc := 836) (rest := [.int r]) K hH hl.1 rfl (mX11_both e2) ky_X11_both km_L_114 ⟨Nat.le_of_ble_eq_true rfl, Nat.le_of_ble_eq_true rfl⟩ ⟨Nat.le_of_ble_eq_true rfl, Nat.le_of_ble_eq_true rfl⟩ rfl (Nat.le_of_ble_eq_true rfl) dL_law_836 rfl (fun H locs hH => ?_)
  refine lv_icmp_eq (tgt := 1307) (pc := 839) hx hb dL_law_839 (by decide) (fun _ => ?_) (fun hc => absurd rfl hc)
  exact hk hI hH hl
set_option maxRecDepth 100000 in
set_option maxHeartbeats 4000000 in
theorem lc_clumsy (hs : ∀ a1 : Int32, sOK I (fX10_clumsy a1) (fX11_clumsy a1)) (K : lawK p s m meth c b L xs D cA adx adm B2) (hi1 : vp_in (x3 + 1) L) (hi2 : vp_in (x3 + 2) L) (hi3 : vp_in (x3 + 3) L) (hi4 : vp_in (x3 + 4) L) (hi5 : vp_in (x3 + 5) L)
    (hk : ∀ {x y : gS} {H : Heap} {locs : List Loc} {ls : Array Slot}, I x y → lawH s D cA adx adm x y H locs → lv_has ls 4 [(0, .ref b), (1, .ref (adx 0)), (2, .ref (adm 0)), (3, .int x3)] → W p l e room_1 s m #[Value.ref b] below meth c H locs 265 8728 Q (F0 m 1307 ls []))
    {x y : gS} {H : Heap} {locs : List Loc} {ls : Array Slot} (hI : I x y) (hH : lawH s D cA adx adm x y H locs) (hl : lv_has ls 4 [(0, .ref b), (1, .ref (adx 0)), (2, .ref (adm 0)), (3, .int x3)]) : W p l e room_1 s m #[Value.ref b] below meth c H locs 265 8728 Q (F0 m 844 ls []) := by
  obtain ⟨hx, hb, hml, hown, hts⟩ := id K.1
  refine lv_aload_n (pc := 844) hx hb dL_law_844 rfl (lv_at hl 1 rfl) ?_
  refine lv_aload_n (pc := 845) hx hb dL_law_845 rfl (lv_at hl 0 rfl) ?_
  refine lv_iload_n (pc := 846) hx hb dL_law_846 rfl (lv_at hl 3 rfl) ?_
  refine lv_iconst (v := 1) (pc := 847) hx hb dL_law_847 (by decide) ?_
  refine lv_iadd (pc := 848) hx hb dL_law_848 ?_
  refine l_sld (pc := 849) K hH hi1 dL_law_849 ?_
  obtain ⟨r, x1, y1, e1, e2, hI⟩ := hs (xs (x3 + 1).toNatClampNeg) x y hI
  refine l_callX (pc := 850) (rest := []) K hH hl.1 rfl (mX10_clumsy e1) ky_X10_clumsy km_L_115 ⟨Nat.le_of_ble_eq_true rfl, Nat.le_of_ble_eq_true rfl⟩ ⟨Nat.le_of_ble_eq_true rfl, Nat.le_of_ble_eq_true rfl⟩ rfl (Nat.le_of_ble_eq_true rfl) dL_law_850 rfl (fun H locs hH => ?_)
  refine lv_aload_n (pc := 853) hx hb dL_law_853 rfl (lv_at hl 2 rfl) ?_
  refine lv_aload_n (pc := 854) hx hb dL_law_854 rfl (lv_at hl 0 rfl) ?_
  refine lv_iload_n (pc := 855) hx hb dL_law_855 rfl (lv_at hl 3 rfl) ?_
  refine lv_iconst (v := 1) (pc := 856) hx hb dL_law_856 (by decide) ?_
  refine lv_iadd (pc := 857) hx hb dL_law_857 ?_
  refine l_sld (pc := 858) K hH hi1 dL_law_858 ?_
  refine l_callY (pc := 859) (rest := [.int r]) K hH hl.1 rfl (mX11_clumsy e2) ky_X11_clumsy km_L_118 ⟨Nat.le_of_ble_eq_true rfl, Nat.le_of_ble_eq_true rfl⟩ ⟨Nat.le_of_ble_eq_true rfl, Nat.le_of_ble_eq_true rfl⟩ rfl (Nat.le_of_ble_eq_true rfl) dL_law_859 rfl (fun H locs hH => ?_)
  refine lv_icmp_eq (tgt := 1307) (pc := 862) hx hb dL_law_862 (by decide) (fun _ => ?_) (fun hc => absurd rfl hc)
  exact hk hI hH hl
set_option maxRecDepth 100000 in
set_option maxHeartbeats 4000000 in
theorem lc_idle (hs : sOK I fX10_idle fX11_idle) (K : lawK p s m meth c b L xs D cA adx adm B2) (hi1 : vp_in (x3 + 1) L) (hi2 : vp_in (x3 + 2) L) (hi3 : vp_in (x3 + 3) L) (hi4 : vp_in (x3 + 4) L) (hi5 : vp_in (x3 + 5) L)
    (hk : ∀ {x y : gS} {H : Heap} {locs : List Loc} {ls : Array Slot}, I x y → lawH s D cA adx adm x y H locs → lv_has ls 4 [(0, .ref b), (1, .ref (adx 0)), (2, .ref (adm 0)), (3, .int x3)] → W p l e room_1 s m #[Value.ref b] below meth c H locs 265 8728 Q (F0 m 1307 ls []))
    {x y : gS} {H : Heap} {locs : List Loc} {ls : Array Slot} (hI : I x y) (hH : lawH s D cA adx adm x y H locs) (hl : lv_has ls 4 [(0, .ref b), (1, .ref (adx 0)), (2, .ref (adm 0)), (3, .int x3)]) : W p l e room_1 s m #[Value.ref b] below meth c H locs 265 8728 Q (F0 m 867 ls []) := by
  obtain ⟨hx, hb, hml, hown, hts⟩ := id K.1
  refine lv_aload_n (pc := 867) hx hb dL_law_867 rfl (lv_at hl 1 rfl) ?_
  obtain ⟨r, x1, y1, e1, e2, hI⟩ := hs x y hI
  refine l_callX (pc := 868) (rest := []) K hH hl.1 rfl (mX10_idle e1) ky_X10_idle km_L_119 ⟨Nat.le_of_ble_eq_true rfl, Nat.le_of_ble_eq_true rfl⟩ ⟨Nat.le_of_ble_eq_true rfl, Nat.le_of_ble_eq_true rfl⟩ rfl (Nat.le_of_ble_eq_true rfl) dL_law_868 rfl (fun H locs hH => ?_)
  refine lv_aload_n (pc := 871) hx hb dL_law_871 rfl (lv_at hl 2 rfl) ?_
  refine l_callY (pc := 872) (rest := [.int r]) K hH hl.1 rfl (mX11_idle e2) ky_X11_idle km_L_122 ⟨Nat.le_of_ble_eq_true rfl, Nat.le_of_ble_eq_true rfl⟩ ⟨Nat.le_of_ble_eq_true rfl, Nat.le_of_ble_eq_true rfl⟩ rfl (Nat.le_of_ble_eq_true rfl) dL_law_872 rfl (fun H locs hH => ?_)
  refine lv_icmp_eq (tgt := 1307) (pc := 875) hx hb dL_law_875 (by decide) (fun _ => ?_) (fun hc => absurd rfl hc)
  exact hk hI hH hl
set_option maxRecDepth 100000 in
set_option maxHeartbeats 4000000 in
theorem lc_ends (hs : sOK I fX10_ends fX11_ends) (K : lawK p s m meth c b L xs D cA adx adm B2) (hi1 : vp_in (x3 + 1) L) (hi2 : vp_in (x3 + 2) L) (hi3 : vp_in (x3 + 3) L) (hi4 : vp_in (x3 + 4) L) (hi5 : vp_in (x3 + 5) L)
    (hk : ∀ {x y : gS} {H : Heap} {locs : List Loc} {ls : Array Slot}, I x y → lawH s D cA adx adm x y H locs → lv_has ls 4 [(0, .ref b), (1, .ref (adx 0)), (2, .ref (adm 0)), (3, .int x3)] → W p l e room_1 s m #[Value.ref b] below meth c H locs 265 8728 Q (F0 m 1307 ls []))
    {x y : gS} {H : Heap} {locs : List Loc} {ls : Array Slot} (hI : I x y) (hH : lawH s D cA adx adm x y H locs) (hl : lv_has ls 4 [(0, .ref b), (1, .ref (adx 0)), (2, .ref (adm 0)), (3, .int x3)]) : W p l e room_1 s m #[Value.ref b] below meth c H locs 265 8728 Q (F0 m 880 ls []) := by
  obtain ⟨hx, hb, hml, hown, hts⟩ := id K.1
  refine lv_aload_n (pc := 880) hx hb dL_law_880 rfl (lv_at hl 1 rfl) ?_
  obtain ⟨r, x1, y1, e1, e2, hI⟩ := hs x y hI
  refine l_callX (pc := 881) (rest := []) K hH hl.1 rfl (mX10_ends e1) ky_X10_ends km_L_123 ⟨Nat.le_of_ble_eq_true rfl, Nat.le_of_ble_eq_true rfl⟩ ⟨Nat.le_of_ble_eq_true rfl, Nat.le_of_ble_eq_true rfl⟩ rfl (Nat.le_of_ble_eq_true rfl) dL_law_881 rfl (fun H locs hH => ?_)
  refine lv_aload_n (pc := 884) hx hb dL_law_884 rfl (lv_at hl 2 rfl) ?_
  refine l_callY (pc := 885) (rest := [.int r]) K hH hl.1 rfl (mX11_ends e2) ky_X11_ends km_L_126 ⟨Nat.le_of_ble_eq_true rfl, Nat.le_of_ble_eq_true rfl⟩ ⟨Nat.le_of_ble_eq_true rfl, Nat.le_of_ble_eq_true rfl⟩ rfl (Nat.le_of_ble_eq_true rfl) dL_law_885 rfl (fun H locs hH => ?_)
  refine lv_icmp_eq (tgt := 1307) (pc := 888) hx hb dL_law_888 (by decide) (fun _ => ?_) (fun hc => absurd rfl hc)
  exact hk hI hH hl
set_option maxRecDepth 100000 in
set_option maxHeartbeats 4000000 in
theorem lc_sources (hs : sOK I fX10_sources fX11_sources) (K : lawK p s m meth c b L xs D cA adx adm B2) (hi1 : vp_in (x3 + 1) L) (hi2 : vp_in (x3 + 2) L) (hi3 : vp_in (x3 + 3) L) (hi4 : vp_in (x3 + 4) L) (hi5 : vp_in (x3 + 5) L)
    (hk : ∀ {x y : gS} {H : Heap} {locs : List Loc} {ls : Array Slot}, I x y → lawH s D cA adx adm x y H locs → lv_has ls 4 [(0, .ref b), (1, .ref (adx 0)), (2, .ref (adm 0)), (3, .int x3)] → W p l e room_1 s m #[Value.ref b] below meth c H locs 265 8728 Q (F0 m 1307 ls []))
    {x y : gS} {H : Heap} {locs : List Loc} {ls : Array Slot} (hI : I x y) (hH : lawH s D cA adx adm x y H locs) (hl : lv_has ls 4 [(0, .ref b), (1, .ref (adx 0)), (2, .ref (adm 0)), (3, .int x3)]) : W p l e room_1 s m #[Value.ref b] below meth c H locs 265 8728 Q (F0 m 893 ls []) := by
  obtain ⟨hx, hb, hml, hown, hts⟩ := id K.1
  refine lv_aload_n (pc := 893) hx hb dL_law_893 rfl (lv_at hl 1 rfl) ?_
  obtain ⟨r, x1, y1, e1, e2, hI⟩ := hs x y hI
  refine l_callX (pc := 894) (rest := []) K hH hl.1 rfl (mX10_sources e1) ky_X10_sources km_L_127 ⟨Nat.le_of_ble_eq_true rfl, Nat.le_of_ble_eq_true rfl⟩ ⟨Nat.le_of_ble_eq_true rfl, Nat.le_of_ble_eq_true rfl⟩ rfl (Nat.le_of_ble_eq_true rfl) dL_law_894 rfl (fun H locs hH => ?_)
  refine lv_aload_n (pc := 897) hx hb dL_law_897 rfl (lv_at hl 2 rfl) ?_
  refine l_callY (pc := 898) (rest := [.int r]) K hH hl.1 rfl (mX11_sources e2) ky_X11_sources km_L_130 ⟨Nat.le_of_ble_eq_true rfl, Nat.le_of_ble_eq_true rfl⟩ ⟨Nat.le_of_ble_eq_true rfl, Nat.le_of_ble_eq_true rfl⟩ rfl (Nat.le_of_ble_eq_true rfl) dL_law_898 rfl (fun H locs hH => ?_)
  refine lv_icmp_eq (tgt := 1307) (pc := 901) hx hb dL_law_901 (by decide) (fun _ => ?_) (fun hc => absurd rfl hc)
  exact hk hI hH hl
set_option maxRecDepth 100000 in
set_option maxHeartbeats 4000000 in
theorem lc_will (hs : ∀ a1 a2 : Int32, sOK I (fX10_will a1 a2) (fX11_will a1 a2)) (K : lawK p s m meth c b L xs D cA adx adm B2) (hi1 : vp_in (x3 + 1) L) (hi2 : vp_in (x3 + 2) L) (hi3 : vp_in (x3 + 3) L) (hi4 : vp_in (x3 + 4) L) (hi5 : vp_in (x3 + 5) L)
    (hk : ∀ {x y : gS} {H : Heap} {locs : List Loc} {ls : Array Slot}, I x y → lawH s D cA adx adm x y H locs → lv_has ls 4 [(0, .ref b), (1, .ref (adx 0)), (2, .ref (adm 0)), (3, .int x3)] → W p l e room_1 s m #[Value.ref b] below meth c H locs 265 8728 Q (F0 m 1307 ls []))
    {x y : gS} {H : Heap} {locs : List Loc} {ls : Array Slot} (hI : I x y) (hH : lawH s D cA adx adm x y H locs) (hl : lv_has ls 4 [(0, .ref b), (1, .ref (adx 0)), (2, .ref (adm 0)), (3, .int x3)]) : W p l e room_1 s m #[Value.ref b] below meth c H locs 265 8728 Q (F0 m 906 ls []) := by
  obtain ⟨hx, hb, hml, hown, hts⟩ := id K.1
  refine lv_aload_n (pc := 906) hx hb dL_law_906 rfl (lv_at hl 1 rfl) ?_
  refine lv_aload_n (pc := 907) hx hb dL_law_907 rfl (lv_at hl 0 rfl) ?_
  refine lv_iload_n (pc := 908) hx hb dL_law_908 rfl (lv_at hl 3 rfl) ?_
  refine lv_iconst (v := 1) (pc := 909) hx hb dL_law_909 (by decide) ?_
  refine lv_iadd (pc := 910) hx hb dL_law_910 ?_
  refine l_sld (pc := 911) K hH hi1 dL_law_911 ?_
  refine lv_aload_n (pc := 912) hx hb dL_law_912 rfl (lv_at hl 0 rfl) ?_
  refine lv_iload_n (pc := 913) hx hb dL_law_913 rfl (lv_at hl 3 rfl) ?_
  refine lv_iconst (v := 2) (pc := 914) hx hb dL_law_914 (by decide) ?_
  refine lv_iadd (pc := 915) hx hb dL_law_915 ?_
  refine l_sld (pc := 916) K hH hi2 dL_law_916 ?_
  obtain ⟨r, x1, y1, e1, e2, hI⟩ := hs (xs (x3 + 1).toNatClampNeg) (xs (x3 + 2).toNatClampNeg) x y hI
  refine l_callX (pc := 917) (rest := []) K hH hl.1 rfl (mX10_will e1) ky_X10_will km_L_131 ⟨Nat.le_of_ble_eq_true rfl, Nat.le_of_ble_eq_true rfl⟩ ⟨Nat.le_of_ble_eq_true rfl, Nat.le_of_ble_eq_true rfl⟩ rfl (Nat.le_of_ble_eq_true rfl) dL_law_917 rfl (fun H locs hH => ?_)
  refine lv_aload_n (pc := 920) hx hb dL_law_920 rfl (lv_at hl 2 rfl) ?_
  refine lv_aload_n (pc := 921) hx hb dL_law_921 rfl (lv_at hl 0 rfl) ?_
  refine lv_iload_n (pc := 922) hx hb dL_law_922 rfl (lv_at hl 3 rfl) ?_
  refine lv_iconst (v := 1) (pc := 923) hx hb dL_law_923 (by decide) ?_
  refine lv_iadd (pc := 924) hx hb dL_law_924 ?_
  refine l_sld (pc := 925) K hH hi1 dL_law_925 ?_
  refine lv_aload_n (pc := 926) hx hb dL_law_926 rfl (lv_at hl 0 rfl) ?_
  refine lv_iload_n (pc := 927) hx hb dL_law_927 rfl (lv_at hl 3 rfl) ?_
  refine lv_iconst (v := 2) (pc := 928) hx hb dL_law_928 (by decide) ?_
  refine lv_iadd (pc := 929) hx hb dL_law_929 ?_
  refine l_sld (pc := 930) K hH hi2 dL_law_930 ?_
  refine l_callY (pc := 931) (rest := [.int r]) K hH hl.1 rfl (mX11_will e2) ky_X11_will km_L_134 ⟨Nat.le_of_ble_eq_true rfl, Nat.le_of_ble_eq_true rfl⟩ ⟨Nat.le_of_ble_eq_true rfl, Nat.le_of_ble_eq_true rfl⟩ rfl (Nat.le_of_ble_eq_true rfl) dL_law_931 rfl (fun H locs hH => ?_)
  refine lv_icmp_eq (tgt := 1307) (pc := 934) hx hb dL_law_934 (by decide) (fun _ => ?_) (fun hc => absurd rfl hc)
  exact hk hI hH hl
set_option maxRecDepth 100000 in
set_option maxHeartbeats 4000000 in
theorem lc_mirror (hs : ∀ a1 : Int32, sOK I (fX10_mirror a1) (fX11_mirror a1)) (K : lawK p s m meth c b L xs D cA adx adm B2) (hi1 : vp_in (x3 + 1) L) (hi2 : vp_in (x3 + 2) L) (hi3 : vp_in (x3 + 3) L) (hi4 : vp_in (x3 + 4) L) (hi5 : vp_in (x3 + 5) L)
    (hk : ∀ {x y : gS} {H : Heap} {locs : List Loc} {ls : Array Slot}, I x y → lawH s D cA adx adm x y H locs → lv_has ls 4 [(0, .ref b), (1, .ref (adx 0)), (2, .ref (adm 0)), (3, .int x3)] → W p l e room_1 s m #[Value.ref b] below meth c H locs 265 8728 Q (F0 m 1307 ls []))
    {x y : gS} {H : Heap} {locs : List Loc} {ls : Array Slot} (hI : I x y) (hH : lawH s D cA adx adm x y H locs) (hl : lv_has ls 4 [(0, .ref b), (1, .ref (adx 0)), (2, .ref (adm 0)), (3, .int x3)]) : W p l e room_1 s m #[Value.ref b] below meth c H locs 265 8728 Q (F0 m 939 ls []) := by
  obtain ⟨hx, hb, hml, hown, hts⟩ := id K.1
  refine lv_aload_n (pc := 939) hx hb dL_law_939 rfl (lv_at hl 1 rfl) ?_
  refine lv_aload_n (pc := 940) hx hb dL_law_940 rfl (lv_at hl 0 rfl) ?_
  refine lv_iload_n (pc := 941) hx hb dL_law_941 rfl (lv_at hl 3 rfl) ?_
  refine lv_iconst (v := 1) (pc := 942) hx hb dL_law_942 (by decide) ?_
  refine lv_iadd (pc := 943) hx hb dL_law_943 ?_
  refine l_sld (pc := 944) K hH hi1 dL_law_944 ?_
  obtain ⟨r, x1, y1, e1, e2, hI⟩ := hs (xs (x3 + 1).toNatClampNeg) x y hI
  refine l_callX (pc := 945) (rest := []) K hH hl.1 rfl (mX10_mirror e1) ky_X10_mirror km_L_135 ⟨Nat.le_of_ble_eq_true rfl, Nat.le_of_ble_eq_true rfl⟩ ⟨Nat.le_of_ble_eq_true rfl, Nat.le_of_ble_eq_true rfl⟩ rfl (Nat.le_of_ble_eq_true rfl) dL_law_945 rfl (fun H locs hH => ?_)
  refine lv_aload_n (pc := 948) hx hb dL_law_948 rfl (lv_at hl 2 rfl) ?_
  refine lv_aload_n (pc := 949) hx hb dL_law_949 rfl (lv_at hl 0 rfl) ?_
  refine lv_iload_n (pc := 950) hx hb dL_law_950 rfl (lv_at hl 3 rfl) ?_
  refine lv_iconst (v := 1) (pc := 951) hx hb dL_law_951 (by decide) ?_
  refine lv_iadd (pc := 952) hx hb dL_law_952 ?_
  refine l_sld (pc := 953) K hH hi1 dL_law_953 ?_
  refine l_callY (pc := 954) (rest := [.int r]) K hH hl.1 rfl (mX11_mirror e2) ky_X11_mirror km_L_138 ⟨Nat.le_of_ble_eq_true rfl, Nat.le_of_ble_eq_true rfl⟩ ⟨Nat.le_of_ble_eq_true rfl, Nat.le_of_ble_eq_true rfl⟩ rfl (Nat.le_of_ble_eq_true rfl) dL_law_954 rfl (fun H locs hH => ?_)
  refine lv_icmp_eq (tgt := 1307) (pc := 957) hx hb dL_law_957 (by decide) (fun _ => ?_) (fun hc => absurd rfl hc)
  exact hk hI hH hl
set_option maxRecDepth 100000 in
set_option maxHeartbeats 4000000 in
theorem lc_lies (hs : ∀ a1 : Int32, sOK I (fX10_lies a1) (fX11_lies a1)) (K : lawK p s m meth c b L xs D cA adx adm B2) (hi1 : vp_in (x3 + 1) L) (hi2 : vp_in (x3 + 2) L) (hi3 : vp_in (x3 + 3) L) (hi4 : vp_in (x3 + 4) L) (hi5 : vp_in (x3 + 5) L)
    (hk : ∀ {x y : gS} {H : Heap} {locs : List Loc} {ls : Array Slot}, I x y → lawH s D cA adx adm x y H locs → lv_has ls 4 [(0, .ref b), (1, .ref (adx 0)), (2, .ref (adm 0)), (3, .int x3)] → W p l e room_1 s m #[Value.ref b] below meth c H locs 265 8728 Q (F0 m 1307 ls []))
    {x y : gS} {H : Heap} {locs : List Loc} {ls : Array Slot} (hI : I x y) (hH : lawH s D cA adx adm x y H locs) (hl : lv_has ls 4 [(0, .ref b), (1, .ref (adx 0)), (2, .ref (adm 0)), (3, .int x3)]) : W p l e room_1 s m #[Value.ref b] below meth c H locs 265 8728 Q (F0 m 962 ls []) := by
  obtain ⟨hx, hb, hml, hown, hts⟩ := id K.1
  refine lv_aload_n (pc := 962) hx hb dL_law_962 rfl (lv_at hl 1 rfl) ?_
  refine lv_aload_n (pc := 963) hx hb dL_law_963 rfl (lv_at hl 0 rfl) ?_
  refine lv_iload_n (pc := 964) hx hb dL_law_964 rfl (lv_at hl 3 rfl) ?_
  refine lv_iconst (v := 1) (pc := 965) hx hb dL_law_965 (by decide) ?_
  refine lv_iadd (pc := 966) hx hb dL_law_966 ?_
  refine l_sld (pc := 967) K hH hi1 dL_law_967 ?_
  obtain ⟨r, x1, y1, e1, e2, hI⟩ := hs (xs (x3 + 1).toNatClampNeg) x y hI
  refine l_callX (pc := 968) (rest := []) K hH hl.1 rfl (mX10_lies e1) ky_X10_lies km_L_139 ⟨Nat.le_of_ble_eq_true rfl, Nat.le_of_ble_eq_true rfl⟩ ⟨Nat.le_of_ble_eq_true rfl, Nat.le_of_ble_eq_true rfl⟩ rfl (Nat.le_of_ble_eq_true rfl) dL_law_968 rfl (fun H locs hH => ?_)
  refine lv_aload_n (pc := 971) hx hb dL_law_971 rfl (lv_at hl 2 rfl) ?_
  refine lv_aload_n (pc := 972) hx hb dL_law_972 rfl (lv_at hl 0 rfl) ?_
  refine lv_iload_n (pc := 973) hx hb dL_law_973 rfl (lv_at hl 3 rfl) ?_
  refine lv_iconst (v := 1) (pc := 974) hx hb dL_law_974 (by decide) ?_
  refine lv_iadd (pc := 975) hx hb dL_law_975 ?_
  refine l_sld (pc := 976) K hH hi1 dL_law_976 ?_
  refine l_callY (pc := 977) (rest := [.int r]) K hH hl.1 rfl (mX11_lies e2) ky_X11_lies km_L_142 ⟨Nat.le_of_ble_eq_true rfl, Nat.le_of_ble_eq_true rfl⟩ ⟨Nat.le_of_ble_eq_true rfl, Nat.le_of_ble_eq_true rfl⟩ rfl (Nat.le_of_ble_eq_true rfl) dL_law_977 rfl (fun H locs hH => ?_)
  refine lv_icmp_eq (tgt := 1307) (pc := 980) hx hb dL_law_980 (by decide) (fun _ => ?_) (fun hc => absurd rfl hc)
  exact hk hI hH hl
set_option maxRecDepth 100000 in
set_option maxHeartbeats 4000000 in
theorem lc_seen (hs : ∀ a1 a2 a3 : Int32, gB a3 → sOK I (fX10_seen a1 a2 a3) (fX11_seen a1 a2 a3)) (K : lawK p s m meth c b L xs D cA adx adm B2) (hi1 : vp_in (x3 + 1) L) (hi2 : vp_in (x3 + 2) L) (hi3 : vp_in (x3 + 3) L) (hi4 : vp_in (x3 + 4) L) (hi5 : vp_in (x3 + 5) L)
    (hk : ∀ {x y : gS} {H : Heap} {locs : List Loc} {ls : Array Slot}, I x y → lawH s D cA adx adm x y H locs → lv_has ls 4 [(0, .ref b), (1, .ref (adx 0)), (2, .ref (adm 0)), (3, .int x3)] → W p l e room_1 s m #[Value.ref b] below meth c H locs 265 8728 Q (F0 m 1307 ls []))
    {x y : gS} {H : Heap} {locs : List Loc} {ls : Array Slot} (hI : I x y) (hH : lawH s D cA adx adm x y H locs) (hl : lv_has ls 4 [(0, .ref b), (1, .ref (adx 0)), (2, .ref (adm 0)), (3, .int x3)]) : W p l e room_1 s m #[Value.ref b] below meth c H locs 265 8728 Q (F0 m 985 ls []) := by
  obtain ⟨hx, hb, hml, hown, hts⟩ := id K.1
  refine lv_aload_n (pc := 985) hx hb dL_law_985 rfl (lv_at hl 1 rfl) ?_
  refine lv_aload_n (pc := 986) hx hb dL_law_986 rfl (lv_at hl 0 rfl) ?_
  refine lv_iload_n (pc := 987) hx hb dL_law_987 rfl (lv_at hl 3 rfl) ?_
  refine lv_iconst (v := 1) (pc := 988) hx hb dL_law_988 (by decide) ?_
  refine lv_iadd (pc := 989) hx hb dL_law_989 ?_
  refine l_sld (pc := 990) K hH hi1 dL_law_990 ?_
  refine lv_aload_n (pc := 991) hx hb dL_law_991 rfl (lv_at hl 0 rfl) ?_
  refine lv_iload_n (pc := 992) hx hb dL_law_992 rfl (lv_at hl 3 rfl) ?_
  refine lv_iconst (v := 2) (pc := 993) hx hb dL_law_993 (by decide) ?_
  refine lv_iadd (pc := 994) hx hb dL_law_994 ?_
  refine l_sld (pc := 995) K hH hi2 dL_law_995 ?_
  refine lv_aload_n (pc := 996) hx hb dL_law_996 rfl (lv_at hl 0 rfl) ?_
  refine lv_iload_n (pc := 997) hx hb dL_law_997 rfl (lv_at hl 3 rfl) ?_
  refine lv_iconst (v := 3) (pc := 998) hx hb dL_law_998 (by decide) ?_
  refine lv_iadd (pc := 999) hx hb dL_law_999 ?_
  refine l_sld (pc := 1000) K hH hi3 dL_law_1000 ?_
  refine lv_if_eq (tgt := 1008) (pc := 1001) hx hb dL_law_1001 (by decide) (fun hc => ?_) (fun hc => ?_)
  · have hz := hc
    refine lv_iconst (v := 0) (pc := 1008) hx hb dL_law_1008 (by decide) ?_
    obtain ⟨r, x1, y1, e1, e2, hI⟩ := hs (xs (x3 + 1).toNatClampNeg) (xs (x3 + 2).toNatClampNeg) 0 (by decide) x y hI
    refine l_callX (pc := 1009) (rest := []) K hH hl.1 rfl (mX10_seen e1) ky_X10_seen km_L_143 ⟨Nat.le_of_ble_eq_true rfl, Nat.le_of_ble_eq_true rfl⟩ ⟨Nat.le_of_ble_eq_true rfl, Nat.le_of_ble_eq_true rfl⟩ rfl (Nat.le_of_ble_eq_true rfl) dL_law_1009 rfl (fun H locs hH => ?_)
    refine lv_aload_n (pc := 1012) hx hb dL_law_1012 rfl (lv_at hl 2 rfl) ?_
    refine lv_aload_n (pc := 1013) hx hb dL_law_1013 rfl (lv_at hl 0 rfl) ?_
    refine lv_iload_n (pc := 1014) hx hb dL_law_1014 rfl (lv_at hl 3 rfl) ?_
    refine lv_iconst (v := 1) (pc := 1015) hx hb dL_law_1015 (by decide) ?_
    refine lv_iadd (pc := 1016) hx hb dL_law_1016 ?_
    refine l_sld (pc := 1017) K hH hi1 dL_law_1017 ?_
    refine lv_aload_n (pc := 1018) hx hb dL_law_1018 rfl (lv_at hl 0 rfl) ?_
    refine lv_iload_n (pc := 1019) hx hb dL_law_1019 rfl (lv_at hl 3 rfl) ?_
    refine lv_iconst (v := 2) (pc := 1020) hx hb dL_law_1020 (by decide) ?_
    refine lv_iadd (pc := 1021) hx hb dL_law_1021 ?_
    refine l_sld (pc := 1022) K hH hi2 dL_law_1022 ?_
    refine lv_aload_n (pc := 1023) hx hb dL_law_1023 rfl (lv_at hl 0 rfl) ?_
    refine lv_iload_n (pc := 1024) hx hb dL_law_1024 rfl (lv_at hl 3 rfl) ?_
    refine lv_iconst (v := 3) (pc := 1025) hx hb dL_law_1025 (by decide) ?_
    refine lv_iadd (pc := 1026) hx hb dL_law_1026 ?_
    refine l_sld (pc := 1027) K hH hi3 dL_law_1027 ?_
    refine lv_if_eq (tgt := 1035) (pc := 1028) hx hb dL_law_1028 (by decide) (fun hc => ?_) (fun hc => ?_)
    · skip
      refine lv_iconst (v := 0) (pc := 1035) hx hb dL_law_1035 (by decide) ?_
      refine l_callY (pc := 1036) (rest := [.int r]) K hH hl.1 rfl (mX11_seen e2) ky_X11_seen km_L_147 ⟨Nat.le_of_ble_eq_true rfl, Nat.le_of_ble_eq_true rfl⟩ ⟨Nat.le_of_ble_eq_true rfl, Nat.le_of_ble_eq_true rfl⟩ rfl (Nat.le_of_ble_eq_true rfl) dL_law_1036 rfl (fun H locs hH => ?_)
      refine lv_icmp_eq (tgt := 1307) (pc := 1039) hx hb dL_law_1039 (by decide) (fun _ => ?_) (fun hc => absurd rfl hc)
      exact hk hI hH hl
    · exact absurd hz hc
  · have hz := hc
    refine lv_iconst (v := 1) (pc := 1004) hx hb dL_law_1004 (by decide) ?_
    refine lv_goto (tgt := 1009) (pc := 1005) hx hb dL_law_1005 (by decide) ?_
    obtain ⟨r, x1, y1, e1, e2, hI⟩ := hs (xs (x3 + 1).toNatClampNeg) (xs (x3 + 2).toNatClampNeg) 1 (by decide) x y hI
    refine l_callX (pc := 1009) (rest := []) K hH hl.1 rfl (mX10_seen e1) ky_X10_seen km_L_143 ⟨Nat.le_of_ble_eq_true rfl, Nat.le_of_ble_eq_true rfl⟩ ⟨Nat.le_of_ble_eq_true rfl, Nat.le_of_ble_eq_true rfl⟩ rfl (Nat.le_of_ble_eq_true rfl) dL_law_1009 rfl (fun H locs hH => ?_)
    refine lv_aload_n (pc := 1012) hx hb dL_law_1012 rfl (lv_at hl 2 rfl) ?_
    refine lv_aload_n (pc := 1013) hx hb dL_law_1013 rfl (lv_at hl 0 rfl) ?_
    refine lv_iload_n (pc := 1014) hx hb dL_law_1014 rfl (lv_at hl 3 rfl) ?_
    refine lv_iconst (v := 1) (pc := 1015) hx hb dL_law_1015 (by decide) ?_
    refine lv_iadd (pc := 1016) hx hb dL_law_1016 ?_
    refine l_sld (pc := 1017) K hH hi1 dL_law_1017 ?_
    refine lv_aload_n (pc := 1018) hx hb dL_law_1018 rfl (lv_at hl 0 rfl) ?_
    refine lv_iload_n (pc := 1019) hx hb dL_law_1019 rfl (lv_at hl 3 rfl) ?_
    refine lv_iconst (v := 2) (pc := 1020) hx hb dL_law_1020 (by decide) ?_
    refine lv_iadd (pc := 1021) hx hb dL_law_1021 ?_
    refine l_sld (pc := 1022) K hH hi2 dL_law_1022 ?_
    refine lv_aload_n (pc := 1023) hx hb dL_law_1023 rfl (lv_at hl 0 rfl) ?_
    refine lv_iload_n (pc := 1024) hx hb dL_law_1024 rfl (lv_at hl 3 rfl) ?_
    refine lv_iconst (v := 3) (pc := 1025) hx hb dL_law_1025 (by decide) ?_
    refine lv_iadd (pc := 1026) hx hb dL_law_1026 ?_
    refine l_sld (pc := 1027) K hH hi3 dL_law_1027 ?_
    refine lv_if_eq (tgt := 1035) (pc := 1028) hx hb dL_law_1028 (by decide) (fun hc => ?_) (fun hc => ?_)
    · exact absurd hc hz
    · skip
      refine lv_iconst (v := 1) (pc := 1031) hx hb dL_law_1031 (by decide) ?_
      refine lv_goto (tgt := 1036) (pc := 1032) hx hb dL_law_1032 (by decide) ?_
      refine l_callY (pc := 1036) (rest := [.int r]) K hH hl.1 rfl (mX11_seen e2) ky_X11_seen km_L_147 ⟨Nat.le_of_ble_eq_true rfl, Nat.le_of_ble_eq_true rfl⟩ ⟨Nat.le_of_ble_eq_true rfl, Nat.le_of_ble_eq_true rfl⟩ rfl (Nat.le_of_ble_eq_true rfl) dL_law_1036 rfl (fun H locs hH => ?_)
      refine lv_icmp_eq (tgt := 1307) (pc := 1039) hx hb dL_law_1039 (by decide) (fun _ => ?_) (fun hc => absurd rfl hc)
      exact hk hI hH hl
set_option maxRecDepth 100000 in
set_option maxHeartbeats 4000000 in
theorem lc_felt (hs : ∀ a1 a2 a3 : Int32, gB a3 → sOK I (fX10_felt a1 a2 a3) (fX11_felt a1 a2 a3)) (K : lawK p s m meth c b L xs D cA adx adm B2) (hi1 : vp_in (x3 + 1) L) (hi2 : vp_in (x3 + 2) L) (hi3 : vp_in (x3 + 3) L) (hi4 : vp_in (x3 + 4) L) (hi5 : vp_in (x3 + 5) L)
    (hk : ∀ {x y : gS} {H : Heap} {locs : List Loc} {ls : Array Slot}, I x y → lawH s D cA adx adm x y H locs → lv_has ls 4 [(0, .ref b), (1, .ref (adx 0)), (2, .ref (adm 0)), (3, .int x3)] → W p l e room_1 s m #[Value.ref b] below meth c H locs 265 8728 Q (F0 m 1307 ls []))
    {x y : gS} {H : Heap} {locs : List Loc} {ls : Array Slot} (hI : I x y) (hH : lawH s D cA adx adm x y H locs) (hl : lv_has ls 4 [(0, .ref b), (1, .ref (adx 0)), (2, .ref (adm 0)), (3, .int x3)]) : W p l e room_1 s m #[Value.ref b] below meth c H locs 265 8728 Q (F0 m 1044 ls []) := by
  obtain ⟨hx, hb, hml, hown, hts⟩ := id K.1
  refine lv_aload_n (pc := 1044) hx hb dL_law_1044 rfl (lv_at hl 1 rfl) ?_
  refine lv_aload_n (pc := 1045) hx hb dL_law_1045 rfl (lv_at hl 0 rfl) ?_
  refine lv_iload_n (pc := 1046) hx hb dL_law_1046 rfl (lv_at hl 3 rfl) ?_
  refine lv_iconst (v := 1) (pc := 1047) hx hb dL_law_1047 (by decide) ?_
  refine lv_iadd (pc := 1048) hx hb dL_law_1048 ?_
  refine l_sld (pc := 1049) K hH hi1 dL_law_1049 ?_
  refine lv_aload_n (pc := 1050) hx hb dL_law_1050 rfl (lv_at hl 0 rfl) ?_
  refine lv_iload_n (pc := 1051) hx hb dL_law_1051 rfl (lv_at hl 3 rfl) ?_
  refine lv_iconst (v := 2) (pc := 1052) hx hb dL_law_1052 (by decide) ?_
  refine lv_iadd (pc := 1053) hx hb dL_law_1053 ?_
  refine l_sld (pc := 1054) K hH hi2 dL_law_1054 ?_
  refine lv_aload_n (pc := 1055) hx hb dL_law_1055 rfl (lv_at hl 0 rfl) ?_
  refine lv_iload_n (pc := 1056) hx hb dL_law_1056 rfl (lv_at hl 3 rfl) ?_
  refine lv_iconst (v := 3) (pc := 1057) hx hb dL_law_1057 (by decide) ?_
  refine lv_iadd (pc := 1058) hx hb dL_law_1058 ?_
  refine l_sld (pc := 1059) K hH hi3 dL_law_1059 ?_
  refine lv_if_eq (tgt := 1067) (pc := 1060) hx hb dL_law_1060 (by decide) (fun hc => ?_) (fun hc => ?_)
  · have hz := hc
    refine lv_iconst (v := 0) (pc := 1067) hx hb dL_law_1067 (by decide) ?_
    obtain ⟨r, x1, y1, e1, e2, hI⟩ := hs (xs (x3 + 1).toNatClampNeg) (xs (x3 + 2).toNatClampNeg) 0 (by decide) x y hI
    refine l_callX (pc := 1068) (rest := []) K hH hl.1 rfl (mX10_felt e1) ky_X10_felt km_L_148 ⟨Nat.le_of_ble_eq_true rfl, Nat.le_of_ble_eq_true rfl⟩ ⟨Nat.le_of_ble_eq_true rfl, Nat.le_of_ble_eq_true rfl⟩ rfl (Nat.le_of_ble_eq_true rfl) dL_law_1068 rfl (fun H locs hH => ?_)
    refine lv_aload_n (pc := 1071) hx hb dL_law_1071 rfl (lv_at hl 2 rfl) ?_
    refine lv_aload_n (pc := 1072) hx hb dL_law_1072 rfl (lv_at hl 0 rfl) ?_
    refine lv_iload_n (pc := 1073) hx hb dL_law_1073 rfl (lv_at hl 3 rfl) ?_
    refine lv_iconst (v := 1) (pc := 1074) hx hb dL_law_1074 (by decide) ?_
    refine lv_iadd (pc := 1075) hx hb dL_law_1075 ?_
    refine l_sld (pc := 1076) K hH hi1 dL_law_1076 ?_
    refine lv_aload_n (pc := 1077) hx hb dL_law_1077 rfl (lv_at hl 0 rfl) ?_
    refine lv_iload_n (pc := 1078) hx hb dL_law_1078 rfl (lv_at hl 3 rfl) ?_
    refine lv_iconst (v := 2) (pc := 1079) hx hb dL_law_1079 (by decide) ?_
    refine lv_iadd (pc := 1080) hx hb dL_law_1080 ?_
    refine l_sld (pc := 1081) K hH hi2 dL_law_1081 ?_
    refine lv_aload_n (pc := 1082) hx hb dL_law_1082 rfl (lv_at hl 0 rfl) ?_
    refine lv_iload_n (pc := 1083) hx hb dL_law_1083 rfl (lv_at hl 3 rfl) ?_
    refine lv_iconst (v := 3) (pc := 1084) hx hb dL_law_1084 (by decide) ?_
    refine lv_iadd (pc := 1085) hx hb dL_law_1085 ?_
    refine l_sld (pc := 1086) K hH hi3 dL_law_1086 ?_
    refine lv_if_eq (tgt := 1094) (pc := 1087) hx hb dL_law_1087 (by decide) (fun hc => ?_) (fun hc => ?_)
    · skip
      refine lv_iconst (v := 0) (pc := 1094) hx hb dL_law_1094 (by decide) ?_
      refine l_callY (pc := 1095) (rest := [.int r]) K hH hl.1 rfl (mX11_felt e2) ky_X11_felt km_L_151 ⟨Nat.le_of_ble_eq_true rfl, Nat.le_of_ble_eq_true rfl⟩ ⟨Nat.le_of_ble_eq_true rfl, Nat.le_of_ble_eq_true rfl⟩ rfl (Nat.le_of_ble_eq_true rfl) dL_law_1095 rfl (fun H locs hH => ?_)
      refine lv_icmp_eq (tgt := 1307) (pc := 1098) hx hb dL_law_1098 (by decide) (fun _ => ?_) (fun hc => absurd rfl hc)
      exact hk hI hH hl
    · exact absurd hz hc
  · have hz := hc
    refine lv_iconst (v := 1) (pc := 1063) hx hb dL_law_1063 (by decide) ?_
    refine lv_goto (tgt := 1068) (pc := 1064) hx hb dL_law_1064 (by decide) ?_
    obtain ⟨r, x1, y1, e1, e2, hI⟩ := hs (xs (x3 + 1).toNatClampNeg) (xs (x3 + 2).toNatClampNeg) 1 (by decide) x y hI
    refine l_callX (pc := 1068) (rest := []) K hH hl.1 rfl (mX10_felt e1) ky_X10_felt km_L_148 ⟨Nat.le_of_ble_eq_true rfl, Nat.le_of_ble_eq_true rfl⟩ ⟨Nat.le_of_ble_eq_true rfl, Nat.le_of_ble_eq_true rfl⟩ rfl (Nat.le_of_ble_eq_true rfl) dL_law_1068 rfl (fun H locs hH => ?_)
    refine lv_aload_n (pc := 1071) hx hb dL_law_1071 rfl (lv_at hl 2 rfl) ?_
    refine lv_aload_n (pc := 1072) hx hb dL_law_1072 rfl (lv_at hl 0 rfl) ?_
    refine lv_iload_n (pc := 1073) hx hb dL_law_1073 rfl (lv_at hl 3 rfl) ?_
    refine lv_iconst (v := 1) (pc := 1074) hx hb dL_law_1074 (by decide) ?_
    refine lv_iadd (pc := 1075) hx hb dL_law_1075 ?_
    refine l_sld (pc := 1076) K hH hi1 dL_law_1076 ?_
    refine lv_aload_n (pc := 1077) hx hb dL_law_1077 rfl (lv_at hl 0 rfl) ?_
    refine lv_iload_n (pc := 1078) hx hb dL_law_1078 rfl (lv_at hl 3 rfl) ?_
    refine lv_iconst (v := 2) (pc := 1079) hx hb dL_law_1079 (by decide) ?_
    refine lv_iadd (pc := 1080) hx hb dL_law_1080 ?_
    refine l_sld (pc := 1081) K hH hi2 dL_law_1081 ?_
    refine lv_aload_n (pc := 1082) hx hb dL_law_1082 rfl (lv_at hl 0 rfl) ?_
    refine lv_iload_n (pc := 1083) hx hb dL_law_1083 rfl (lv_at hl 3 rfl) ?_
    refine lv_iconst (v := 3) (pc := 1084) hx hb dL_law_1084 (by decide) ?_
    refine lv_iadd (pc := 1085) hx hb dL_law_1085 ?_
    refine l_sld (pc := 1086) K hH hi3 dL_law_1086 ?_
    refine lv_if_eq (tgt := 1094) (pc := 1087) hx hb dL_law_1087 (by decide) (fun hc => ?_) (fun hc => ?_)
    · exact absurd hc hz
    · skip
      refine lv_iconst (v := 1) (pc := 1090) hx hb dL_law_1090 (by decide) ?_
      refine lv_goto (tgt := 1095) (pc := 1091) hx hb dL_law_1091 (by decide) ?_
      refine l_callY (pc := 1095) (rest := [.int r]) K hH hl.1 rfl (mX11_felt e2) ky_X11_felt km_L_151 ⟨Nat.le_of_ble_eq_true rfl, Nat.le_of_ble_eq_true rfl⟩ ⟨Nat.le_of_ble_eq_true rfl, Nat.le_of_ble_eq_true rfl⟩ rfl (Nat.le_of_ble_eq_true rfl) dL_law_1095 rfl (fun H locs hH => ?_)
      refine lv_icmp_eq (tgt := 1307) (pc := 1098) hx hb dL_law_1098 (by decide) (fun _ => ?_) (fun hc => absurd rfl hc)
      exact hk hI hH hl
set_option maxRecDepth 100000 in
set_option maxHeartbeats 4000000 in
theorem lc_untell (hs : ∀ a1 : Int32, sOK I (fX10_untell a1) (fX11_untell a1)) (K : lawK p s m meth c b L xs D cA adx adm B2) (hi1 : vp_in (x3 + 1) L) (hi2 : vp_in (x3 + 2) L) (hi3 : vp_in (x3 + 3) L) (hi4 : vp_in (x3 + 4) L) (hi5 : vp_in (x3 + 5) L)
    (hk : ∀ {x y : gS} {H : Heap} {locs : List Loc} {ls : Array Slot}, I x y → lawH s D cA adx adm x y H locs → lv_has ls 4 [(0, .ref b), (1, .ref (adx 0)), (2, .ref (adm 0)), (3, .int x3)] → W p l e room_1 s m #[Value.ref b] below meth c H locs 265 8728 Q (F0 m 1307 ls []))
    {x y : gS} {H : Heap} {locs : List Loc} {ls : Array Slot} (hI : I x y) (hH : lawH s D cA adx adm x y H locs) (hl : lv_has ls 4 [(0, .ref b), (1, .ref (adx 0)), (2, .ref (adm 0)), (3, .int x3)]) : W p l e room_1 s m #[Value.ref b] below meth c H locs 265 8728 Q (F0 m 1103 ls []) := by
  obtain ⟨hx, hb, hml, hown, hts⟩ := id K.1
  refine lv_aload_n (pc := 1103) hx hb dL_law_1103 rfl (lv_at hl 1 rfl) ?_
  refine lv_aload_n (pc := 1104) hx hb dL_law_1104 rfl (lv_at hl 0 rfl) ?_
  refine lv_iload_n (pc := 1105) hx hb dL_law_1105 rfl (lv_at hl 3 rfl) ?_
  refine lv_iconst (v := 1) (pc := 1106) hx hb dL_law_1106 (by decide) ?_
  refine lv_iadd (pc := 1107) hx hb dL_law_1107 ?_
  refine l_sld (pc := 1108) K hH hi1 dL_law_1108 ?_
  obtain ⟨r, x1, y1, e1, e2, hI⟩ := hs (xs (x3 + 1).toNatClampNeg) x y hI
  refine l_callX (pc := 1109) (rest := []) K hH hl.1 rfl (mX10_untell e1) ky_X10_untell km_L_152 ⟨Nat.le_of_ble_eq_true rfl, Nat.le_of_ble_eq_true rfl⟩ ⟨Nat.le_of_ble_eq_true rfl, Nat.le_of_ble_eq_true rfl⟩ rfl (Nat.le_of_ble_eq_true rfl) dL_law_1109 rfl (fun H locs hH => ?_)
  refine lv_aload_n (pc := 1112) hx hb dL_law_1112 rfl (lv_at hl 2 rfl) ?_
  refine lv_aload_n (pc := 1113) hx hb dL_law_1113 rfl (lv_at hl 0 rfl) ?_
  refine lv_iload_n (pc := 1114) hx hb dL_law_1114 rfl (lv_at hl 3 rfl) ?_
  refine lv_iconst (v := 1) (pc := 1115) hx hb dL_law_1115 (by decide) ?_
  refine lv_iadd (pc := 1116) hx hb dL_law_1116 ?_
  refine l_sld (pc := 1117) K hH hi1 dL_law_1117 ?_
  refine l_callY (pc := 1118) (rest := [.int r]) K hH hl.1 rfl (mX11_untell e2) ky_X11_untell km_L_156 ⟨Nat.le_of_ble_eq_true rfl, Nat.le_of_ble_eq_true rfl⟩ ⟨Nat.le_of_ble_eq_true rfl, Nat.le_of_ble_eq_true rfl⟩ rfl (Nat.le_of_ble_eq_true rfl) dL_law_1118 rfl (fun H locs hH => ?_)
  refine lv_icmp_eq (tgt := 1307) (pc := 1121) hx hb dL_law_1121 (by decide) (fun _ => ?_) (fun hc => absurd rfl hc)
  exact hk hI hH hl
set_option maxRecDepth 100000 in
set_option maxHeartbeats 4000000 in
theorem lc_later (hs : ∀ a1 : Int32, sOK I (fX10_later a1) (fX11_later a1)) (K : lawK p s m meth c b L xs D cA adx adm B2) (hi1 : vp_in (x3 + 1) L) (hi2 : vp_in (x3 + 2) L) (hi3 : vp_in (x3 + 3) L) (hi4 : vp_in (x3 + 4) L) (hi5 : vp_in (x3 + 5) L)
    (hk : ∀ {x y : gS} {H : Heap} {locs : List Loc} {ls : Array Slot}, I x y → lawH s D cA adx adm x y H locs → lv_has ls 4 [(0, .ref b), (1, .ref (adx 0)), (2, .ref (adm 0)), (3, .int x3)] → W p l e room_1 s m #[Value.ref b] below meth c H locs 265 8728 Q (F0 m 1307 ls []))
    {x y : gS} {H : Heap} {locs : List Loc} {ls : Array Slot} (hI : I x y) (hH : lawH s D cA adx adm x y H locs) (hl : lv_has ls 4 [(0, .ref b), (1, .ref (adx 0)), (2, .ref (adm 0)), (3, .int x3)]) : W p l e room_1 s m #[Value.ref b] below meth c H locs 265 8728 Q (F0 m 1126 ls []) := by
  obtain ⟨hx, hb, hml, hown, hts⟩ := id K.1
  refine lv_aload_n (pc := 1126) hx hb dL_law_1126 rfl (lv_at hl 1 rfl) ?_
  refine lv_aload_n (pc := 1127) hx hb dL_law_1127 rfl (lv_at hl 0 rfl) ?_
  refine lv_iload_n (pc := 1128) hx hb dL_law_1128 rfl (lv_at hl 3 rfl) ?_
  refine lv_iconst (v := 1) (pc := 1129) hx hb dL_law_1129 (by decide) ?_
  refine lv_iadd (pc := 1130) hx hb dL_law_1130 ?_
  refine l_sld (pc := 1131) K hH hi1 dL_law_1131 ?_
  obtain ⟨r, x1, y1, e1, e2, hI⟩ := hs (xs (x3 + 1).toNatClampNeg) x y hI
  refine l_callX (pc := 1132) (rest := []) K hH hl.1 rfl (mX10_later e1) ky_X10_later km_L_157 ⟨Nat.le_of_ble_eq_true rfl, Nat.le_of_ble_eq_true rfl⟩ ⟨Nat.le_of_ble_eq_true rfl, Nat.le_of_ble_eq_true rfl⟩ rfl (Nat.le_of_ble_eq_true rfl) dL_law_1132 rfl (fun H locs hH => ?_)
  refine lv_aload_n (pc := 1135) hx hb dL_law_1135 rfl (lv_at hl 2 rfl) ?_
  refine lv_aload_n (pc := 1136) hx hb dL_law_1136 rfl (lv_at hl 0 rfl) ?_
  refine lv_iload_n (pc := 1137) hx hb dL_law_1137 rfl (lv_at hl 3 rfl) ?_
  refine lv_iconst (v := 1) (pc := 1138) hx hb dL_law_1138 (by decide) ?_
  refine lv_iadd (pc := 1139) hx hb dL_law_1139 ?_
  refine l_sld (pc := 1140) K hH hi1 dL_law_1140 ?_
  refine l_callY (pc := 1141) (rest := [.int r]) K hH hl.1 rfl (mX11_later e2) ky_X11_later km_L_160 ⟨Nat.le_of_ble_eq_true rfl, Nat.le_of_ble_eq_true rfl⟩ ⟨Nat.le_of_ble_eq_true rfl, Nat.le_of_ble_eq_true rfl⟩ rfl (Nat.le_of_ble_eq_true rfl) dL_law_1141 rfl (fun H locs hH => ?_)
  refine lv_icmp_eq (tgt := 1307) (pc := 1144) hx hb dL_law_1144 (by decide) (fun _ => ?_) (fun hc => absurd rfl hc)
  exact hk hI hH hl
set_option maxRecDepth 100000 in
set_option maxHeartbeats 4000000 in
theorem lc_rows (hs : ∀ a1 : Int32, sOK I (fX10_rows a1) (fX11_rows a1)) (K : lawK p s m meth c b L xs D cA adx adm B2) (hi1 : vp_in (x3 + 1) L) (hi2 : vp_in (x3 + 2) L) (hi3 : vp_in (x3 + 3) L) (hi4 : vp_in (x3 + 4) L) (hi5 : vp_in (x3 + 5) L)
    (hk : ∀ {x y : gS} {H : Heap} {locs : List Loc} {ls : Array Slot}, I x y → lawH s D cA adx adm x y H locs → lv_has ls 4 [(0, .ref b), (1, .ref (adx 0)), (2, .ref (adm 0)), (3, .int x3)] → W p l e room_1 s m #[Value.ref b] below meth c H locs 265 8728 Q (F0 m 1307 ls []))
    {x y : gS} {H : Heap} {locs : List Loc} {ls : Array Slot} (hI : I x y) (hH : lawH s D cA adx adm x y H locs) (hl : lv_has ls 4 [(0, .ref b), (1, .ref (adx 0)), (2, .ref (adm 0)), (3, .int x3)]) : W p l e room_1 s m #[Value.ref b] below meth c H locs 265 8728 Q (F0 m 1149 ls []) := by
  obtain ⟨hx, hb, hml, hown, hts⟩ := id K.1
  refine lv_aload_n (pc := 1149) hx hb dL_law_1149 rfl (lv_at hl 1 rfl) ?_
  refine lv_aload_n (pc := 1150) hx hb dL_law_1150 rfl (lv_at hl 0 rfl) ?_
  refine lv_iload_n (pc := 1151) hx hb dL_law_1151 rfl (lv_at hl 3 rfl) ?_
  refine lv_iconst (v := 1) (pc := 1152) hx hb dL_law_1152 (by decide) ?_
  refine lv_iadd (pc := 1153) hx hb dL_law_1153 ?_
  refine l_sld (pc := 1154) K hH hi1 dL_law_1154 ?_
  obtain ⟨r, x1, y1, e1, e2, hI⟩ := hs (xs (x3 + 1).toNatClampNeg) x y hI
  refine l_callX (pc := 1155) (rest := []) K hH hl.1 rfl (mX10_rows e1) ky_X10_rows km_L_161 ⟨Nat.le_of_ble_eq_true rfl, Nat.le_of_ble_eq_true rfl⟩ ⟨Nat.le_of_ble_eq_true rfl, Nat.le_of_ble_eq_true rfl⟩ rfl (Nat.le_of_ble_eq_true rfl) dL_law_1155 rfl (fun H locs hH => ?_)
  refine lv_aload_n (pc := 1158) hx hb dL_law_1158 rfl (lv_at hl 2 rfl) ?_
  refine lv_aload_n (pc := 1159) hx hb dL_law_1159 rfl (lv_at hl 0 rfl) ?_
  refine lv_iload_n (pc := 1160) hx hb dL_law_1160 rfl (lv_at hl 3 rfl) ?_
  refine lv_iconst (v := 1) (pc := 1161) hx hb dL_law_1161 (by decide) ?_
  refine lv_iadd (pc := 1162) hx hb dL_law_1162 ?_
  refine l_sld (pc := 1163) K hH hi1 dL_law_1163 ?_
  refine l_callY (pc := 1164) (rest := [.int r]) K hH hl.1 rfl (mX11_rows e2) ky_X11_rows km_L_164 ⟨Nat.le_of_ble_eq_true rfl, Nat.le_of_ble_eq_true rfl⟩ ⟨Nat.le_of_ble_eq_true rfl, Nat.le_of_ble_eq_true rfl⟩ rfl (Nat.le_of_ble_eq_true rfl) dL_law_1164 rfl (fun H locs hH => ?_)
  refine lv_icmp_eq (tgt := 1307) (pc := 1167) hx hb dL_law_1167 (by decide) (fun _ => ?_) (fun hc => absurd rfl hc)
  exact hk hI hH hl
set_option maxRecDepth 100000 in
set_option maxHeartbeats 4000000 in
theorem lc_sure (hs : ∀ a1 a2 : Int32, sOK I (fX10_sure a1 a2) (fX11_sure a1 a2)) (K : lawK p s m meth c b L xs D cA adx adm B2) (hi1 : vp_in (x3 + 1) L) (hi2 : vp_in (x3 + 2) L) (hi3 : vp_in (x3 + 3) L) (hi4 : vp_in (x3 + 4) L) (hi5 : vp_in (x3 + 5) L)
    (hk : ∀ {x y : gS} {H : Heap} {locs : List Loc} {ls : Array Slot}, I x y → lawH s D cA adx adm x y H locs → lv_has ls 4 [(0, .ref b), (1, .ref (adx 0)), (2, .ref (adm 0)), (3, .int x3)] → W p l e room_1 s m #[Value.ref b] below meth c H locs 265 8728 Q (F0 m 1307 ls []))
    {x y : gS} {H : Heap} {locs : List Loc} {ls : Array Slot} (hI : I x y) (hH : lawH s D cA adx adm x y H locs) (hl : lv_has ls 4 [(0, .ref b), (1, .ref (adx 0)), (2, .ref (adm 0)), (3, .int x3)]) : W p l e room_1 s m #[Value.ref b] below meth c H locs 265 8728 Q (F0 m 1172 ls []) := by
  obtain ⟨hx, hb, hml, hown, hts⟩ := id K.1
  refine lv_aload_n (pc := 1172) hx hb dL_law_1172 rfl (lv_at hl 1 rfl) ?_
  refine lv_aload_n (pc := 1173) hx hb dL_law_1173 rfl (lv_at hl 0 rfl) ?_
  refine lv_iload_n (pc := 1174) hx hb dL_law_1174 rfl (lv_at hl 3 rfl) ?_
  refine lv_iconst (v := 1) (pc := 1175) hx hb dL_law_1175 (by decide) ?_
  refine lv_iadd (pc := 1176) hx hb dL_law_1176 ?_
  refine l_sld (pc := 1177) K hH hi1 dL_law_1177 ?_
  refine lv_aload_n (pc := 1178) hx hb dL_law_1178 rfl (lv_at hl 0 rfl) ?_
  refine lv_iload_n (pc := 1179) hx hb dL_law_1179 rfl (lv_at hl 3 rfl) ?_
  refine lv_iconst (v := 2) (pc := 1180) hx hb dL_law_1180 (by decide) ?_
  refine lv_iadd (pc := 1181) hx hb dL_law_1181 ?_
  refine l_sld (pc := 1182) K hH hi2 dL_law_1182 ?_
  obtain ⟨r, x1, y1, e1, e2, hI⟩ := hs (xs (x3 + 1).toNatClampNeg) (xs (x3 + 2).toNatClampNeg) x y hI
  refine l_callX (pc := 1183) (rest := []) K hH hl.1 rfl (mX10_sure e1) ky_X10_sure km_L_165 ⟨Nat.le_of_ble_eq_true rfl, Nat.le_of_ble_eq_true rfl⟩ ⟨Nat.le_of_ble_eq_true rfl, Nat.le_of_ble_eq_true rfl⟩ rfl (Nat.le_of_ble_eq_true rfl) dL_law_1183 rfl (fun H locs hH => ?_)
  refine lv_aload_n (pc := 1186) hx hb dL_law_1186 rfl (lv_at hl 2 rfl) ?_
  refine lv_aload_n (pc := 1187) hx hb dL_law_1187 rfl (lv_at hl 0 rfl) ?_
  refine lv_iload_n (pc := 1188) hx hb dL_law_1188 rfl (lv_at hl 3 rfl) ?_
  refine lv_iconst (v := 1) (pc := 1189) hx hb dL_law_1189 (by decide) ?_
  refine lv_iadd (pc := 1190) hx hb dL_law_1190 ?_
  refine l_sld (pc := 1191) K hH hi1 dL_law_1191 ?_
  refine lv_aload_n (pc := 1192) hx hb dL_law_1192 rfl (lv_at hl 0 rfl) ?_
  refine lv_iload_n (pc := 1193) hx hb dL_law_1193 rfl (lv_at hl 3 rfl) ?_
  refine lv_iconst (v := 2) (pc := 1194) hx hb dL_law_1194 (by decide) ?_
  refine lv_iadd (pc := 1195) hx hb dL_law_1195 ?_
  refine l_sld (pc := 1196) K hH hi2 dL_law_1196 ?_
  refine l_callY (pc := 1197) (rest := [.int r]) K hH hl.1 rfl (mX11_sure e2) ky_X11_sure km_L_168 ⟨Nat.le_of_ble_eq_true rfl, Nat.le_of_ble_eq_true rfl⟩ ⟨Nat.le_of_ble_eq_true rfl, Nat.le_of_ble_eq_true rfl⟩ rfl (Nat.le_of_ble_eq_true rfl) dL_law_1197 rfl (fun H locs hH => ?_)
  refine lv_icmp_eq (tgt := 1307) (pc := 1200) hx hb dL_law_1200 (by decide) (fun _ => ?_) (fun hc => absurd rfl hc)
  exact hk hI hH hl
set_option maxRecDepth 100000 in
set_option maxHeartbeats 4000000 in
theorem lc_ask (hs : ∀ a1 a2 : Int32, sOK I (fX10_ask a1 a2) (fX11_ask a1 a2)) (K : lawK p s m meth c b L xs D cA adx adm B2) (hi1 : vp_in (x3 + 1) L) (hi2 : vp_in (x3 + 2) L) (hi3 : vp_in (x3 + 3) L) (hi4 : vp_in (x3 + 4) L) (hi5 : vp_in (x3 + 5) L)
    (hk : ∀ {x y : gS} {H : Heap} {locs : List Loc} {ls : Array Slot}, I x y → lawH s D cA adx adm x y H locs → lv_has ls 4 [(0, .ref b), (1, .ref (adx 0)), (2, .ref (adm 0)), (3, .int x3)] → W p l e room_1 s m #[Value.ref b] below meth c H locs 265 8728 Q (F0 m 1307 ls []))
    {x y : gS} {H : Heap} {locs : List Loc} {ls : Array Slot} (hI : I x y) (hH : lawH s D cA adx adm x y H locs) (hl : lv_has ls 4 [(0, .ref b), (1, .ref (adx 0)), (2, .ref (adm 0)), (3, .int x3)]) : W p l e room_1 s m #[Value.ref b] below meth c H locs 265 8728 Q (F0 m 1205 ls []) := by
  obtain ⟨hx, hb, hml, hown, hts⟩ := id K.1
  refine lv_aload_n (pc := 1205) hx hb dL_law_1205 rfl (lv_at hl 1 rfl) ?_
  refine lv_aload_n (pc := 1206) hx hb dL_law_1206 rfl (lv_at hl 0 rfl) ?_
  refine lv_iload_n (pc := 1207) hx hb dL_law_1207 rfl (lv_at hl 3 rfl) ?_
  refine lv_iconst (v := 1) (pc := 1208) hx hb dL_law_1208 (by decide) ?_
  refine lv_iadd (pc := 1209) hx hb dL_law_1209 ?_
  refine l_sld (pc := 1210) K hH hi1 dL_law_1210 ?_
  refine lv_aload_n (pc := 1211) hx hb dL_law_1211 rfl (lv_at hl 0 rfl) ?_
  refine lv_iload_n (pc := 1212) hx hb dL_law_1212 rfl (lv_at hl 3 rfl) ?_
  refine lv_iconst (v := 2) (pc := 1213) hx hb dL_law_1213 (by decide) ?_
  refine lv_iadd (pc := 1214) hx hb dL_law_1214 ?_
  refine l_sld (pc := 1215) K hH hi2 dL_law_1215 ?_
  obtain ⟨r, x1, y1, e1, e2, hI⟩ := hs (xs (x3 + 1).toNatClampNeg) (xs (x3 + 2).toNatClampNeg) x y hI
  refine l_callX (pc := 1216) (rest := []) K hH hl.1 rfl (mX10_ask e1) ky_X10_ask km_L_169 ⟨Nat.le_of_ble_eq_true rfl, Nat.le_of_ble_eq_true rfl⟩ ⟨Nat.le_of_ble_eq_true rfl, Nat.le_of_ble_eq_true rfl⟩ rfl (Nat.le_of_ble_eq_true rfl) dL_law_1216 rfl (fun H locs hH => ?_)
  refine lv_aload_n (pc := 1219) hx hb dL_law_1219 rfl (lv_at hl 2 rfl) ?_
  refine lv_aload_n (pc := 1220) hx hb dL_law_1220 rfl (lv_at hl 0 rfl) ?_
  refine lv_iload_n (pc := 1221) hx hb dL_law_1221 rfl (lv_at hl 3 rfl) ?_
  refine lv_iconst (v := 1) (pc := 1222) hx hb dL_law_1222 (by decide) ?_
  refine lv_iadd (pc := 1223) hx hb dL_law_1223 ?_
  refine l_sld (pc := 1224) K hH hi1 dL_law_1224 ?_
  refine lv_aload_n (pc := 1225) hx hb dL_law_1225 rfl (lv_at hl 0 rfl) ?_
  refine lv_iload_n (pc := 1226) hx hb dL_law_1226 rfl (lv_at hl 3 rfl) ?_
  refine lv_iconst (v := 2) (pc := 1227) hx hb dL_law_1227 (by decide) ?_
  refine lv_iadd (pc := 1228) hx hb dL_law_1228 ?_
  refine l_sld (pc := 1229) K hH hi2 dL_law_1229 ?_
  refine l_callY (pc := 1230) (rest := [.int r]) K hH hl.1 rfl (mX11_ask e2) ky_X11_ask km_L_172 ⟨Nat.le_of_ble_eq_true rfl, Nat.le_of_ble_eq_true rfl⟩ ⟨Nat.le_of_ble_eq_true rfl, Nat.le_of_ble_eq_true rfl⟩ rfl (Nat.le_of_ble_eq_true rfl) dL_law_1230 rfl (fun H locs hH => ?_)
  refine lv_icmp_eq (tgt := 1307) (pc := 1233) hx hb dL_law_1233 (by decide) (fun _ => ?_) (fun hc => absurd rfl hc)
  exact hk hI hH hl
set_option maxRecDepth 100000 in
set_option maxHeartbeats 4000000 in
theorem lc_image (hs : ∀ a1 : Int32, sOK I (fX10_image a1) (fX11_image a1)) (K : lawK p s m meth c b L xs D cA adx adm B2) (hi1 : vp_in (x3 + 1) L) (hi2 : vp_in (x3 + 2) L) (hi3 : vp_in (x3 + 3) L) (hi4 : vp_in (x3 + 4) L) (hi5 : vp_in (x3 + 5) L)
    (hk : ∀ {x y : gS} {H : Heap} {locs : List Loc} {ls : Array Slot}, I x y → lawH s D cA adx adm x y H locs → lv_has ls 4 [(0, .ref b), (1, .ref (adx 0)), (2, .ref (adm 0)), (3, .int x3)] → W p l e room_1 s m #[Value.ref b] below meth c H locs 265 8728 Q (F0 m 1307 ls []))
    {x y : gS} {H : Heap} {locs : List Loc} {ls : Array Slot} (hI : I x y) (hH : lawH s D cA adx adm x y H locs) (hl : lv_has ls 4 [(0, .ref b), (1, .ref (adx 0)), (2, .ref (adm 0)), (3, .int x3)]) : W p l e room_1 s m #[Value.ref b] below meth c H locs 265 8728 Q (F0 m 1238 ls []) := by
  obtain ⟨hx, hb, hml, hown, hts⟩ := id K.1
  refine lv_aload_n (pc := 1238) hx hb dL_law_1238 rfl (lv_at hl 1 rfl) ?_
  refine lv_aload_n (pc := 1239) hx hb dL_law_1239 rfl (lv_at hl 0 rfl) ?_
  refine lv_iload_n (pc := 1240) hx hb dL_law_1240 rfl (lv_at hl 3 rfl) ?_
  refine lv_iconst (v := 1) (pc := 1241) hx hb dL_law_1241 (by decide) ?_
  refine lv_iadd (pc := 1242) hx hb dL_law_1242 ?_
  refine l_sld (pc := 1243) K hH hi1 dL_law_1243 ?_
  obtain ⟨r, x1, y1, e1, e2, hI⟩ := hs (xs (x3 + 1).toNatClampNeg) x y hI
  refine l_callX (pc := 1244) (rest := []) K hH hl.1 rfl (mX10_image e1) ky_X10_image km_L_173 ⟨Nat.le_of_ble_eq_true rfl, Nat.le_of_ble_eq_true rfl⟩ ⟨Nat.le_of_ble_eq_true rfl, Nat.le_of_ble_eq_true rfl⟩ rfl (Nat.le_of_ble_eq_true rfl) dL_law_1244 rfl (fun H locs hH => ?_)
  refine lv_aload_n (pc := 1247) hx hb dL_law_1247 rfl (lv_at hl 2 rfl) ?_
  refine lv_aload_n (pc := 1248) hx hb dL_law_1248 rfl (lv_at hl 0 rfl) ?_
  refine lv_iload_n (pc := 1249) hx hb dL_law_1249 rfl (lv_at hl 3 rfl) ?_
  refine lv_iconst (v := 1) (pc := 1250) hx hb dL_law_1250 (by decide) ?_
  refine lv_iadd (pc := 1251) hx hb dL_law_1251 ?_
  refine l_sld (pc := 1252) K hH hi1 dL_law_1252 ?_
  refine l_callY (pc := 1253) (rest := [.int r]) K hH hl.1 rfl (mX11_image e2) ky_X11_image km_L_176 ⟨Nat.le_of_ble_eq_true rfl, Nat.le_of_ble_eq_true rfl⟩ ⟨Nat.le_of_ble_eq_true rfl, Nat.le_of_ble_eq_true rfl⟩ rfl (Nat.le_of_ble_eq_true rfl) dL_law_1253 rfl (fun H locs hH => ?_)
  refine lv_icmp_eq (tgt := 1307) (pc := 1256) hx hb dL_law_1256 (by decide) (fun _ => ?_) (fun hc => absurd rfl hc)
  exact hk hI hH hl
set_option maxRecDepth 100000 in
set_option maxHeartbeats 4000000 in
theorem lc_back (hs : ∀ a1 : Int32, sOK I (fX10_back a1) (fX11_back a1)) (K : lawK p s m meth c b L xs D cA adx adm B2) (hi1 : vp_in (x3 + 1) L) (hi2 : vp_in (x3 + 2) L) (hi3 : vp_in (x3 + 3) L) (hi4 : vp_in (x3 + 4) L) (hi5 : vp_in (x3 + 5) L)
    (hk : ∀ {x y : gS} {H : Heap} {locs : List Loc} {ls : Array Slot}, I x y → lawH s D cA adx adm x y H locs → lv_has ls 4 [(0, .ref b), (1, .ref (adx 0)), (2, .ref (adm 0)), (3, .int x3)] → W p l e room_1 s m #[Value.ref b] below meth c H locs 265 8728 Q (F0 m 1307 ls []))
    {x y : gS} {H : Heap} {locs : List Loc} {ls : Array Slot} (hI : I x y) (hH : lawH s D cA adx adm x y H locs) (hl : lv_has ls 4 [(0, .ref b), (1, .ref (adx 0)), (2, .ref (adm 0)), (3, .int x3)]) : W p l e room_1 s m #[Value.ref b] below meth c H locs 265 8728 Q (F0 m 1261 ls []) := by
  obtain ⟨hx, hb, hml, hown, hts⟩ := id K.1
  refine lv_aload_n (pc := 1261) hx hb dL_law_1261 rfl (lv_at hl 1 rfl) ?_
  refine lv_aload_n (pc := 1262) hx hb dL_law_1262 rfl (lv_at hl 0 rfl) ?_
  refine lv_iload_n (pc := 1263) hx hb dL_law_1263 rfl (lv_at hl 3 rfl) ?_
  refine lv_iconst (v := 1) (pc := 1264) hx hb dL_law_1264 (by decide) ?_
  refine lv_iadd (pc := 1265) hx hb dL_law_1265 ?_
  refine l_sld (pc := 1266) K hH hi1 dL_law_1266 ?_
  obtain ⟨r, x1, y1, e1, e2, hI⟩ := hs (xs (x3 + 1).toNatClampNeg) x y hI
  refine l_callX (pc := 1267) (rest := []) K hH hl.1 rfl (mX10_back e1) ky_X10_back km_L_177 ⟨Nat.le_of_ble_eq_true rfl, Nat.le_of_ble_eq_true rfl⟩ ⟨Nat.le_of_ble_eq_true rfl, Nat.le_of_ble_eq_true rfl⟩ rfl (Nat.le_of_ble_eq_true rfl) dL_law_1267 rfl (fun H locs hH => ?_)
  refine lv_aload_n (pc := 1270) hx hb dL_law_1270 rfl (lv_at hl 2 rfl) ?_
  refine lv_aload_n (pc := 1271) hx hb dL_law_1271 rfl (lv_at hl 0 rfl) ?_
  refine lv_iload_n (pc := 1272) hx hb dL_law_1272 rfl (lv_at hl 3 rfl) ?_
  refine lv_iconst (v := 1) (pc := 1273) hx hb dL_law_1273 (by decide) ?_
  refine lv_iadd (pc := 1274) hx hb dL_law_1274 ?_
  refine l_sld (pc := 1275) K hH hi1 dL_law_1275 ?_
  refine l_callY (pc := 1276) (rest := [.int r]) K hH hl.1 rfl (mX11_back e2) ky_X11_back km_L_180 ⟨Nat.le_of_ble_eq_true rfl, Nat.le_of_ble_eq_true rfl⟩ ⟨Nat.le_of_ble_eq_true rfl, Nat.le_of_ble_eq_true rfl⟩ rfl (Nat.le_of_ble_eq_true rfl) dL_law_1276 rfl (fun H locs hH => ?_)
  refine lv_icmp_eq (tgt := 1307) (pc := 1279) hx hb dL_law_1279 (by decide) (fun _ => ?_) (fun hc => absurd rfl hc)
  exact hk hI hH hl
set_option maxRecDepth 100000 in
set_option maxHeartbeats 4000000 in
theorem lc_about (hs : ∀ a1 : Int32, sOK I (fX10_about a1) (fX11_about a1)) (K : lawK p s m meth c b L xs D cA adx adm B2) (hi1 : vp_in (x3 + 1) L) (hi2 : vp_in (x3 + 2) L) (hi3 : vp_in (x3 + 3) L) (hi4 : vp_in (x3 + 4) L) (hi5 : vp_in (x3 + 5) L)
    (hk : ∀ {x y : gS} {H : Heap} {locs : List Loc} {ls : Array Slot}, I x y → lawH s D cA adx adm x y H locs → lv_has ls 4 [(0, .ref b), (1, .ref (adx 0)), (2, .ref (adm 0)), (3, .int x3)] → W p l e room_1 s m #[Value.ref b] below meth c H locs 265 8728 Q (F0 m 1307 ls []))
    {x y : gS} {H : Heap} {locs : List Loc} {ls : Array Slot} (hI : I x y) (hH : lawH s D cA adx adm x y H locs) (hl : lv_has ls 4 [(0, .ref b), (1, .ref (adx 0)), (2, .ref (adm 0)), (3, .int x3)]) : W p l e room_1 s m #[Value.ref b] below meth c H locs 265 8728 Q (F0 m 1284 ls []) := by
  obtain ⟨hx, hb, hml, hown, hts⟩ := id K.1
  refine lv_aload_n (pc := 1284) hx hb dL_law_1284 rfl (lv_at hl 1 rfl) ?_
  refine lv_aload_n (pc := 1285) hx hb dL_law_1285 rfl (lv_at hl 0 rfl) ?_
  refine lv_iload_n (pc := 1286) hx hb dL_law_1286 rfl (lv_at hl 3 rfl) ?_
  refine lv_iconst (v := 1) (pc := 1287) hx hb dL_law_1287 (by decide) ?_
  refine lv_iadd (pc := 1288) hx hb dL_law_1288 ?_
  refine l_sld (pc := 1289) K hH hi1 dL_law_1289 ?_
  obtain ⟨r, x1, y1, e1, e2, hI⟩ := hs (xs (x3 + 1).toNatClampNeg) x y hI
  refine l_callX (pc := 1290) (rest := []) K hH hl.1 rfl (mX10_about e1) ky_X10_about km_L_181 ⟨Nat.le_of_ble_eq_true rfl, Nat.le_of_ble_eq_true rfl⟩ ⟨Nat.le_of_ble_eq_true rfl, Nat.le_of_ble_eq_true rfl⟩ rfl (Nat.le_of_ble_eq_true rfl) dL_law_1290 rfl (fun H locs hH => ?_)
  refine lv_aload_n (pc := 1293) hx hb dL_law_1293 rfl (lv_at hl 2 rfl) ?_
  refine lv_aload_n (pc := 1294) hx hb dL_law_1294 rfl (lv_at hl 0 rfl) ?_
  refine lv_iload_n (pc := 1295) hx hb dL_law_1295 rfl (lv_at hl 3 rfl) ?_
  refine lv_iconst (v := 1) (pc := 1296) hx hb dL_law_1296 (by decide) ?_
  refine lv_iadd (pc := 1297) hx hb dL_law_1297 ?_
  refine l_sld (pc := 1298) K hH hi1 dL_law_1298 ?_
  refine l_callY (pc := 1299) (rest := [.int r]) K hH hl.1 rfl (mX11_about e2) ky_X11_about km_L_184 ⟨Nat.le_of_ble_eq_true rfl, Nat.le_of_ble_eq_true rfl⟩ ⟨Nat.le_of_ble_eq_true rfl, Nat.le_of_ble_eq_true rfl⟩ rfl (Nat.le_of_ble_eq_true rfl) dL_law_1299 rfl (fun H locs hH => ?_)
  refine lv_icmp_eq (tgt := 1307) (pc := 1302) hx hb dL_law_1302 (by decide) (fun _ => ?_) (fun hc => absurd rfl hc)
  exact hk hI hH hl
end
