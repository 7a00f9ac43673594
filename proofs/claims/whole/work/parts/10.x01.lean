section
variable {p : Program} {l : Launch} {e : Env} {s : State} {m : MethodId} {args : Array Value} {below : List Frame} {meth : Method} {c : Code} {D : va_G} {cA : Nat → ClassId} {ad : Nat → Nat}
def fJ0_isLatin1_aae02    (st : gS) : Option (Int32 × gS) :=
  some (1, st)
set_option maxRecDepth 100000 in
set_option maxHeartbeats 4000000 in
theorem bJ0_isLatin1_aae02_0  (hC : CallFix p m c cJ0_isLatin1_aae02 1 s args lw_good RJ0) (hret : meth.sig.returnType = (some .boolean)) (hlk : meth.locks = false) (hU : gU 0 D cA ad s)  {r : Int32} {st' : gS}   {st : gS} {H : Heap} {locs : List Loc} {ls : Array Slot} (hf : fJ0_isLatin1_aae02 st = some (r, st')) (hH : gP0 0 D cA ad st H) (hS : va_S (gA 0 ad) s.heap H locs) (hl : lv_has ls 1 [(0, .ref (ad 301))]) : W p l e (gRm 1) s m args below meth c H locs 0 0 (MQ below (gQc 0 D cA ad st' (some (.int r))) args s 0 0 (gA 0 ad)) (F0 m 0 ls []) := by
  obtain ⟨hx, hb, hml, hown, hts⟩ := id hC
  unfold fJ0_isLatin1_aae02 at hf
  refine va_gets (pc := 0) hx hb (hU.2.2.2 rfl).2.2.2.2 hS hown (hts _ ks_J0_38) (fun _ h => h) dJ0_isLatin1_aae02_0 ?_
  refine lv_if_eq (tgt := 17) (pc := 3) hx hb dJ0_isLatin1_aae02_3 (by decide) (fun hc => ?_) (fun hc => ?_)
  · exact absurd hc (by decide)
  · skip
    refine lv_aload_n (pc := 6) hx hb dJ0_isLatin1_aae02_6 rfl (lv_at hl 0 rfl) ?_
    refine vk_getf (pc := 7) hx hb ((hU.2.2.2 rfl).2.2.2.1.1 0 (by decide)).2.1 hS hown (hts _ ks_J0_15) (fun _ h => h) dJ0_isLatin1_aae02_7 ?_
    refine lv_if_ne (tgt := 17) (pc := 10) hx hb dJ0_isLatin1_aae02_10 (by decide) (fun hc => ?_) (fun hc => ?_)
    · exact absurd hc (by decide)
    · skip
      refine lv_iconst (v := 1) (pc := 13) hx hb dJ0_isLatin1_aae02_13 (by decide) ?_
      refine lv_goto (tgt := 18) (pc := 14) hx hb dJ0_isLatin1_aae02_14 (by decide) ?_
      exact g_zret (pc := 18) hC hret hlk hH hS (by decide) hf dJ0_isLatin1_aae02_18
set_option maxRecDepth 100000 in
set_option maxHeartbeats 4000000 in
theorem mJ0_isLatin1_aae02 {l : Launch} {D : va_G} {cA : Nat → ClassId} {ad : Nat → Nat}   {r : Int32} {st st' : gS} (hf : fJ0_isLatin1_aae02  st = some (r, st')) : gM l yJ0_isLatin1_aae02 cJ0_isLatin1_aae02 1 (some .boolean) 1 0 D cA ad st [.ref (ad 301)] (some (.int r)) st' := by
  refine g_met (by decide) (Nat.le_of_ble_eq_true rfl) ?_
  intro p e s m args below meth c ls hC hret hlk hU hH hl
  exact bJ0_isLatin1_aae02_0 hC hret hlk hU hf hH va_S.rf hl
def fJ0_coder_7d493    (st : gS) : Option (Int32 × gS) :=
  some (0, st)
set_option maxRecDepth 100000 in
set_option maxHeartbeats 4000000 in
theorem bJ0_coder_7d493_0  (hC : CallFix p m c cJ0_coder_7d493 1 s args lw_good RJ0) (hret : meth.sig.returnType = (some .byte)) (hlk : meth.locks = false) (hU : gU 0 D cA ad s)  {r : Int32} {st' : gS}   {st : gS} {H : Heap} {locs : List Loc} {ls : Array Slot} (hf : fJ0_coder_7d493 st = some (r, st')) (hH : gP0 0 D cA ad st H) (hS : va_S (gA 0 ad) s.heap H locs) (hl : lv_has ls 1 [(0, .ref (ad 301))]) : W p l e (gRm 1) s m args below meth c H locs 0 0 (MQ below (gQc 0 D cA ad st' (some (.int r))) args s 0 0 (gA 0 ad)) (F0 m 0 ls []) := by
  obtain ⟨hx, hb, hml, hown, hts⟩ := id hC
  unfold fJ0_coder_7d493 at hf
  refine va_gets (pc := 0) hx hb (hU.2.2.2 rfl).2.2.2.2 hS hown (hts _ ks_J0_38) (fun _ h => h) dJ0_coder_7d493_0 ?_
  refine lv_if_eq (tgt := 13) (pc := 3) hx hb dJ0_coder_7d493_3 (by decide) (fun hc => ?_) (fun hc => ?_)
  · exact absurd hc (by decide)
  · skip
    refine lv_aload_n (pc := 6) hx hb dJ0_coder_7d493_6 rfl (lv_at hl 0 rfl) ?_
    refine vk_getf (pc := 7) hx hb ((hU.2.2.2 rfl).2.2.2.1.1 0 (by decide)).2.1 hS hown (hts _ ks_J0_15) (fun _ h => h) dJ0_coder_7d493_7 ?_
    refine lv_goto (tgt := 14) (pc := 10) hx hb dJ0_coder_7d493_10 (by decide) ?_
    exact g_bret (pc := 14) hC hret hlk hH hS rfl hf dJ0_coder_7d493_14
set_option maxRecDepth 100000 in
set_option maxHeartbeats 4000000 in
theorem mJ0_coder_7d493 {l : Launch} {D : va_G} {cA : Nat → ClassId} {ad : Nat → Nat}   {r : Int32} {st st' : gS} (hf : fJ0_coder_7d493  st = some (r, st')) : gM l yJ0_coder_7d493 cJ0_coder_7d493 1 (some .byte) 1 0 D cA ad st [.ref (ad 301)] (some (.int r)) st' := by
  refine g_met (by decide) (Nat.le_of_ble_eq_true rfl) ?_
  intro p e s m args below meth c ls hC hret hlk hU hH hl
  exact bJ0_coder_7d493_0 hC hret hlk hU hf hH va_S.rf hl
def fJ0_length_8abf5    (st : gS) : Option (Int32 × gS) :=
  (fJ0_coder_7d493 st).bind fun q0_1 => (some (11 >>> (q0_1.1 &&& 31), q0_1.2))
set_option maxRecDepth 100000 in
set_option maxHeartbeats 4000000 in
theorem bJ0_length_8abf5_0  (hC : CallFix p m c cJ0_length_8abf5 1 s args lw_good RJ0) (hret : meth.sig.returnType = (some .int)) (hlk : meth.locks = false) (hU : gU 0 D cA ad s)  {r : Int32} {st' : gS}   {st : gS} {H : Heap} {locs : List Loc} {ls : Array Slot} (hf : fJ0_length_8abf5 st = some (r, st')) (hH : gP0 0 D cA ad st H) (hS : va_S (gA 0 ad) s.heap H locs) (hl : lv_has ls 1 [(0, .ref (ad 301))]) : W p l e (gRm 2) s m args below meth c H locs 0 0 (MQ below (gQc 0 D cA ad st' (some (.int r))) args s 0 0 (gA 0 ad)) (F0 m 0 ls []) := by
  obtain ⟨hx, hb, hml, hown, hts⟩ := id hC
  unfold fJ0_length_8abf5 at hf
  refine lv_aload_n (pc := 0) hx hb dJ0_length_8abf5_0 rfl (lv_at hl 0 rfl) ?_
  refine vk_getf (pc := 1) hx hb ((hU.2.2.2 rfl).2.2.2.1.1 0 (by decide)).2.2.1 hS hown (hts _ ks_J0_9) (fun _ h => h) dJ0_length_8abf5_1 ?_
  refine va_tlen (pc := 4) (v := 11) hx hb ((hU.2.2.2 rfl).2.2.2.1.1 0 (by decide)).2.2.2 hS rfl dJ0_length_8abf5_4 ?_
  refine lv_aload_n (pc := 5) hx hb dJ0_length_8abf5_5 rfl (lv_at hl 0 rfl) ?_
  obtain ⟨q0_1, hq0_1, hf⟩ := gbd hf
  refine g_callVs (pc := 6) (rest := [.int 11]) hC hU hH hS hl.1 (vk_recv (i := 0) (hU.2.2.2 rfl).2.2.2.1 (by decide) hS) (mJ0_coder_7d493  hq0_1) ky_J0_coder_7d493 km_J0_335 ⟨Nat.le_of_ble_eq_true rfl, Nat.le_of_ble_eq_true rfl⟩ ⟨Nat.zero_le _, Nat.zero_le _⟩ rfl (Nat.le_of_ble_eq_true rfl) dJ0_length_8abf5_6 rfl (fun H locs hH hS => ?_)
  refine lv_ishr (pc := 9) hx hb dJ0_length_8abf5_9 ?_
  exact g_iret (pc := 10) hC hret hlk hH hS hf dJ0_length_8abf5_10
set_option maxRecDepth 100000 in
set_option maxHeartbeats 4000000 in
theorem mJ0_length_8abf5 {l : Launch} {D : va_G} {cA : Nat → ClassId} {ad : Nat → Nat}   {r : Int32} {st st' : gS} (hf : fJ0_length_8abf5  st = some (r, st')) : gM l yJ0_length_8abf5 cJ0_length_8abf5 1 (some .int) 2 0 D cA ad st [.ref (ad 301)] (some (.int r)) st' := by
  refine g_met (by decide) (Nat.le_of_ble_eq_true rfl) ?_
  intro p e s m args below meth c ls hC hret hlk hU hH hl
  exact bJ0_length_8abf5_0 hC hret hlk hU hf hH va_S.rf hl
def fJ1_canEncode_9a6ad (a0 : Int32)   (st : gS) : Option (Int32 × gS) :=
  if a0 < 0 then (some (0, st)) else (if 255 < a0 then (some (0, st)) else (some (1, st)))
set_option maxRecDepth 100000 in
set_option maxHeartbeats 4000000 in
theorem bJ1_canEncode_9a6ad_0 {a0 : Int32} (hC : CallFix p m c cJ1_canEncode_9a6ad 1 s args lw_good RJ1) (hret : meth.sig.returnType = (some .boolean)) (hlk : meth.locks = false) (hU : gU 0 D cA ad s)  {r : Int32} {st' : gS}   {st : gS} {H : Heap} {locs : List Loc} {ls : Array Slot} (hf : fJ1_canEncode_9a6ad a0 st = some (r, st')) (hH : gP0 0 D cA ad st H) (hS : va_S (gA 0 ad) s.heap H locs) (hl : lv_has ls 1 [(0, .int a0)]) : W p l e (gRm 1) s m args below meth c H locs 0 0 (MQ below (gQc 0 D cA ad st' (some (.int r))) args s 0 0 (gA 0 ad)) (F0 m 0 ls []) := by
  obtain ⟨hx, hb, hml, hown, hts⟩ := id hC
  unfold fJ1_canEncode_9a6ad at hf
  refine lv_iload_n (pc := 0) hx hb dJ1_canEncode_9a6ad_0 rfl (lv_at hl 0 rfl) ?_
  refine lv_if_lt (tgt := 15) (pc := 1) hx hb dJ1_canEncode_9a6ad_1 (by decide) (fun hc => ?_) (fun hc => ?_)
  · have hf := gif_p hc hf
    refine lv_iconst (v := 0) (pc := 15) hx hb dJ1_canEncode_9a6ad_15 (by decide) ?_
    exact g_zret (pc := 16) hC hret hlk hH hS (by decide) hf dJ1_canEncode_9a6ad_16
  · have hf := gif_n hc hf
    refine lv_iload_n (pc := 4) hx hb dJ1_canEncode_9a6ad_4 rfl (lv_at hl 0 rfl) ?_
    refine lv_sipush (v := 255) (pc := 5) hx hb dJ1_canEncode_9a6ad_5 (by decide) ?_
    refine lv_icmp_gt (tgt := 15) (pc := 8) hx hb dJ1_canEncode_9a6ad_8 (by decide) (fun hc => ?_) (fun hc => ?_)
    · have hf := gif_p hc hf
      refine lv_iconst (v := 0) (pc := 15) hx hb dJ1_canEncode_9a6ad_15 (by decide) ?_
      exact g_zret (pc := 16) hC hret hlk hH hS (by decide) hf dJ1_canEncode_9a6ad_16
    · have hf := gif_n hc hf
      refine lv_iconst (v := 1) (pc := 11) hx hb dJ1_canEncode_9a6ad_11 (by decide) ?_
      refine lv_goto (tgt := 16) (pc := 12) hx hb dJ1_canEncode_9a6ad_12 (by decide) ?_
      exact g_zret (pc := 16) hC hret hlk hH hS (by decide) hf dJ1_canEncode_9a6ad_16
set_option maxRecDepth 100000 in
set_option maxHeartbeats 4000000 in
theorem mJ1_canEncode_9a6ad {l : Launch} {D : va_G} {cA : Nat → ClassId} {ad : Nat → Nat} {a0 : Int32}  {r : Int32} {st st' : gS} (hf : fJ1_canEncode_9a6ad a0 st = some (r, st')) : gM l yJ1_canEncode_9a6ad cJ1_canEncode_9a6ad 1 (some .boolean) 1 0 D cA ad st [.int a0] (some (.int r)) st' := by
  refine g_met (by decide) (Nat.le_of_ble_eq_true rfl) ?_
  intro p e s m args below meth c ls hC hret hlk hU hH hl
  exact bJ1_canEncode_9a6ad_0 hC hret hlk hU hf hH va_S.rf hl
def fJ1_indexOfChar_4cfef_7 (a1 : Int32) (a2 : Int32) (a3 : Int32) (k7 : Int32 → Int32 → gS → Option (Int32 × gS)) (l4 : Int32) (l5 : Int32) (st : gS) : Option (Int32 × gS) :=
  if a3 ≤ l5 then (some ((-1), st)) else (gc (gI l5 11) (if (gSignsB.getD l5.toNatClampNeg 0) = l4 then (some (l5, st)) else (k7 l4 (l5 + 1) st)))
set_option maxRecDepth 100000 in
set_option maxHeartbeats 4000000 in
theorem bJ1_indexOfChar_4cfef_7 {a1 : Int32} {a2 : Int32} {a3 : Int32} (hC : CallFix p m c cJ1_indexOfChar_4cfef 6 s args lw_good RJ1) (hret : meth.sig.returnType = (some .int)) (hlk : meth.locks = false) (hU : gU 0 D cA ad s)  {r : Int32} {st' : gS} {k7 : Int32 → Int32 → gS → Option (Int32 × gS)} (hk7 : ∀ {l4 : Int32} {l5 : Int32} {st : gS} {H : Heap} {locs : List Loc} {ls : Array Slot}, k7 l4 l5 st = some (r, st') → gP0 0 D cA ad st H → va_S (gA 0 ad) s.heap H locs → lv_has ls 6 [(0, .ref (ad 302)), (3, .int a3), (4, .int l4), (5, .int l5)] → W p l e (gRm 1) s m args below meth c H locs 0 0 (MQ below (gQc 0 D cA ad st' (some (.int r))) args s 0 0 (gA 0 ad)) (F0 m 7 ls [])) {l4 : Int32} {l5 : Int32} {st : gS} {H : Heap} {locs : List Loc} {ls : Array Slot} (hf : fJ1_indexOfChar_4cfef_7 a1 a2 a3 k7 l4 l5 st = some (r, st')) (hH : gP0 0 D cA ad st H) (hS : va_S (gA 0 ad) s.heap H locs) (hl : lv_has ls 6 [(0, .ref (ad 302)), (3, .int a3), (4, .int l4), (5, .int l5)]) : W p l e (gRm 1) s m args below meth c H locs 0 0 (MQ below (gQc 0 D cA ad st' (some (.int r))) args s 0 0 (gA 0 ad)) (F0 m 7 ls []) := by
  obtain ⟨hx, hb, hml, hown, hts⟩ := id hC
  unfold fJ1_indexOfChar_4cfef_7 at hf
  refine lv_iload (pc := 7) hx hb dJ1_indexOfChar_4cfef_7 (lv_at hl 3 rfl) ?_
  refine lv_iload_n (pc := 9) hx hb dJ1_indexOfChar_4cfef_9 rfl (lv_at hl 1 rfl) ?_
  refine lv_icmp_ge (tgt := 31) (pc := 10) hx hb dJ1_indexOfChar_4cfef_10 (by decide) (fun hc => ?_) (fun hc => ?_)
  · have hf := gif_p hc hf
    refine lv_iconst (v := (-1)) (pc := 31) hx hb dJ1_indexOfChar_4cfef_31 (by decide) ?_
    exact g_iret (pc := 32) hC hret hlk hH hS hf dJ1_indexOfChar_4cfef_32
  · have hf := gif_n hc hf
    refine lv_aload_n (pc := 13) hx hb dJ1_indexOfChar_4cfef_13 rfl (lv_at hl 0 rfl) ?_
    refine lv_iload (pc := 14) hx hb dJ1_indexOfChar_4cfef_14 (lv_at hl 3 rfl) ?_
    obtain ⟨h7_1, hf⟩ := gc_s hf
    refine va_tb (pc := 16) (v := .int (gSignsB.getD l5.toNatClampNeg 0)) hx hb ((hU.2.2.2 rfl).2.2.2.1.1 0 (by decide)).2.2.2 hS h7_1.in rfl dJ1_indexOfChar_4cfef_16 ?_
    refine lv_iload (pc := 17) hx hb dJ1_indexOfChar_4cfef_17 (lv_at hl 2 rfl) ?_
    refine lv_icmp_ne (tgt := 25) (pc := 19) hx hb dJ1_indexOfChar_4cfef_19 (by decide) (fun hc => ?_) (fun hc => ?_)
    · have hf := gif_n hc hf
      refine lv_iinc (v := l5 + 1) (lv' := [(5, .int (l5 + 1)), (0, .ref (ad 302)), (3, .int a3), (4, .int l4)]) (k := 3) (pc := 25) hx hb dJ1_indexOfChar_4cfef_25 hl rfl rfl (by decide) rfl (fun ls hl => ?_)
      refine lv_goto (tgt := 7) (pc := 28) hx hb dJ1_indexOfChar_4cfef_28 (by decide) ?_
      exact hk7 hf hH hS (lv_sub hl [1, 2, 3, 0] rfl)
    · have hf := gif_p hc hf
      refine lv_iload (pc := 22) hx hb dJ1_indexOfChar_4cfef_22 (lv_at hl 3 rfl) ?_
      exact g_iret (pc := 24) hC hret hlk hH hS hf dJ1_indexOfChar_4cfef_24
def hJ1_indexOfChar_4cfef_7 (a1 : Int32) (a2 : Int32) (a3 : Int32)  : Nat → Int32 → Int32 → gS → Option (Int32 × gS)
  | 0 => fun _ _ _ => none
  | n + 1 => fun l4 l5 st => fJ1_indexOfChar_4cfef_7 a1 a2 a3 (hJ1_indexOfChar_4cfef_7 a1 a2 a3 n) l4 l5 st
set_option maxRecDepth 100000 in
set_option maxHeartbeats 4000000 in
theorem wJ1_indexOfChar_4cfef_7 {a1 : Int32} {a2 : Int32} {a3 : Int32} (hC : CallFix p m c cJ1_indexOfChar_4cfef 6 s args lw_good RJ1) (hret : meth.sig.returnType = (some .int)) (hlk : meth.locks = false) (hU : gU 0 D cA ad s)  {r : Int32} {st' : gS}  : ∀ (n : Nat) {l4 : Int32} {l5 : Int32} {st : gS} {H : Heap} {locs : List Loc} {ls : Array Slot}, hJ1_indexOfChar_4cfef_7 a1 a2 a3 n l4 l5 st = some (r, st') → gP0 0 D cA ad st H → va_S (gA 0 ad) s.heap H locs → lv_has ls 6 [(0, .ref (ad 302)), (3, .int a3), (4, .int l4), (5, .int l5)] → W p l e (gRm 1) s m args below meth c H locs 0 0 (MQ below (gQc 0 D cA ad st' (some (.int r))) args s 0 0 (gA 0 ad)) (F0 m 7 ls []) := by
  intro n
  induction n with
  | zero => intro l4 l5 st H locs ls hf hH hS hl; cases hf
  | succ n ih =>
    intro l4 l5 st H locs ls hf hH hS hl
    exact bJ1_indexOfChar_4cfef_7 (a1 := a1) (a2 := a2) (a3 := a3) hC hret hlk hU (fun hf hH hS hl => ih hf hH hS hl) hf hH hS hl
def fJ1_indexOfChar_4cfef (a1 : Int32) (a2 : Int32) (a3 : Int32)   (st : gS) : Option (Int32 × gS) :=
  hJ1_indexOfChar_4cfef_7 a1 a2 a3 FU a1.toInt8.toInt32 a2 st
set_option maxRecDepth 100000 in
set_option maxHeartbeats 4000000 in
theorem bJ1_indexOfChar_4cfef_0 {a1 : Int32} {a2 : Int32} {a3 : Int32} (hC : CallFix p m c cJ1_indexOfChar_4cfef 6 s args lw_good RJ1) (hret : meth.sig.returnType = (some .int)) (hlk : meth.locks = false) (hU : gU 0 D cA ad s)  {r : Int32} {st' : gS}   {st : gS} {H : Heap} {locs : List Loc} {ls : Array Slot} (hf : fJ1_indexOfChar_4cfef a1 a2 a3 st = some (r, st')) (hH : gP0 0 D cA ad st H) (hS : va_S (gA 0 ad) s.heap H locs) (hl : lv_has ls 6 [(0, .ref (ad 302)), (1, .int a1), (2, .int a2), (3, .int a3)]) : W p l e (gRm 1) s m args below meth c H locs 0 0 (MQ below (gQc 0 D cA ad st' (some (.int r))) args s 0 0 (gA 0 ad)) (F0 m 0 ls []) := by
  obtain ⟨hx, hb, hml, hown, hts⟩ := id hC
  unfold fJ1_indexOfChar_4cfef at hf
  refine lv_iload_n (pc := 0) hx hb dJ1_indexOfChar_4cfef_0 rfl (lv_at hl 1 rfl) ?_
  refine lv_i2b (pc := 1) hx hb dJ1_indexOfChar_4cfef_1 rfl ?_
  refine lv_istore (lv' := [(4, .int a1.toInt8.toInt32), (0, .ref (ad 302)), (1, .int a1), (2, .int a2), (3, .int a3)]) (pc := 2) hx hb dJ1_indexOfChar_4cfef_2 hl (by decide) rfl (fun ls hl => ?_)
  refine lv_iload_n (pc := 4) hx hb dJ1_indexOfChar_4cfef_4 rfl (lv_at hl 3 rfl) ?_
  refine lv_istore (lv' := [(5, .int a2), (4, .int a1.toInt8.toInt32), (0, .ref (ad 302)), (1, .int a1), (2, .int a2), (3, .int a3)]) (pc := 5) hx hb dJ1_indexOfChar_4cfef_5 hl (by decide) rfl (fun ls hl => ?_)
  exact wJ1_indexOfChar_4cfef_7 hC hret hlk hU FU hf hH hS (lv_sub hl [2, 5, 1, 0] rfl)
set_option maxRecDepth 100000 in
set_option maxHeartbeats 4000000 in
theorem mJ1_indexOfChar_4cfef {l : Launch} {D : va_G} {cA : Nat → ClassId} {ad : Nat → Nat} {a1 : Int32} {a2 : Int32} {a3 : Int32}  {r : Int32} {st st' : gS} (hf : fJ1_indexOfChar_4cfef a1 a2 a3 st = some (r, st')) : gM l yJ1_indexOfChar_4cfef cJ1_indexOfChar_4cfef 6 (some .int) 1 0 D cA ad st [.ref (ad 302), .int a1, .int a2, .int a3] (some (.int r)) st' := by
  refine g_met (by decide) (Nat.le_of_ble_eq_true rfl) ?_
  intro p e s m args below meth c ls hC hret hlk hU hH hl
  exact bJ1_indexOfChar_4cfef_0 hC hret hlk hU hf hH va_S.rf hl
def fJ1_indexOf_4cfef (a1 : Int32) (a2 : Int32) (a3 : Int32)   (st : gS) : Option (Int32 × gS) :=
  (fJ1_canEncode_9a6ad a1 st).bind fun q0_1 => (if q0_1.1 = 0 then (some ((-1), q0_1.2)) else (gl (if a2 < 0 then 0 else a2) fun x14 => (gl (if 11 < a3 then 11 else a3) fun x21 => (if x14 < x21 then ((fJ1_indexOfChar_4cfef a1 x14 x21 q0_1.2).bind fun q0_2 => (some (q0_2.1, q0_2.2))) else (some ((-1), q0_1.2))))))
set_option maxRecDepth 100000 in
set_option maxHeartbeats 4000000 in
theorem bJ1_indexOf_4cfef_0 {a1 : Int32} {a2 : Int32} {a3 : Int32} (hC : CallFix p m c cJ1_indexOf_4cfef 4 s args lw_good RJ1) (hret : meth.sig.returnType = (some .int)) (hlk : meth.locks = false) (hU : gU 0 D cA ad s)  {r : Int32} {st' : gS}   {st : gS} {H : Heap} {locs : List Loc} {ls : Array Slot} (hf : fJ1_indexOf_4cfef a1 a2 a3 st = some (r, st')) (hH : gP0 0 D cA ad st H) (hS : va_S (gA 0 ad) s.heap H locs) (hl : lv_has ls 4 [(0, .ref (ad 302)), (1, .int a1), (2, .int a2), (3, .int a3)]) : W p l e (gRm 2) s m args below meth c H locs 0 0 (MQ below (gQc 0 D cA ad st' (some (.int r))) args s 0 0 (gA 0 ad)) (F0 m 0 ls []) := by
  obtain ⟨hx, hb, hml, hown, hts⟩ := id hC
  unfold fJ1_indexOf_4cfef at hf
  refine lv_iload_n (pc := 0) hx hb dJ1_indexOf_4cfef_0 rfl (lv_at hl 1 rfl) ?_
  obtain ⟨q0_1, hq0_1, hf⟩ := gbd hf
  refine g_callSi (pc := 1) (rest := []) hC hU hH hS hl.1 (mJ1_canEncode_9a6ad  hq0_1) ky_J1_canEncode_9a6ad km_J1_88 ⟨Nat.le_of_ble_eq_true rfl, Nat.le_of_ble_eq_true rfl⟩ ⟨Nat.zero_le _, Nat.zero_le _⟩ rfl (Nat.le_of_ble_eq_true rfl) dJ1_indexOf_4cfef_1 rfl (fun H locs hH hS => ?_)
  refine lv_if_ne (tgt := 9) (pc := 4) hx hb dJ1_indexOf_4cfef_4 (by decide) (fun hc => ?_) (fun hc => ?_)
  · have hf := gif_n hc hf
    refine lv_iload_n (pc := 9) hx hb dJ1_indexOf_4cfef_9 rfl (lv_at hl 2 rfl) ?_
    refine lv_iconst (v := 0) (pc := 10) hx hb dJ1_indexOf_4cfef_10 (by decide) ?_
    refine va_mmax (pc := 11) hx hb (hml.trans hl.1.symm) hown (hts _ km_J1_92) (hts _ kms_max) (hts _ kmi) (hts _ kmc_max) (Nat.le_of_ble_eq_true rfl) (Nat.le_of_ble_eq_true rfl) (Nat.zero_le _) (Nat.zero_le _) dJ1_indexOf_4cfef_11 ?_
    refine lv_topi (pc := 14) (fun x14 ex14 => ?_)
    have hf := gl_s ex14 hf
    refine lv_istore_n (lv' := [(2, .int x14), (0, .ref (ad 302)), (1, .int a1), (3, .int a3)]) (pc := 14) hx hb dJ1_indexOf_4cfef_14 rfl hl (by decide) rfl (fun ls hl => ?_)
    refine lv_iload_n (pc := 15) hx hb dJ1_indexOf_4cfef_15 rfl (lv_at hl 3 rfl) ?_
    refine lv_aload_n (pc := 16) hx hb dJ1_indexOf_4cfef_16 rfl (lv_at hl 1 rfl) ?_
    refine va_tlen (pc := 17) (v := 11) hx hb ((hU.2.2.2 rfl).2.2.2.1.1 0 (by decide)).2.2.2 hS rfl dJ1_indexOf_4cfef_17 ?_
    refine va_mmin (pc := 18) hx hb (hml.trans hl.1.symm) hown (hts _ km_J1_38) (hts _ kms_min) (hts _ kmi) (hts _ kmc_min) (Nat.le_of_ble_eq_true rfl) (Nat.le_of_ble_eq_true rfl) (Nat.zero_le _) (Nat.zero_le _) dJ1_indexOf_4cfef_18 ?_
    refine lv_topi (pc := 21) (fun x21 ex21 => ?_)
    have hf := gl_s ex21 hf
    refine lv_istore_n (lv' := [(3, .int x21), (2, .int x14), (0, .ref (ad 302)), (1, .int a1)]) (pc := 21) hx hb dJ1_indexOf_4cfef_21 rfl hl (by decide) rfl (fun ls hl => ?_)
    refine lv_iload_n (pc := 22) hx hb dJ1_indexOf_4cfef_22 rfl (lv_at hl 1 rfl) ?_
    refine lv_iload_n (pc := 23) hx hb dJ1_indexOf_4cfef_23 rfl (lv_at hl 0 rfl) ?_
    refine lv_icmp_lt (tgt := 29) (pc := 24) hx hb dJ1_indexOf_4cfef_24 (by decide) (fun hc => ?_) (fun hc => ?_)
    · have hf := gif_p hc hf
      refine lv_aload_n (pc := 29) hx hb dJ1_indexOf_4cfef_29 rfl (lv_at hl 2 rfl) ?_
      refine lv_iload_n (pc := 30) hx hb dJ1_indexOf_4cfef_30 rfl (lv_at hl 3 rfl) ?_
      refine lv_iload_n (pc := 31) hx hb dJ1_indexOf_4cfef_31 rfl (lv_at hl 1 rfl) ?_
      refine lv_iload_n (pc := 32) hx hb dJ1_indexOf_4cfef_32 rfl (lv_at hl 0 rfl) ?_
      obtain ⟨q0_2, hq0_2, hf⟩ := gbd hf
      refine g_callSi (pc := 33) (rest := []) hC hU hH hS hl.1 (mJ1_indexOfChar_4cfef  hq0_2) ky_J1_indexOfChar_4cfef km_J1_95 ⟨Nat.le_of_ble_eq_true rfl, Nat.le_of_ble_eq_true rfl⟩ ⟨Nat.zero_le _, Nat.zero_le _⟩ rfl (Nat.le_of_ble_eq_true rfl) dJ1_indexOf_4cfef_33 rfl (fun H locs hH hS => ?_)
      exact g_iret (pc := 36) hC hret hlk hH hS hf dJ1_indexOf_4cfef_36
    · have hf := gif_n hc hf
      refine lv_iconst (v := (-1)) (pc := 27) hx hb dJ1_indexOf_4cfef_27 (by decide) ?_
      exact g_iret (pc := 28) hC hret hlk hH hS hf dJ1_indexOf_4cfef_28
  · have hf := gif_p hc hf
    refine lv_iconst (v := (-1)) (pc := 7) hx hb dJ1_indexOf_4cfef_7 (by decide) ?_
    exact g_iret (pc := 8) hC hret hlk hH hS hf dJ1_indexOf_4cfef_8
set_option maxRecDepth 100000 in
set_option maxHeartbeats 4000000 in
theorem mJ1_indexOf_4cfef {l : Launch} {D : va_G} {cA : Nat → ClassId} {ad : Nat → Nat} {a1 : Int32} {a2 : Int32} {a3 : Int32}  {r : Int32} {st st' : gS} (hf : fJ1_indexOf_4cfef a1 a2 a3 st = some (r, st')) : gM l yJ1_indexOf_4cfef cJ1_indexOf_4cfef 4 (some .int) 2 0 D cA ad st [.ref (ad 302), .int a1, .int a2, .int a3] (some (.int r)) st' := by
  refine g_met (by decide) (Nat.le_of_ble_eq_true rfl) ?_
  intro p e s m args below meth c ls hC hret hlk hU hH hl
  exact bJ1_indexOf_4cfef_0 hC hret hlk hU hf hH va_S.rf hl
def fJ0_indexOf_7cf53 (a1 : Int32) (a2 : Int32)   (st : gS) : Option (Int32 × gS) :=
  (fJ0_isLatin1_aae02 st).bind fun q0_1 => (if q0_1.1 = 0 then none else ((fJ0_length_8abf5 q0_1.2).bind fun q0_2 => ((fJ1_indexOf_4cfef a1 a2 q0_2.1 q0_2.2).bind fun q0_3 => (some (q0_3.1, q0_3.2)))))
set_option maxRecDepth 100000 in
set_option maxHeartbeats 4000000 in
theorem bJ0_indexOf_7cf53_0 {a1 : Int32} {a2 : Int32} (hC : CallFix p m c cJ0_indexOf_7cf53 3 s args lw_good RJ0) (hret : meth.sig.returnType = (some .int)) (hlk : meth.locks = false) (hU : gU 0 D cA ad s)  {r : Int32} {st' : gS}   {st : gS} {H : Heap} {locs : List Loc} {ls : Array Slot} (hf : fJ0_indexOf_7cf53 a1 a2 st = some (r, st')) (hH : gP0 0 D cA ad st H) (hS : va_S (gA 0 ad) s.heap H locs) (hl : lv_has ls 3 [(0, .ref (ad 301)), (1, .int a1), (2, .int a2)]) : W p l e (gRm 3) s m args below meth c H locs 0 0 (MQ below (gQc 0 D cA ad st' (some (.int r))) args s 0 0 (gA 0 ad)) (F0 m 0 ls []) := by
  obtain ⟨hx, hb, hml, hown, hts⟩ := id hC
  unfold fJ0_indexOf_7cf53 at hf
  refine lv_aload_n (pc := 0) hx hb dJ0_indexOf_7cf53_0 rfl (lv_at hl 0 rfl) ?_
  obtain ⟨q0_1, hq0_1, hf⟩ := gbd hf
  refine g_callVs (pc := 1) (rest := []) hC hU hH hS hl.1 (vk_recv (i := 0) (hU.2.2.2 rfl).2.2.2.1 (by decide) hS) (mJ0_isLatin1_aae02  hq0_1) ky_J0_isLatin1_aae02 km_J0_492 ⟨Nat.le_of_ble_eq_true rfl, Nat.le_of_ble_eq_true rfl⟩ ⟨Nat.zero_le _, Nat.zero_le _⟩ rfl (Nat.le_of_ble_eq_true rfl) dJ0_indexOf_7cf53_1 rfl (fun H locs hH hS => ?_)
  refine lv_if_eq (tgt := 23) (pc := 4) hx hb dJ0_indexOf_7cf53_4 (by decide) (fun hc => ?_) (fun hc => ?_)
  · have hf := gif_p hc hf
    cases hf
  · have hf := gif_n hc hf
    refine lv_aload_n (pc := 7) hx hb dJ0_indexOf_7cf53_7 rfl (lv_at hl 0 rfl) ?_
    refine vk_getf (pc := 8) hx hb ((hU.2.2.2 rfl).2.2.2.1.1 0 (by decide)).2.2.1 hS hown (hts _ ks_J0_9) (fun _ h => h) dJ0_indexOf_7cf53_8 ?_
    refine lv_iload_n (pc := 11) hx hb dJ0_indexOf_7cf53_11 rfl (lv_at hl 1 rfl) ?_
    refine lv_iload_n (pc := 12) hx hb dJ0_indexOf_7cf53_12 rfl (lv_at hl 2 rfl) ?_
    refine lv_aload_n (pc := 13) hx hb dJ0_indexOf_7cf53_13 rfl (lv_at hl 0 rfl) ?_
    obtain ⟨q0_2, hq0_2, hf⟩ := gbd hf
    refine g_callVs (pc := 14) (rest := [.int a2, .int a1, .ref (ad 302)]) hC hU hH hS hl.1 (vk_recv (i := 0) (hU.2.2.2 rfl).2.2.2.1 (by decide) hS) (mJ0_length_8abf5  hq0_2) ky_J0_length_8abf5 km_J0_505 ⟨Nat.le_of_ble_eq_true rfl, Nat.le_of_ble_eq_true rfl⟩ ⟨Nat.zero_le _, Nat.zero_le _⟩ rfl (Nat.le_of_ble_eq_true rfl) dJ0_indexOf_7cf53_14 rfl (fun H locs hH hS => ?_)
    obtain ⟨q0_3, hq0_3, hf⟩ := gbd hf
    refine g_callSi (pc := 17) (rest := []) hC hU hH hS hl.1 (mJ1_indexOf_4cfef  hq0_3) ky_J1_indexOf_4cfef km_J0_637 ⟨Nat.le_of_ble_eq_true rfl, Nat.le_of_ble_eq_true rfl⟩ ⟨Nat.zero_le _, Nat.zero_le _⟩ rfl (Nat.le_of_ble_eq_true rfl) dJ0_indexOf_7cf53_17 rfl (fun H locs hH hS => ?_)
    refine lv_goto (tgt := 36) (pc := 20) hx hb dJ0_indexOf_7cf53_20 (by decide) ?_
    exact g_iret (pc := 36) hC hret hlk hH hS hf dJ0_indexOf_7cf53_36
set_option maxRecDepth 100000 in
set_option maxHeartbeats 4000000 in
theorem mJ0_indexOf_7cf53 {l : Launch} {D : va_G} {cA : Nat → ClassId} {ad : Nat → Nat} {a1 : Int32} {a2 : Int32}  {r : Int32} {st st' : gS} (hf : fJ0_indexOf_7cf53 a1 a2 st = some (r, st')) : gM l yJ0_indexOf_7cf53 cJ0_indexOf_7cf53 3 (some .int) 3 0 D cA ad st [.ref (ad 301), .int a1, .int a2] (some (.int r)) st' := by
  refine g_met (by decide) (Nat.le_of_ble_eq_true rfl) ?_
  intro p e s m args below meth c ls hC hret hlk hU hH hl
  exact bJ0_indexOf_7cf53_0 hC hret hlk hU hf hH va_S.rf hl
def fJ0_indexOf_0f7a4 (a1 : Int32)   (st : gS) : Option (Int32 × gS) :=
  (fJ0_indexOf_7cf53 a1 0 st).bind fun q0_1 => (some (q0_1.1, q0_1.2))
set_option maxRecDepth 100000 in
set_option maxHeartbeats 4000000 in
theorem bJ0_indexOf_0f7a4_0 {a1 : Int32} (hC : CallFix p m c cJ0_indexOf_0f7a4 2 s args lw_good RJ0) (hret : meth.sig.returnType = (some .int)) (hlk : meth.locks = false) (hU : gU 0 D cA ad s)  {r : Int32} {st' : gS}   {st : gS} {H : Heap} {locs : List Loc} {ls : Array Slot} (hf : fJ0_indexOf_0f7a4 a1 st = some (r, st')) (hH : gP0 0 D cA ad st H) (hS : va_S (gA 0 ad) s.heap H locs) (hl : lv_has ls 2 [(0, .ref (ad 301)), (1, .int a1)]) : W p l e (gRm 4) s m args below meth c H locs 0 0 (MQ below (gQc 0 D cA ad st' (some (.int r))) args s 0 0 (gA 0 ad)) (F0 m 0 ls []) := by
  obtain ⟨hx, hb, hml, hown, hts⟩ := id hC
  unfold fJ0_indexOf_0f7a4 at hf
  refine lv_aload_n (pc := 0) hx hb dJ0_indexOf_0f7a4_0 rfl (lv_at hl 0 rfl) ?_
  refine lv_iload_n (pc := 1) hx hb dJ0_indexOf_0f7a4_1 rfl (lv_at hl 1 rfl) ?_
  refine lv_iconst (v := 0) (pc := 2) hx hb dJ0_indexOf_0f7a4_2 (by decide) ?_
  obtain ⟨q0_1, hq0_1, hf⟩ := gbd hf
  refine g_callVs (pc := 3) (rest := []) hC hU hH hS hl.1 (vk_recv (i := 0) (hU.2.2.2 rfl).2.2.2.1 (by decide) hS) (mJ0_indexOf_7cf53  hq0_1) ky_J0_indexOf_7cf53 km_J0_633 ⟨Nat.le_of_ble_eq_true rfl, Nat.le_of_ble_eq_true rfl⟩ ⟨Nat.zero_le _, Nat.zero_le _⟩ rfl (Nat.le_of_ble_eq_true rfl) dJ0_indexOf_0f7a4_3 rfl (fun H locs hH hS => ?_)
  exact g_iret (pc := 6) hC hret hlk hH hS hf dJ0_indexOf_0f7a4_6
set_option maxRecDepth 100000 in
set_option maxHeartbeats 4000000 in
theorem mJ0_indexOf_0f7a4 {l : Launch} {D : va_G} {cA : Nat → ClassId} {ad : Nat → Nat} {a1 : Int32}  {r : Int32} {st st' : gS} (hf : fJ0_indexOf_0f7a4 a1 st = some (r, st')) : gM l yJ0_indexOf_0f7a4 cJ0_indexOf_0f7a4 2 (some .int) 4 0 D cA ad st [.ref (ad 301), .int a1] (some (.int r)) st' := by
  refine g_met (by decide) (Nat.le_of_ble_eq_true rfl) ?_
  intro p e s m args below meth c ls hC hret hlk hU hH hl
  exact bJ0_indexOf_0f7a4_0 hC hret hlk hU hf hH va_S.rf hl
def fX7_step_83   (s0 : Int32) (st : gS) : Option (gS) :=
  some (wi (wi st 19 2 s0) 19 1 (((wi st 19 2 s0).1 19 1) + 1))
set_option maxRecDepth 100000 in
set_option maxHeartbeats 4000000 in
theorem bX7_step_83  (hC : CallFix p m c cX7_step 2 s args lw_good RX7) (hret : meth.sig.returnType = none) (hlk : meth.locks = false) (hU : gU 0 D cA ad s)  {st' : gS}  {s0 : Int32} {st : gS} {H : Heap} {locs : List Loc} {ls : Array Slot} (hf : fX7_step_83 s0 st = some st') (hH : gP0 0 D cA ad st H) (hS : va_S (gA 0 ad) s.heap H locs) (hl : lv_has ls 2 [(0, .ref (ad 19))]) : W p l e (gRm 5) s m args below meth c H locs 0 0 (MQ below (gQc 0 D cA ad st' none) args s 0 0 (gA 0 ad)) (F0 m 83 ls [.int s0, .ref (ad 19)]) := by
  obtain ⟨hx, hb, hml, hown, hts⟩ := id hC
  unfold fX7_step_83 at hf
  refine g_puti (pc := 83) hC hU hH hS gk0_19 g_cl7 2 (by decide) kf_X7_15 rfl rfl rfl rfl dX7_step_83 (fun H locs hH hS => ?_)
  refine lv_aload_n (pc := 86) hx hb dX7_step_86 rfl (lv_at hl 0 rfl) ?_
  refine lv_dup (pc := 87) hx hb dX7_step_87 rfl ?_
  refine g_get (pc := 88) (v := .int ((wi st 19 2 s0).1 19 1)) hC hU hH gk0_19 g_cl7 1 (by decide) kf_X7_9 rfl dX7_step_88 ?_
  refine lv_iconst (v := 1) (pc := 91) hx hb dX7_step_91 (by decide) ?_
  refine lv_iadd (pc := 92) hx hb dX7_step_92 ?_
  refine g_puti (pc := 93) hC hU hH hS gk0_19 g_cl7 1 (by decide) kf_X7_9 rfl rfl rfl rfl dX7_step_93 (fun H locs hH hS => ?_)
  exact g_vret (pc := 96) hC hret hlk hH hS hf dX7_step_96
def fX7_step    (st : gS) : Option (gS) :=
  (fX7_skipBlanks st).bind fun q0_1 => ((fX6_at ((wi q0_1 19 3 (q0_1.1 19 1)).1 19 1) (wi q0_1 19 3 (q0_1.1 19 1))).bind fun q0_2 => (if q0_2.1 = (-1) then (some (wi q0_2.2 19 2 21)) else ((fX7_isLetter q0_2.1 q0_2.2).bind fun q0_3 => (if q0_3.1 = 0 then ((fX7_isDigit q0_2.1 q0_3.2).bind fun q0_4 => (if q0_4.1 = 0 then ((fJ0_indexOf_0f7a4 ((q0_2.1.toUInt32 % 65536).toInt32) q0_4.2).bind fun q0_5 => (if q0_5.1 < 0 then (fX7_step_83 22 q0_5.2) else (fX7_step_83 q0_2.1 q0_5.2))) else ((fX7_readNumber q0_4.2).bind fun q0_6 => (some q0_6)))) else ((fX7_readWord q0_3.2).bind fun q0_7 => (some q0_7))))))
set_option maxRecDepth 100000 in
set_option maxHeartbeats 4000000 in
theorem bX7_step_0  (hC : CallFix p m c cX7_step 2 s args lw_good RX7) (hret : meth.sig.returnType = none) (hlk : meth.locks = false) (hU : gU 0 D cA ad s)  {st' : gS}   {st : gS} {H : Heap} {locs : List Loc} {ls : Array Slot} (hf : fX7_step st = some st') (hH : gP0 0 D cA ad st H) (hS : va_S (gA 0 ad) s.heap H locs) (hl : lv_has ls 2 [(0, .ref (ad 19))]) : W p l e (gRm 5) s m args below meth c H locs 0 0 (MQ below (gQc 0 D cA ad st' none) args s 0 0 (gA 0 ad)) (F0 m 0 ls []) := by
  obtain ⟨hx, hb, hml, hown, hts⟩ := id hC
  unfold fX7_step at hf
  refine lv_aload_n (pc := 0) hx hb dX7_step_0 rfl (lv_at hl 0 rfl) ?_
  obtain ⟨q0_1, hq0_1, hf⟩ := gbd hf
  refine g_callVv (pc := 1) (rest := []) hC hU hH hS hl.1 gk0_19 rfl (by decide) (mX7_skipBlanks  hq0_1) ky_X7_skipBlanks km_X7_35 ⟨Nat.le_of_ble_eq_true rfl, Nat.le_of_ble_eq_true rfl⟩ ⟨Nat.zero_le _, Nat.zero_le _⟩ rfl (Nat.le_of_ble_eq_true rfl) dX7_step_1 rfl (fun H locs hH hS => ?_)
  refine lv_aload_n (pc := 4) hx hb dX7_step_4 rfl (lv_at hl 0 rfl) ?_
  refine lv_aload_n (pc := 5) hx hb dX7_step_5 rfl (lv_at hl 0 rfl) ?_
  refine g_get (pc := 6) (v := .int (q0_1.1 19 1)) hC hU hH gk0_19 g_cl7 1 (by decide) kf_X7_9 rfl dX7_step_6 ?_
  refine g_puti (pc := 9) hC hU hH hS gk0_19 g_cl7 3 (by decide) kf_X7_18 rfl rfl rfl rfl dX7_step_9 (fun H locs hH hS => ?_)
  refine lv_aload_n (pc := 12) hx hb dX7_step_12 rfl (lv_at hl 0 rfl) ?_
  refine g_get (pc := 13) (v := .ref (ad 1)) hC hU hH gk0_19 g_cl7 0 (by decide) kf_X7_28 rfl dX7_step_13 ?_
  refine lv_aload_n (pc := 16) hx hb dX7_step_16 rfl (lv_at hl 0 rfl) ?_
  refine g_get (pc := 17) (v := .int ((wi q0_1 19 3 (q0_1.1 19 1)).1 19 1)) hC hU hH gk0_19 g_cl7 1 (by decide) kf_X7_9 rfl dX7_step_17 ?_
  obtain ⟨q0_2, hq0_2, hf⟩ := gbd hf
  refine g_callVi (pc := 20) (rest := []) hC hU hH hS hl.1 gk0_1 rfl (by decide) (mX6_at  hq0_2) ky_X6_at km_X7_38 ⟨Nat.le_of_ble_eq_true rfl, Nat.le_of_ble_eq_true rfl⟩ ⟨Nat.zero_le _, Nat.zero_le _⟩ rfl (Nat.le_of_ble_eq_true rfl) dX7_step_20 rfl (fun H locs hH hS => ?_)
  refine lv_istore_n (lv' := [(1, .int q0_2.1), (0, .ref (ad 19))]) (pc := 23) hx hb dX7_step_23 rfl hl (by decide) rfl (fun ls hl => ?_)
  refine lv_iload_n (pc := 24) hx hb dX7_step_24 rfl (lv_at hl 0 rfl) ?_
  refine lv_iconst (v := (-1)) (pc := 25) hx hb dX7_step_25 (by decide) ?_
  refine lv_icmp_ne (tgt := 38) (pc := 26) hx hb dX7_step_26 (by decide) (fun hc => ?_) (fun hc => ?_)
  · have hf := gif_n hc hf
    refine lv_iload_n (pc := 38) hx hb dX7_step_38 rfl (lv_at hl 0 rfl) ?_
    obtain ⟨q0_3, hq0_3, hf⟩ := gbd hf
    refine g_callSi (pc := 39) (rest := []) hC hU hH hS hl.1 (mX7_isLetter  hq0_3) ky_X7_isLetter km_X7_44 ⟨Nat.le_of_ble_eq_true rfl, Nat.le_of_ble_eq_true rfl⟩ ⟨Nat.zero_le _, Nat.zero_le _⟩ rfl (Nat.le_of_ble_eq_true rfl) dX7_step_39 rfl (fun H locs hH hS => ?_)
    refine lv_if_eq (tgt := 52) (pc := 42) hx hb dX7_step_42 (by decide) (fun hc => ?_) (fun hc => ?_)
    · have hf := gif_p hc hf
      refine lv_iload_n (pc := 52) hx hb dX7_step_52 rfl (lv_at hl 0 rfl) ?_
      obtain ⟨q0_4, hq0_4, hf⟩ := gbd hf
      refine g_callSi (pc := 53) (rest := []) hC hU hH hS hl.1 (mX7_isDigit  hq0_4) ky_X7_isDigit km_X7_51 ⟨Nat.le_of_ble_eq_true rfl, Nat.le_of_ble_eq_true rfl⟩ ⟨Nat.zero_le _, Nat.zero_le _⟩ rfl (Nat.le_of_ble_eq_true rfl) dX7_step_53 rfl (fun H locs hH hS => ?_)
      refine lv_if_eq (tgt := 66) (pc := 56) hx hb dX7_step_56 (by decide) (fun hc => ?_) (fun hc => ?_)
      · have hf := gif_p hc hf
        refine lv_aload_n (pc := 66) hx hb dX7_step_66 rfl (lv_at hl 1 rfl) ?_
        refine va_ldcS (pc := 67) hx hb hown (hU.2.2.2 rfl).2.2.1 dX7_step_67 ?_
        refine lv_iload_n (pc := 69) hx hb dX7_step_69 rfl (lv_at hl 0 rfl) ?_
        refine lv_i2c (pc := 70) hx hb dX7_step_70 rfl ?_
        obtain ⟨q0_5, hq0_5, hf⟩ := gbd hf
        refine g_callVs (pc := 71) (rest := [.ref (ad 19)]) hC hU hH hS hl.1 (vk_recv (i := 0) (hU.2.2.2 rfl).2.2.2.1 (by decide) hS) (mJ0_indexOf_0f7a4  hq0_5) ky_J0_indexOf_0f7a4 km_X7_59 ⟨Nat.le_of_ble_eq_true rfl, Nat.le_of_ble_eq_true rfl⟩ ⟨Nat.zero_le _, Nat.zero_le _⟩ rfl (Nat.le_of_ble_eq_true rfl) dX7_step_71 rfl (fun H locs hH hS => ?_)
        refine lv_if_lt (tgt := 81) (pc := 74) hx hb dX7_step_74 (by decide) (fun hc => ?_) (fun hc => ?_)
        · have hf := gif_p hc hf
          refine lv_bipush (v := 22) (pc := 81) hx hb dX7_step_81 (by decide) ?_
          exact bX7_step_83 hC hret hlk hU hf hH hS (lv_sub hl [1] rfl)
        · have hf := gif_n hc hf
          refine lv_iload_n (pc := 77) hx hb dX7_step_77 rfl (lv_at hl 0 rfl) ?_
          refine lv_goto (tgt := 83) (pc := 78) hx hb dX7_step_78 (by decide) ?_
          exact bX7_step_83 hC hret hlk hU hf hH hS (lv_sub hl [1] rfl)
      · have hf := gif_n hc hf
        refine lv_aload_n (pc := 59) hx hb dX7_step_59 rfl (lv_at hl 1 rfl) ?_
        obtain ⟨q0_6, hq0_6, hf⟩ := gbd hf
        refine g_callVv (pc := 60) (rest := []) hC hU hH hS hl.1 gk0_19 rfl (by decide) (mX7_readNumber  hq0_6) ky_X7_readNumber km_X7_54 ⟨Nat.le_of_ble_eq_true rfl, Nat.le_of_ble_eq_true rfl⟩ ⟨Nat.zero_le _, Nat.zero_le _⟩ rfl (Nat.le_of_ble_eq_true rfl) dX7_step_60 rfl (fun H locs hH hS => ?_)
        refine lv_goto (tgt := 96) (pc := 63) hx hb dX7_step_63 (by decide) ?_
        exact g_vret (pc := 96) hC hret hlk hH hS hf dX7_step_96
    · have hf := gif_n hc hf
      refine lv_aload_n (pc := 45) hx hb dX7_step_45 rfl (lv_at hl 1 rfl) ?_
      obtain ⟨q0_7, hq0_7, hf⟩ := gbd hf
      refine g_callVv (pc := 46) (rest := []) hC hU hH hS hl.1 gk0_19 rfl (by decide) (mX7_readWord  hq0_7) ky_X7_readWord km_X7_48 ⟨Nat.le_of_ble_eq_true rfl, Nat.le_of_ble_eq_true rfl⟩ ⟨Nat.zero_le _, Nat.zero_le _⟩ rfl (Nat.le_of_ble_eq_true rfl) dX7_step_46 rfl (fun H locs hH hS => ?_)
      refine lv_goto (tgt := 96) (pc := 49) hx hb dX7_step_49 (by decide) ?_
      exact g_vret (pc := 96) hC hret hlk hH hS hf dX7_step_96
  · have hf := gif_p hc hf
    refine lv_aload_n (pc := 29) hx hb dX7_step_29 rfl (lv_at hl 1 rfl) ?_
    refine lv_bipush (v := 21) (pc := 30) hx hb dX7_step_30 (by decide) ?_
    refine g_puti (pc := 32) hC hU hH hS gk0_19 g_cl7 2 (by decide) kf_X7_15 rfl rfl rfl rfl dX7_step_32 (fun H locs hH hS => ?_)
    refine lv_goto (tgt := 96) (pc := 35) hx hb dX7_step_35 (by decide) ?_
    exact g_vret (pc := 96) hC hret hlk hH hS hf dX7_step_96
set_option maxRecDepth 100000 in
set_option maxHeartbeats 4000000 in
theorem mX7_step {l : Launch} {D : va_G} {cA : Nat → ClassId} {ad : Nat → Nat}   {st st' : gS} (hf : fX7_step  st = some st') : gM l yX7_step cX7_step 2 none 5 0 D cA ad st [.ref (ad 19)] none st' := by
  refine g_met (by decide) (Nat.le_of_ble_eq_true rfl) ?_
  intro p e s m args below meth c ls hC hret hlk hU hH hl
  exact bX7_step_0 hC hret hlk hU hf hH va_S.rf hl
def fX7_start    (st : gS) : Option (gS) :=
  (fX7_step (wi st 19 1 0)).bind fun q0_1 => (some q0_1)
set_option maxRecDepth 100000 in
set_option maxHeartbeats 4000000 in
theorem bX7_start_0  (hC : CallFix p m c cX7_start 1 s args lw_good RX7) (hret : meth.sig.returnType = none) (hlk : meth.locks = false) (hU : gU 0 D cA ad s)  {st' : gS}   {st : gS} {H : Heap} {locs : List Loc} {ls : Array Slot} (hf : fX7_start st = some st') (hH : gP0 0 D cA ad st H) (hS : va_S (gA 0 ad) s.heap H locs) (hl : lv_has ls 1 [(0, .ref (ad 19))]) : W p l e (gRm 6) s m args below meth c H locs 0 0 (MQ below (gQc 0 D cA ad st' none) args s 0 0 (gA 0 ad)) (F0 m 0 ls []) := by
  obtain ⟨hx, hb, hml, hown, hts⟩ := id hC
  unfold fX7_start at hf
  refine lv_aload_n (pc := 0) hx hb dX7_start_0 rfl (lv_at hl 0 rfl) ?_
  refine lv_iconst (v := 0) (pc := 1) hx hb dX7_start_1 (by decide) ?_
  refine g_puti (pc := 2) hC hU hH hS gk0_19 g_cl7 1 (by decide) kf_X7_9 rfl rfl rfl rfl dX7_start_2 (fun H locs hH hS => ?_)
  refine lv_aload_n (pc := 5) hx hb dX7_start_5 rfl (lv_at hl 0 rfl) ?_
  obtain ⟨q0_1, hq0_1, hf⟩ := gbd hf
  refine g_callVv (pc := 6) (rest := []) hC hU hH hS hl.1 gk0_19 rfl (by decide) (mX7_step  hq0_1) ky_X7_step km_X7_32 ⟨Nat.le_of_ble_eq_true rfl, Nat.le_of_ble_eq_true rfl⟩ ⟨Nat.zero_le _, Nat.zero_le _⟩ rfl (Nat.le_of_ble_eq_true rfl) dX7_start_6 rfl (fun H locs hH hS => ?_)
  exact g_vret (pc := 9) hC hret hlk hH hS hf dX7_start_9
set_option maxRecDepth 100000 in
set_option maxHeartbeats 4000000 in
theorem mX7_start {l : Launch} {D : va_G} {cA : Nat → ClassId} {ad : Nat → Nat}   {st st' : gS} (hf : fX7_start  st = some st') : gM l yX7_start cX7_start 1 none 6 0 D cA ad st [.ref (ad 19)] none st' := by
  refine g_met (by decide) (Nat.le_of_ble_eq_true rfl) ?_
  intro p e s m args below meth c ls hC hret hlk hU hH hl
  exact bX7_start_0 hC hret hlk hU hf hH va_S.rf hl
def fX4_start    (st : gS) : Option (gS) :=
  gc (gK 0 (st.2.2 3 1) = 8) ((fX8_clear (st.2.2 3 1) st).bind fun q0_1 => ((fX7_start (wi (wi (wi (wi (wi q0_1 3 2 0) 3 3 0) 3 4 0) 3 5 0) 3 6 (-1))).bind fun q0_2 => (some q0_2)))
set_option maxRecDepth 100000 in
set_option maxHeartbeats 4000000 in
theorem bX4_start_0  (hC : CallFix p m c cX4_start 1 s args lw_good RX4) (hret : meth.sig.returnType = none) (hlk : meth.locks = false) (hU : gU 0 D cA ad s)  {st' : gS}   {st : gS} {H : Heap} {locs : List Loc} {ls : Array Slot} (hf : fX4_start st = some st') (hH : gP0 0 D cA ad st H) (hS : va_S (gA 0 ad) s.heap H locs) (hl : lv_has ls 1 [(0, .ref (ad 3))]) : W p l e (gRm 7) s m args below meth c H locs 0 0 (MQ below (gQc 0 D cA ad st' none) args s 0 0 (gA 0 ad)) (F0 m 0 ls []) := by
  obtain ⟨hx, hb, hml, hown, hts⟩ := id hC
  unfold fX4_start at hf
  refine lv_aload_n (pc := 0) hx hb dX4_start_0 rfl (lv_at hl 0 rfl) ?_
  refine g_get (pc := 1) (v := .ref (ad (st.2.2 3 1))) hC hU hH gk0_3 g_cl4 1 (by decide) kf_X4_12 rfl dX4_start_1 ?_
  obtain ⟨h0_1, hf⟩ := gc_s hf
  obtain ⟨q0_1, hq0_1, hf⟩ := gbd hf
  refine g_callVv (pc := 4) (rest := []) hC hU hH hS hl.1 h0_1 rfl (by decide) (mX8_clear h0_1 hq0_1) ky_X8_clear km_X4_47 ⟨Nat.le_of_ble_eq_true rfl, Nat.le_of_ble_eq_true rfl⟩ ⟨Nat.zero_le _, Nat.zero_le _⟩ rfl (Nat.le_of_ble_eq_true rfl) dX4_start_4 rfl (fun H locs hH hS => ?_)
  refine lv_aload_n (pc := 7) hx hb dX4_start_7 rfl (lv_at hl 0 rfl) ?_
  refine lv_iconst (v := 0) (pc := 8) hx hb dX4_start_8 (by decide) ?_
  refine g_puti (pc := 9) hC hU hH hS gk0_3 g_cl4 2 (by decide) kf_X4_18 rfl rfl rfl rfl dX4_start_9 (fun H locs hH hS => ?_)
  refine lv_aload_n (pc := 12) hx hb dX4_start_12 rfl (lv_at hl 0 rfl) ?_
  refine lv_iconst (v := 0) (pc := 13) hx hb dX4_start_13 (by decide) ?_
  refine g_puti (pc := 14) hC hU hH hS gk0_3 g_cl4 3 (by decide) kf_X4_22 rfl rfl rfl rfl dX4_start_14 (fun H locs hH hS => ?_)
  refine lv_aload_n (pc := 17) hx hb dX4_start_17 rfl (lv_at hl 0 rfl) ?_
  refine lv_iconst (v := 0) (pc := 18) hx hb dX4_start_18 (by decide) ?_
  refine g_puti (pc := 19) hC hU hH hS gk0_3 g_cl4 4 (by decide) kf_X4_25 rfl rfl rfl rfl dX4_start_19 (fun H locs hH hS => ?_)
  refine lv_aload_n (pc := 22) hx hb dX4_start_22 rfl (lv_at hl 0 rfl) ?_
  refine lv_iconst (v := 0) (pc := 23) hx hb dX4_start_23 (by decide) ?_
  refine g_puti (pc := 24) hC hU hH hS gk0_3 g_cl4 5 (by decide) kf_X4_29 rfl rfl rfl rfl dX4_start_24 (fun H locs hH hS => ?_)
  refine lv_aload_n (pc := 27) hx hb dX4_start_27 rfl (lv_at hl 0 rfl) ?_
  refine lv_iconst (v := (-1)) (pc := 28) hx hb dX4_start_28 (by decide) ?_
  refine g_puti (pc := 29) hC hU hH hS gk0_3 g_cl4 6 (by decide) kf_X4_32 rfl rfl rfl rfl dX4_start_29 (fun H locs hH hS => ?_)
  refine lv_aload_n (pc := 32) hx hb dX4_start_32 rfl (lv_at hl 0 rfl) ?_
  refine g_get (pc := 33) (v := .ref (ad 19)) hC hU hH gk0_3 g_cl4 0 (by decide) kf_X4_40 rfl dX4_start_33 ?_
  obtain ⟨q0_2, hq0_2, hf⟩ := gbd hf
  refine g_callVv (pc := 36) (rest := []) hC hU hH hS hl.1 gk0_19 rfl (by decide) (mX7_start  hq0_2) ky_X7_start km_X4_50 ⟨Nat.le_of_ble_eq_true rfl, Nat.le_of_ble_eq_true rfl⟩ ⟨Nat.zero_le _, Nat.zero_le _⟩ rfl (Nat.le_of_ble_eq_true rfl) dX4_start_36 rfl (fun H locs hH hS => ?_)
  exact g_vret (pc := 39) hC hret hlk hH hS hf dX4_start_39
set_option maxRecDepth 100000 in
set_option maxHeartbeats 4000000 in
theorem mX4_start {l : Launch} {D : va_G} {cA : Nat → ClassId} {ad : Nat → Nat}   {st st' : gS} (hf : fX4_start  st = some st') : gM l yX4_start cX4_start 1 none 7 0 D cA ad st [.ref (ad 3)] none st' := by
  refine g_met (by decide) (Nat.le_of_ble_eq_true rfl) ?_
  intro p e s m args below meth c ls hC hret hlk hU hH hl
  exact bX4_start_0 hC hret hlk hU hf hH va_S.rf hl
def fX4_isAtEnd    (st : gS) : Option (Int32 × gS) :=
  if (st.1 19 2) = 21 then (some (1, st)) else (some (0, st))
set_option maxRecDepth 100000 in
set_option maxHeartbeats 4000000 in
theorem bX4_isAtEnd_0  (hC : CallFix p m c cX4_isAtEnd 1 s args lw_good RX4) (hret : meth.sig.returnType = (some .boolean)) (hlk : meth.locks = false) (hU : gU 0 D cA ad s)  {r : Int32} {st' : gS}   {st : gS} {H : Heap} {locs : List Loc} {ls : Array Slot} (hf : fX4_isAtEnd st = some (r, st')) (hH : gP0 0 D cA ad st H) (hS : va_S (gA 0 ad) s.heap H locs) (hl : lv_has ls 1 [(0, .ref (ad 3))]) : W p l e (gRm 1) s m args below meth c H locs 0 0 (MQ below (gQc 0 D cA ad st' (some (.int r))) args s 0 0 (gA 0 ad)) (F0 m 0 ls []) := by
  obtain ⟨hx, hb, hml, hown, hts⟩ := id hC
  unfold fX4_isAtEnd at hf
  refine lv_aload_n (pc := 0) hx hb dX4_isAtEnd_0 rfl (lv_at hl 0 rfl) ?_
  refine g_get (pc := 1) (v := .ref (ad 19)) hC hU hH gk0_3 g_cl4 0 (by decide) kf_X4_40 rfl dX4_isAtEnd_1 ?_
  refine g_get (pc := 4) (v := .int (st.1 19 2)) hC hU hH gk0_19 g_cl7 2 (by decide) kf_X4_53 rfl dX4_isAtEnd_4 ?_
  refine lv_bipush (v := 21) (pc := 7) hx hb dX4_isAtEnd_7 (by decide) ?_
  refine lv_icmp_ne (tgt := 16) (pc := 9) hx hb dX4_isAtEnd_9 (by decide) (fun hc => ?_) (fun hc => ?_)
  · have hf := gif_n hc hf
    refine lv_iconst (v := 0) (pc := 16) hx hb dX4_isAtEnd_16 (by decide) ?_
    exact g_zret (pc := 17) hC hret hlk hH hS (by decide) hf dX4_isAtEnd_17
  · have hf := gif_p hc hf
    refine lv_iconst (v := 1) (pc := 12) hx hb dX4_isAtEnd_12 (by decide) ?_
    refine lv_goto (tgt := 17) (pc := 13) hx hb dX4_isAtEnd_13 (by decide) ?_
    exact g_zret (pc := 17) hC hret hlk hH hS (by decide) hf dX4_isAtEnd_17
set_option maxRecDepth 100000 in
set_option maxHeartbeats 4000000 in
theorem mX4_isAtEnd {l : Launch} {D : va_G} {cA : Nat → ClassId} {ad : Nat → Nat}   {r : Int32} {st st' : gS} (hf : fX4_isAtEnd  st = some (r, st')) : gM l yX4_isAtEnd cX4_isAtEnd 1 (some .boolean) 1 0 D cA ad st [.ref (ad 3)] (some (.int r)) st' := by
  refine g_met (by decide) (Nat.le_of_ble_eq_true rfl) ?_
  intro p e s m args below meth c ls hC hret hlk hU hH hl
  exact bX4_isAtEnd_0 hC hret hlk hU hf hH va_S.rf hl
def fX4_refuse_18 (a1 : Int32)  (s0 : Int32) (st : gS) : Option (Int32 × gS) :=
  some (0, wi (wi st 3 5 s0) 3 6 ((wi st 3 5 s0).1 19 3))
set_option maxRecDepth 100000 in
set_option maxHeartbeats 4000000 in
theorem bX4_refuse_18 {a1 : Int32} (hC : CallFix p m c cX4_refuse 2 s args lw_good RX4) (hret : meth.sig.returnType = (some .boolean)) (hlk : meth.locks = false) (hU : gU 0 D cA ad s)  {r : Int32} {st' : gS}  {s0 : Int32} {st : gS} {H : Heap} {locs : List Loc} {ls : Array Slot} (hf : fX4_refuse_18 a1 s0 st = some (r, st')) (hH : gP0 0 D cA ad st H) (hS : va_S (gA 0 ad) s.heap H locs) (hl : lv_has ls 2 [(0, .ref (ad 3))]) : W p l e (gRm 1) s m args below meth c H locs 0 0 (MQ below (gQc 0 D cA ad st' (some (.int r))) args s 0 0 (gA 0 ad)) (F0 m 18 ls [.int s0, .ref (ad 3)]) := by
  obtain ⟨hx, hb, hml, hown, hts⟩ := id hC
  unfold fX4_refuse_18 at hf
  refine g_puti (pc := 18) hC hU hH hS gk0_3 g_cl4 5 (by decide) kf_X4_29 rfl rfl rfl rfl dX4_refuse_18 (fun H locs hH hS => ?_)
  refine lv_aload_n (pc := 21) hx hb dX4_refuse_21 rfl (lv_at hl 0 rfl) ?_
  refine lv_aload_n (pc := 22) hx hb dX4_refuse_22 rfl (lv_at hl 0 rfl) ?_
  refine g_get (pc := 23) (v := .ref (ad 19)) hC hU hH gk0_3 g_cl4 0 (by decide) kf_X4_40 rfl dX4_refuse_23 ?_
  refine g_get (pc := 26) (v := .int ((wi st 3 5 s0).1 19 3)) hC hU hH gk0_19 g_cl7 3 (by decide) kf_X4_56 rfl dX4_refuse_26 ?_
  refine g_puti (pc := 29) hC hU hH hS gk0_3 g_cl4 6 (by decide) kf_X4_32 rfl rfl rfl rfl dX4_refuse_29 (fun H locs hH hS => ?_)
  refine lv_iconst (v := 0) (pc := 32) hx hb dX4_refuse_32 (by decide) ?_
  exact g_zret (pc := 33) hC hret hlk hH hS (by decide) hf dX4_refuse_33
def fX4_refuse (a1 : Int32)   (st : gS) : Option (Int32 × gS) :=
  if (st.1 19 2) = 22 then (fX4_refuse_18 a1 1 st) else (fX4_refuse_18 a1 a1 st)
set_option maxRecDepth 100000 in
set_option maxHeartbeats 4000000 in
theorem bX4_refuse_0 {a1 : Int32} (hC : CallFix p m c cX4_refuse 2 s args lw_good RX4) (hret : meth.sig.returnType = (some .boolean)) (hlk : meth.locks = false) (hU : gU 0 D cA ad s)  {r : Int32} {st' : gS}   {st : gS} {H : Heap} {locs : List Loc} {ls : Array Slot} (hf : fX4_refuse a1 st = some (r, st')) (hH : gP0 0 D cA ad st H) (hS : va_S (gA 0 ad) s.heap H locs) (hl : lv_has ls 2 [(0, .ref (ad 3)), (1, .int a1)]) : W p l e (gRm 1) s m args below meth c H locs 0 0 (MQ below (gQc 0 D cA ad st' (some (.int r))) args s 0 0 (gA 0 ad)) (F0 m 0 ls []) := by
  obtain ⟨hx, hb, hml, hown, hts⟩ := id hC
  unfold fX4_refuse at hf
  refine lv_aload_n (pc := 0) hx hb dX4_refuse_0 rfl (lv_at hl 0 rfl) ?_
  refine lv_aload_n (pc := 1) hx hb dX4_refuse_1 rfl (lv_at hl 0 rfl) ?_
  refine g_get (pc := 2) (v := .ref (ad 19)) hC hU hH gk0_3 g_cl4 0 (by decide) kf_X4_40 rfl dX4_refuse_2 ?_
  refine g_get (pc := 5) (v := .int (st.1 19 2)) hC hU hH gk0_19 g_cl7 2 (by decide) kf_X4_53 rfl dX4_refuse_5 ?_
  refine lv_bipush (v := 22) (pc := 8) hx hb dX4_refuse_8 (by decide) ?_
  refine lv_icmp_ne (tgt := 17) (pc := 10) hx hb dX4_refuse_10 (by decide) (fun hc => ?_) (fun hc => ?_)
  · have hf := gif_n hc hf
    refine lv_iload_n (pc := 17) hx hb dX4_refuse_17 rfl (lv_at hl 1 rfl) ?_
    exact bX4_refuse_18 hC hret hlk hU hf hH hS (lv_sub hl [0] rfl)
  · have hf := gif_p hc hf
    refine lv_iconst (v := 1) (pc := 13) hx hb dX4_refuse_13 (by decide) ?_
    refine lv_goto (tgt := 18) (pc := 14) hx hb dX4_refuse_14 (by decide) ?_
    exact bX4_refuse_18 hC hret hlk hU hf hH hS (lv_sub hl [0] rfl)
set_option maxRecDepth 100000 in
set_option maxHeartbeats 4000000 in
theorem mX4_refuse {l : Launch} {D : va_G} {cA : Nat → ClassId} {ad : Nat → Nat} {a1 : Int32}  {r : Int32} {st st' : gS} (hf : fX4_refuse a1 st = some (r, st')) : gM l yX4_refuse cX4_refuse 2 (some .boolean) 1 0 D cA ad st [.ref (ad 3), .int a1] (some (.int r)) st' := by
  refine g_met (by decide) (Nat.le_of_ble_eq_true rfl) ?_
  intro p e s m args below meth c ls hC hret hlk hU hH hl
  exact bX4_refuse_0 hC hret hlk hU hf hH va_S.rf hl
def fX8_figureNamed_2 (t : Nat) (a1 : Int64) (k2 : Int32 → gS → Option (Int32 × gS)) (l3 : Int32) (st : gS) : Option (Int32 × gS) :=
  if (st.1 t 12) ≤ l3 then (some ((-1), st)) else (gc (gI l3 8) (if (lg_cmp (st.2.1 (t + 1 + 0) l3.toNatClampNeg) a1) = 0 then (some (l3, st)) else (k2 (l3 + 1) st)))
set_option maxRecDepth 100000 in
set_option maxHeartbeats 4000000 in
theorem bX8_figureNamed_2 {t : Nat} {a1 : Int64} (hC : CallFix p m c cX8_figureNamed 4 s args lw_good RX8) (hret : meth.sig.returnType = (some .int)) (hlk : meth.locks = false) (hU : gU 0 D cA ad s) (ht : gK 0 t = 8) {r : Int32} {st' : gS} {k2 : Int32 → gS → Option (Int32 × gS)} (hk2 : ∀ {l3 : Int32} {st : gS} {H : Heap} {locs : List Loc} {ls : Array Slot}, k2 l3 st = some (r, st') → gP0 0 D cA ad st H → va_S (gA 0 ad) s.heap H locs → lv_has ls 4 [(0, .ref (ad t)), (1, .long a1), (3, .int l3)] → W p l e (gRm 1) s m args below meth c H locs 0 0 (MQ below (gQc 0 D cA ad st' (some (.int r))) args s 0 0 (gA 0 ad)) (F0 m 2 ls [])) {l3 : Int32} {st : gS} {H : Heap} {locs : List Loc} {ls : Array Slot} (hf : fX8_figureNamed_2 t a1 k2 l3 st = some (r, st')) (hH : gP0 0 D cA ad st H) (hS : va_S (gA 0 ad) s.heap H locs) (hl : lv_has ls 4 [(0, .ref (ad t)), (1, .long a1), (3, .int l3)]) : W p l e (gRm 1) s m args below meth c H locs 0 0 (MQ below (gQc 0 D cA ad st' (some (.int r))) args s 0 0 (gA 0 ad)) (F0 m 2 ls []) := by
  obtain ⟨hx, hb, hml, hown, hts⟩ := id hC
  unfold fX8_figureNamed_2 at hf
  refine lv_iload_n (pc := 2) hx hb dX8_figureNamed_2 rfl (lv_at hl 2 rfl) ?_
  refine lv_aload_n (pc := 3) hx hb dX8_figureNamed_3 rfl (lv_at hl 0 rfl) ?_
  refine g_get (pc := 4) (v := .int (st.1 t 12)) hC hU hH ht g_cl8 12 (by decide) kf_X8_53 rfl dX8_figureNamed_4 ?_
  refine lv_icmp_ge (tgt := 29) (pc := 7) hx hb dX8_figureNamed_7 (by decide) (fun hc => ?_) (fun hc => ?_)
  · have hf := gif_p hc hf
    refine lv_iconst (v := (-1)) (pc := 29) hx hb dX8_figureNamed_29 (by decide) ?_
    exact g_iret (pc := 30) hC hret hlk hH hS hf dX8_figureNamed_30
  · have hf := gif_n hc hf
    refine lv_aload_n (pc := 10) hx hb dX8_figureNamed_10 rfl (lv_at hl 0 rfl) ?_
    refine g_get (pc := 11) (v := .ref (ad (t + 1 + 0))) hC hU hH ht g_cl8 0 (by decide) kf_X8_9 rfl dX8_figureNamed_11 ?_
    refine lv_iload_n (pc := 14) hx hb dX8_figureNamed_14 rfl (lv_at hl 2 rfl) ?_
    obtain ⟨h2_1, hf⟩ := gc_s hf
    refine g_lald (pc := 15) hC hU hH (gk_8_0 ht) (gn_8_0 ht) h2_1 dX8_figureNamed_15 ?_
    refine lv_lload_n (pc := 16) hx hb dX8_figureNamed_16 rfl (lv_at hl 1 rfl) ?_
    refine W.lcmp hx hb (pc := 17) dX8_figureNamed_17 ?_
    refine lv_if_ne (tgt := 23) (pc := 18) hx hb dX8_figureNamed_18 (by decide) (fun hc => ?_) (fun hc => ?_)
    · have hf := gif_n hc hf
      refine lv_iinc (v := l3 + 1) (lv' := [(3, .int (l3 + 1)), (0, .ref (ad t)), (1, .long a1)]) (k := 2) (pc := 23) hx hb dX8_figureNamed_23 hl rfl rfl (by decide) rfl (fun ls hl => ?_)
      refine lv_goto (tgt := 2) (pc := 26) hx hb dX8_figureNamed_26 (by decide) ?_
      exact hk2 hf hH hS (lv_sub hl [1, 2, 0] rfl)
    · have hf := gif_p hc hf
      refine lv_iload_n (pc := 21) hx hb dX8_figureNamed_21 rfl (lv_at hl 2 rfl) ?_
      exact g_iret (pc := 22) hC hret hlk hH hS hf dX8_figureNamed_22
def hX8_figureNamed_2 (t : Nat) (a1 : Int64)  : Nat → Int32 → gS → Option (Int32 × gS)
  | 0 => fun _ _ => none
  | n + 1 => fun l3 st => fX8_figureNamed_2 t a1 (hX8_figureNamed_2 t a1 n) l3 st
set_option maxRecDepth 100000 in
set_option maxHeartbeats 4000000 in
theorem wX8_figureNamed_2 {t : Nat} {a1 : Int64} (hC : CallFix p m c cX8_figureNamed 4 s args lw_good RX8) (hret : meth.sig.returnType = (some .int)) (hlk : meth.locks = false) (hU : gU 0 D cA ad s) (ht : gK 0 t = 8) {r : Int32} {st' : gS}  : ∀ (n : Nat) {l3 : Int32} {st : gS} {H : Heap} {locs : List Loc} {ls : Array Slot}, hX8_figureNamed_2 t a1 n l3 st = some (r, st') → gP0 0 D cA ad st H → va_S (gA 0 ad) s.heap H locs → lv_has ls 4 [(0, .ref (ad t)), (1, .long a1), (3, .int l3)] → W p l e (gRm 1) s m args below meth c H locs 0 0 (MQ below (gQc 0 D cA ad st' (some (.int r))) args s 0 0 (gA 0 ad)) (F0 m 2 ls []) := by
  intro n
  induction n with
  | zero => intro l3 st H locs ls hf hH hS hl; cases hf
  | succ n ih =>
    intro l3 st H locs ls hf hH hS hl
    exact bX8_figureNamed_2 (t := t) (a1 := a1) hC hret hlk hU ht (fun hf hH hS hl => ih hf hH hS hl) hf hH hS hl
def fX8_figureNamed (t : Nat) (a1 : Int64)   (st : gS) : Option (Int32 × gS) :=
  hX8_figureNamed_2 t a1 FU 0 st
set_option maxRecDepth 100000 in
set_option maxHeartbeats 4000000 in
theorem bX8_figureNamed_0 {t : Nat} {a1 : Int64} (hC : CallFix p m c cX8_figureNamed 4 s args lw_good RX8) (hret : meth.sig.returnType = (some .int)) (hlk : meth.locks = false) (hU : gU 0 D cA ad s) (ht : gK 0 t = 8) {r : Int32} {st' : gS}   {st : gS} {H : Heap} {locs : List Loc} {ls : Array Slot} (hf : fX8_figureNamed t a1 st = some (r, st')) (hH : gP0 0 D cA ad st H) (hS : va_S (gA 0 ad) s.heap H locs) (hl : lv_has ls 4 [(0, .ref (ad t)), (1, .long a1)]) : W p l e (gRm 1) s m args below meth c H locs 0 0 (MQ below (gQc 0 D cA ad st' (some (.int r))) args s 0 0 (gA 0 ad)) (F0 m 0 ls []) := by
  obtain ⟨hx, hb, hml, hown, hts⟩ := id hC
  unfold fX8_figureNamed at hf
  refine lv_iconst (v := 0) (pc := 0) hx hb dX8_figureNamed_0 (by decide) ?_
  refine lv_istore_n (lv' := [(3, .int 0), (0, .ref (ad t)), (1, .long a1)]) (pc := 1) hx hb dX8_figureNamed_1 rfl hl (by decide) rfl (fun ls hl => ?_)
  exact wX8_figureNamed_2 hC hret hlk hU ht FU hf hH hS (lv_sub hl [1, 2, 0] rfl)
set_option maxRecDepth 100000 in
set_option maxHeartbeats 4000000 in
theorem mX8_figureNamed {l : Launch} {D : va_G} {cA : Nat → ClassId} {ad : Nat → Nat} {t : Nat} {a1 : Int64} (ht : gK 0 t = 8) {r : Int32} {st st' : gS} (hf : fX8_figureNamed t a1 st = some (r, st')) : gM l yX8_figureNamed cX8_figureNamed 4 (some .int) 1 0 D cA ad st [.ref (ad t), .long a1] (some (.int r)) st' := by
  refine g_met (by decide) (Nat.le_of_ble_eq_true rfl) ?_
  intro p e s m args below meth c ls hC hret hlk hU hH hl
  exact bX8_figureNamed_0 hC hret hlk hU ht hf hH va_S.rf hl
def fX8_addFigure (t : Nat) (a1 : Int64)   (st : gS) : Option (gS) :=
  if 8 ≤ (st.1 t 12) then (some st) else (gc (gI (st.1 t 12) 8) (some (wi (wl st (t + 1 + 0) (st.1 t 12).toNatClampNeg a1) t 12 (((wl st (t + 1 + 0) (st.1 t 12).toNatClampNeg a1).1 t 12) + 1))))
set_option maxRecDepth 100000 in
set_option maxHeartbeats 4000000 in
theorem bX8_addFigure_0 {t : Nat} {a1 : Int64} (hC : CallFix p m c cX8_addFigure 3 s args lw_good RX8) (hret : meth.sig.returnType = none) (hlk : meth.locks = false) (hU : gU 0 D cA ad s) (ht : gK 0 t = 8) {st' : gS}   {st : gS} {H : Heap} {locs : List Loc} {ls : Array Slot} (hf : fX8_addFigure t a1 st = some st') (hH : gP0 0 D cA ad st H) (hS : va_S (gA 0 ad) s.heap H locs) (hl : lv_has ls 3 [(0, .ref (ad t)), (1, .long a1)]) : W p l e (gRm 1) s m args below meth c H locs 0 0 (MQ below (gQc 0 D cA ad st' none) args s 0 0 (gA 0 ad)) (F0 m 0 ls []) := by
  obtain ⟨hx, hb, hml, hown, hts⟩ := id hC
  unfold fX8_addFigure at hf
  refine lv_aload_n (pc := 0) hx hb dX8_addFigure_0 rfl (lv_at hl 0 rfl) ?_
  refine g_get (pc := 1) (v := .int (st.1 t 12)) hC hU hH ht g_cl8 12 (by decide) kf_X8_53 rfl dX8_addFigure_1 ?_
  refine lv_bipush (v := 8) (pc := 4) hx hb dX8_addFigure_4 (by decide) ?_
  refine lv_icmp_ge (tgt := 29) (pc := 6) hx hb dX8_addFigure_6 (by decide) (fun hc => ?_) (fun hc => ?_)
  · have hf := gif_p hc hf
    exact g_vret (pc := 29) hC hret hlk hH hS hf dX8_addFigure_29
  · have hf := gif_n hc hf
    refine lv_aload_n (pc := 9) hx hb dX8_addFigure_9 rfl (lv_at hl 0 rfl) ?_
    refine g_get (pc := 10) (v := .ref (ad (t + 1 + 0))) hC hU hH ht g_cl8 0 (by decide) kf_X8_9 rfl dX8_addFigure_10 ?_
    refine lv_aload_n (pc := 13) hx hb dX8_addFigure_13 rfl (lv_at hl 0 rfl) ?_
    refine g_get (pc := 14) (v := .int (st.1 t 12)) hC hU hH ht g_cl8 12 (by decide) kf_X8_53 rfl dX8_addFigure_14 ?_
    refine lv_lload_n (pc := 17) hx hb dX8_addFigure_17 rfl (lv_at hl 1 rfl) ?_
    obtain ⟨h0_1, hf⟩ := gc_s hf
    refine g_last (pc := 18) hC hU hH hS (gk_8_0 ht) (gn_8_0 ht) h0_1 dX8_addFigure_18 (fun H locs hH hS => ?_)
    refine lv_aload_n (pc := 19) hx hb dX8_addFigure_19 rfl (lv_at hl 0 rfl) ?_
    refine lv_dup (pc := 20) hx hb dX8_addFigure_20 rfl ?_
    refine g_get (pc := 21) (v := .int ((wl st (t + 1 + 0) (st.1 t 12).toNatClampNeg a1).1 t 12)) hC hU hH ht g_cl8 12 (by decide) kf_X8_53 rfl dX8_addFigure_21 ?_
    refine lv_iconst (v := 1) (pc := 24) hx hb dX8_addFigure_24 (by decide) ?_
    refine lv_iadd (pc := 25) hx hb dX8_addFigure_25 ?_
    refine g_puti (pc := 26) hC hU hH hS ht g_cl8 12 (by decide) kf_X8_53 rfl rfl rfl rfl dX8_addFigure_26 (fun H locs hH hS => ?_)
    exact g_vret (pc := 29) hC hret hlk hH hS hf dX8_addFigure_29
set_option maxRecDepth 100000 in
set_option maxHeartbeats 4000000 in
theorem mX8_addFigure {l : Launch} {D : va_G} {cA : Nat → ClassId} {ad : Nat → Nat} {t : Nat} {a1 : Int64} (ht : gK 0 t = 8) {st st' : gS} (hf : fX8_addFigure t a1 st = some st') : gM l yX8_addFigure cX8_addFigure 3 none 1 0 D cA ad st [.ref (ad t), .long a1] none st' := by
  refine g_met (by decide) (Nat.le_of_ble_eq_true rfl) ?_
  intro p e s m args below meth c ls hC hret hlk hU hH hl
  exact bX8_addFigure_0 hC hret hlk hU ht hf hH va_S.rf hl
def fX4_pass (a1 : Int32)   (st : gS) : Option (Int32 × gS) :=
  if (st.1 19 2) = a1 then ((fX7_step st).bind fun q0_1 => (some (1, q0_1))) else ((fX4_refuse 2 st).bind fun q0_2 => (gc (gB q0_2.1) (some (q0_2.1, q0_2.2))))
set_option maxRecDepth 100000 in
set_option maxHeartbeats 4000000 in
theorem bX4_pass_0 {a1 : Int32} (hC : CallFix p m c cX4_pass 2 s args lw_good RX4) (hret : meth.sig.returnType = (some .boolean)) (hlk : meth.locks = false) (hU : gU 0 D cA ad s)  {r : Int32} {st' : gS}   {st : gS} {H : Heap} {locs : List Loc} {ls : Array Slot} (hf : fX4_pass a1 st = some (r, st')) (hH : gP0 0 D cA ad st H) (hS : va_S (gA 0 ad) s.heap H locs) (hl : lv_has ls 2 [(0, .ref (ad 3)), (1, .int a1)]) : W p l e (gRm 6) s m args below meth c H locs 0 0 (MQ below (gQc 0 D cA ad st' (some (.int r))) args s 0 0 (gA 0 ad)) (F0 m 0 ls []) := by
  obtain ⟨hx, hb, hml, hown, hts⟩ := id hC
  unfold fX4_pass at hf
  refine lv_aload_n (pc := 0) hx hb dX4_pass_0 rfl (lv_at hl 0 rfl) ?_
  refine g_get (pc := 1) (v := .ref (ad 19)) hC hU hH gk0_3 g_cl4 0 (by decide) kf_X4_40 rfl dX4_pass_1 ?_
  refine g_get (pc := 4) (v := .int (st.1 19 2)) hC hU hH gk0_19 g_cl7 2 (by decide) kf_X4_53 rfl dX4_pass_4 ?_
  refine lv_iload_n (pc := 7) hx hb dX4_pass_7 rfl (lv_at hl 1 rfl) ?_
  refine lv_icmp_eq (tgt := 17) (pc := 8) hx hb dX4_pass_8 (by decide) (fun hc => ?_) (fun hc => ?_)
  · have hf := gif_p hc hf
    refine lv_aload_n (pc := 17) hx hb dX4_pass_17 rfl (lv_at hl 0 rfl) ?_
    refine g_get (pc := 18) (v := .ref (ad 19)) hC hU hH gk0_3 g_cl4 0 (by decide) kf_X4_40 rfl dX4_pass_18 ?_
    obtain ⟨q0_1, hq0_1, hf⟩ := gbd hf
    refine g_callVv (pc := 21) (rest := []) hC hU hH hS hl.1 gk0_19 rfl (by decide) (mX7_step  hq0_1) ky_X7_step km_X4_83 ⟨Nat.le_of_ble_eq_true rfl, Nat.le_of_ble_eq_true rfl⟩ ⟨Nat.zero_le _, Nat.zero_le _⟩ rfl (Nat.le_of_ble_eq_true rfl) dX4_pass_21 rfl (fun H locs hH hS => ?_)
    refine lv_iconst (v := 1) (pc := 24) hx hb dX4_pass_24 (by decide) ?_
    exact g_zret (pc := 25) hC hret hlk hH hS (by decide) hf dX4_pass_25
  · have hf := gif_n hc hf
    refine lv_aload_n (pc := 11) hx hb dX4_pass_11 rfl (lv_at hl 0 rfl) ?_
    refine lv_iconst (v := 2) (pc := 12) hx hb dX4_pass_12 (by decide) ?_
    obtain ⟨q0_2, hq0_2, hf⟩ := gbd hf
    refine g_callVi (pc := 13) (rest := []) hC hU hH hS hl.1 gk0_3 rfl (by decide) (mX4_refuse  hq0_2) ky_X4_refuse km_X4_79 ⟨Nat.le_of_ble_eq_true rfl, Nat.le_of_ble_eq_true rfl⟩ ⟨Nat.zero_le _, Nat.zero_le _⟩ rfl (Nat.le_of_ble_eq_true rfl) dX4_pass_13 rfl (fun H locs hH hS => ?_)
    obtain ⟨h0_1, hf⟩ := gc_s hf
    exact g_zret (pc := 16) hC hret hlk hH hS h0_1 hf dX4_pass_16
set_option maxRecDepth 100000 in
set_option maxHeartbeats 4000000 in
theorem mX4_pass {l : Launch} {D : va_G} {cA : Nat → ClassId} {ad : Nat → Nat} {a1 : Int32}  {r : Int32} {st st' : gS} (hf : fX4_pass a1 st = some (r, st')) : gM l yX4_pass cX4_pass 2 (some .boolean) 6 0 D cA ad st [.ref (ad 3), .int a1] (some (.int r)) st' := by
  refine g_met (by decide) (Nat.le_of_ble_eq_true rfl) ?_
  intro p e s m args below meth c ls hC hret hlk hU hH hl
  exact bX4_pass_0 hC hret hlk hU hf hH va_S.rf hl
def fX4_readFigure    (st : gS) : Option (Int32 × gS) :=
  gc (gK 0 (st.2.2 3 1) = 8) (if (st.1 (st.2.2 3 1) 12) < 8 then ((fX7_step st).bind fun q0_1 => (if (q0_1.1 19 2) = 19 then (gc (gK 0 (q0_1.2.2 3 1) = 8) ((fX8_figureNamed (q0_1.2.2 3 1) (q0_1.2.1 19 5) q0_1).bind fun q0_2 => (if q0_2.1 = (-1) then (gc (gK 0 (q0_2.2.2.2 3 1) = 8) ((fX8_addFigure (q0_2.2.2.2 3 1) (q0_2.2.2.1 19 5) q0_2.2).bind fun q0_3 => ((fX7_step q0_3).bind fun q0_4 => ((fX4_pass 59 q0_4).bind fun q0_5 => (gc (gB q0_5.1) (some (q0_5.1, q0_5.2))))))) else ((fX4_refuse 3 q0_2.2).bind fun q0_6 => (gc (gB q0_6.1) (some (q0_6.1, q0_6.2))))))) else ((fX4_refuse 2 q0_1).bind fun q0_7 => (gc (gB q0_7.1) (some (q0_7.1, q0_7.2)))))) else ((fX4_refuse 2 st).bind fun q0_8 => (gc (gB q0_8.1) (some (q0_8.1, q0_8.2)))))
set_option maxRecDepth 100000 in
set_option maxHeartbeats 4000000 in
theorem bX4_readFigure_0  (hC : CallFix p m c cX4_readFigure 1 s args lw_good RX4) (hret : meth.sig.returnType = (some .boolean)) (hlk : meth.locks = false) (hU : gU 0 D cA ad s)  {r : Int32} {st' : gS}   {st : gS} {H : Heap} {locs : List Loc} {ls : Array Slot} (hf : fX4_readFigure st = some (r, st')) (hH : gP0 0 D cA ad st H) (hS : va_S (gA 0 ad) s.heap H locs) (hl : lv_has ls 1 [(0, .ref (ad 3))]) : W p l e (gRm 7) s m args below meth c H locs 0 0 (MQ below (gQc 0 D cA ad st' (some (.int r))) args s 0 0 (gA 0 ad)) (F0 m 0 ls []) := by
  obtain ⟨hx, hb, hml, hown, hts⟩ := id hC
  unfold fX4_readFigure at hf
  refine lv_aload_n (pc := 0) hx hb dX4_readFigure_0 rfl (lv_at hl 0 rfl) ?_
  refine g_get (pc := 1) (v := .ref (ad (st.2.2 3 1))) hC hU hH gk0_3 g_cl4 1 (by decide) kf_X4_12 rfl dX4_readFigure_1 ?_
  obtain ⟨h0_1, hf⟩ := gc_s hf
  refine g_get (pc := 4) (v := .int (st.1 (st.2.2 3 1) 12)) hC hU hH h0_1 g_cl8 12 (by decide) kf_X4_104 rfl dX4_readFigure_4 ?_
  refine lv_bipush (v := 8) (pc := 7) hx hb dX4_readFigure_7 (by decide) ?_
  refine lv_icmp_lt (tgt := 18) (pc := 9) hx hb dX4_readFigure_9 (by decide) (fun hc => ?_) (fun hc => ?_)
  · have hf := gif_p hc hf
    refine lv_aload_n (pc := 18) hx hb dX4_readFigure_18 rfl (lv_at hl 0 rfl) ?_
    refine g_get (pc := 19) (v := .ref (ad 19)) hC hU hH gk0_3 g_cl4 0 (by decide) kf_X4_40 rfl dX4_readFigure_19 ?_
    obtain ⟨q0_1, hq0_1, hf⟩ := gbd hf
    refine g_callVv (pc := 22) (rest := []) hC hU hH hS hl.1 gk0_19 rfl (by decide) (mX7_step  hq0_1) ky_X7_step km_X4_83 ⟨Nat.le_of_ble_eq_true rfl, Nat.le_of_ble_eq_true rfl⟩ ⟨Nat.zero_le _, Nat.zero_le _⟩ rfl (Nat.le_of_ble_eq_true rfl) dX4_readFigure_22 rfl (fun H locs hH hS => ?_)
    refine lv_aload_n (pc := 25) hx hb dX4_readFigure_25 rfl (lv_at hl 0 rfl) ?_
    refine g_get (pc := 26) (v := .ref (ad 19)) hC hU hH gk0_3 g_cl4 0 (by decide) kf_X4_40 rfl dX4_readFigure_26 ?_
    refine g_get (pc := 29) (v := .int (q0_1.1 19 2)) hC hU hH gk0_19 g_cl7 2 (by decide) kf_X4_53 rfl dX4_readFigure_29 ?_
    refine lv_bipush (v := 19) (pc := 32) hx hb dX4_readFigure_32 (by decide) ?_
    refine lv_icmp_eq (tgt := 43) (pc := 34) hx hb dX4_readFigure_34 (by decide) (fun hc => ?_) (fun hc => ?_)
    · have hf := gif_p hc hf
      refine lv_aload_n (pc := 43) hx hb dX4_readFigure_43 rfl (lv_at hl 0 rfl) ?_
      refine g_get (pc := 44) (v := .ref (ad (q0_1.2.2 3 1))) hC hU hH gk0_3 g_cl4 1 (by decide) kf_X4_12 rfl dX4_readFigure_44 ?_
      refine lv_aload_n (pc := 47) hx hb dX4_readFigure_47 rfl (lv_at hl 0 rfl) ?_
      refine g_get (pc := 48) (v := .ref (ad 19)) hC hU hH gk0_3 g_cl4 0 (by decide) kf_X4_40 rfl dX4_readFigure_48 ?_
      refine g_get (pc := 51) (v := .long (q0_1.2.1 19 5)) hC hU hH gk0_19 g_cl7 5 (by decide) kf_X4_89 rfl dX4_readFigure_51 ?_
      obtain ⟨h0_2, hf⟩ := gc_s hf
      obtain ⟨q0_2, hq0_2, hf⟩ := gbd hf
      refine g_callVi (pc := 54) (rest := []) hC hU hH hS hl.1 h0_2 rfl (by decide) (mX8_figureNamed h0_2 hq0_2) ky_X8_figureNamed km_X4_93 ⟨Nat.le_of_ble_eq_true rfl, Nat.le_of_ble_eq_true rfl⟩ ⟨Nat.zero_le _, Nat.zero_le _⟩ rfl (Nat.le_of_ble_eq_true rfl) dX4_readFigure_54 rfl (fun H locs hH hS => ?_)
      refine lv_iconst (v := (-1)) (pc := 57) hx hb dX4_readFigure_57 (by decide) ?_
      refine lv_icmp_eq (tgt := 67) (pc := 58) hx hb dX4_readFigure_58 (by decide) (fun hc => ?_) (fun hc => ?_)
      · have hf := gif_p hc hf
        refine lv_aload_n (pc := 67) hx hb dX4_readFigure_67 rfl (lv_at hl 0 rfl) ?_
        refine g_get (pc := 68) (v := .ref (ad (q0_2.2.2.2 3 1))) hC hU hH gk0_3 g_cl4 1 (by decide) kf_X4_12 rfl dX4_readFigure_68 ?_
        refine lv_aload_n (pc := 71) hx hb dX4_readFigure_71 rfl (lv_at hl 0 rfl) ?_
        refine g_get (pc := 72) (v := .ref (ad 19)) hC hU hH gk0_3 g_cl4 0 (by decide) kf_X4_40 rfl dX4_readFigure_72 ?_
        refine g_get (pc := 75) (v := .long (q0_2.2.2.1 19 5)) hC hU hH gk0_19 g_cl7 5 (by decide) kf_X4_89 rfl dX4_readFigure_75 ?_
        obtain ⟨h0_3, hf⟩ := gc_s hf
        obtain ⟨q0_3, hq0_3, hf⟩ := gbd hf
        refine g_callVv (pc := 78) (rest := []) hC hU hH hS hl.1 h0_3 rfl (by decide) (mX8_addFigure h0_3 hq0_3) ky_X8_addFigure km_X4_107 ⟨Nat.le_of_ble_eq_true rfl, Nat.le_of_ble_eq_true rfl⟩ ⟨Nat.zero_le _, Nat.zero_le _⟩ rfl (Nat.le_of_ble_eq_true rfl) dX4_readFigure_78 rfl (fun H locs hH hS => ?_)
        refine lv_aload_n (pc := 81) hx hb dX4_readFigure_81 rfl (lv_at hl 0 rfl) ?_
        refine g_get (pc := 82) (v := .ref (ad 19)) hC hU hH gk0_3 g_cl4 0 (by decide) kf_X4_40 rfl dX4_readFigure_82 ?_
        obtain ⟨q0_4, hq0_4, hf⟩ := gbd hf
        refine g_callVv (pc := 85) (rest := []) hC hU hH hS hl.1 gk0_19 rfl (by decide) (mX7_step  hq0_4) ky_X7_step km_X4_83 ⟨Nat.le_of_ble_eq_true rfl, Nat.le_of_ble_eq_true rfl⟩ ⟨Nat.zero_le _, Nat.zero_le _⟩ rfl (Nat.le_of_ble_eq_true rfl) dX4_readFigure_85 rfl (fun H locs hH hS => ?_)
        refine lv_aload_n (pc := 88) hx hb dX4_readFigure_88 rfl (lv_at hl 0 rfl) ?_
        refine lv_bipush (v := 59) (pc := 89) hx hb dX4_readFigure_89 (by decide) ?_
        obtain ⟨q0_5, hq0_5, hf⟩ := gbd hf
        refine g_callVi (pc := 91) (rest := []) hC hU hH hS hl.1 gk0_3 rfl (by decide) (mX4_pass  hq0_5) ky_X4_pass km_X4_111 ⟨Nat.le_of_ble_eq_true rfl, Nat.le_of_ble_eq_true rfl⟩ ⟨Nat.zero_le _, Nat.zero_le _⟩ rfl (Nat.le_of_ble_eq_true rfl) dX4_readFigure_91 rfl (fun H locs hH hS => ?_)
        obtain ⟨h0_4, hf⟩ := gc_s hf
        exact g_zret (pc := 94) hC hret hlk hH hS h0_4 hf dX4_readFigure_94
      · have hf := gif_n hc hf
        refine lv_aload_n (pc := 61) hx hb dX4_readFigure_61 rfl (lv_at hl 0 rfl) ?_
        refine lv_iconst (v := 3) (pc := 62) hx hb dX4_readFigure_62 (by decide) ?_
        obtain ⟨q0_6, hq0_6, hf⟩ := gbd hf
        refine g_callVi (pc := 63) (rest := []) hC hU hH hS hl.1 gk0_3 rfl (by decide) (mX4_refuse  hq0_6) ky_X4_refuse km_X4_79 ⟨Nat.le_of_ble_eq_true rfl, Nat.le_of_ble_eq_true rfl⟩ ⟨Nat.zero_le _, Nat.zero_le _⟩ rfl (Nat.le_of_ble_eq_true rfl) dX4_readFigure_63 rfl (fun H locs hH hS => ?_)
        obtain ⟨h0_5, hf⟩ := gc_s hf
        exact g_zret (pc := 66) hC hret hlk hH hS h0_5 hf dX4_readFigure_66
    · have hf := gif_n hc hf
      refine lv_aload_n (pc := 37) hx hb dX4_readFigure_37 rfl (lv_at hl 0 rfl) ?_
      refine lv_iconst (v := 2) (pc := 38) hx hb dX4_readFigure_38 (by decide) ?_
      obtain ⟨q0_7, hq0_7, hf⟩ := gbd hf
      refine g_callVi (pc := 39) (rest := []) hC hU hH hS hl.1 gk0_3 rfl (by decide) (mX4_refuse  hq0_7) ky_X4_refuse km_X4_79 ⟨Nat.le_of_ble_eq_true rfl, Nat.le_of_ble_eq_true rfl⟩ ⟨Nat.zero_le _, Nat.zero_le _⟩ rfl (Nat.le_of_ble_eq_true rfl) dX4_readFigure_39 rfl (fun H locs hH hS => ?_)
      obtain ⟨h0_6, hf⟩ := gc_s hf
      exact g_zret (pc := 42) hC hret hlk hH hS h0_6 hf dX4_readFigure_42
  · have hf := gif_n hc hf
    refine lv_aload_n (pc := 12) hx hb dX4_readFigure_12 rfl (lv_at hl 0 rfl) ?_
    refine lv_iconst (v := 2) (pc := 13) hx hb dX4_readFigure_13 (by decide) ?_
    obtain ⟨q0_8, hq0_8, hf⟩ := gbd hf
    refine g_callVi (pc := 14) (rest := []) hC hU hH hS hl.1 gk0_3 rfl (by decide) (mX4_refuse  hq0_8) ky_X4_refuse km_X4_79 ⟨Nat.le_of_ble_eq_true rfl, Nat.le_of_ble_eq_true rfl⟩ ⟨Nat.zero_le _, Nat.zero_le _⟩ rfl (Nat.le_of_ble_eq_true rfl) dX4_readFigure_14 rfl (fun H locs hH hS => ?_)
    obtain ⟨h0_7, hf⟩ := gc_s hf
    exact g_zret (pc := 17) hC hret hlk hH hS h0_7 hf dX4_readFigure_17
set_option maxRecDepth 100000 in
set_option maxHeartbeats 4000000 in
theorem mX4_readFigure {l : Launch} {D : va_G} {cA : Nat → ClassId} {ad : Nat → Nat}   {r : Int32} {st st' : gS} (hf : fX4_readFigure  st = some (r, st')) : gM l yX4_readFigure cX4_readFigure 1 (some .boolean) 7 0 D cA ad st [.ref (ad 3)] (some (.int r)) st' := by
  refine g_met (by decide) (Nat.le_of_ble_eq_true rfl) ?_
  intro p e s m args below meth c ls hC hret hlk hU hH hl
  exact bX4_readFigure_0 hC hret hlk hU hf hH va_S.rf hl
def fX8_tribeNamed_2 (t : Nat) (a1 : Int64) (k2 : Int32 → gS → Option (Int32 × gS)) (l3 : Int32) (st : gS) : Option (Int32 × gS) :=
  if (st.1 t 13) ≤ l3 then (some ((-1), st)) else (gc (gI l3 5) (if (lg_cmp (st.2.1 (t + 1 + 1) l3.toNatClampNeg) a1) = 0 then (some (l3, st)) else (k2 (l3 + 1) st)))
set_option maxRecDepth 100000 in
set_option maxHeartbeats 4000000 in
theorem bX8_tribeNamed_2 {t : Nat} {a1 : Int64} (hC : CallFix p m c cX8_tribeNamed 4 s args lw_good RX8) (hret : meth.sig.returnType = (some .int)) (hlk : meth.locks = false) (hU : gU 0 D cA ad s) (ht : gK 0 t = 8) {r : Int32} {st' : gS} {k2 : Int32 → gS → Option (Int32 × gS)} (hk2 : ∀ {l3 : Int32} {st : gS} {H : Heap} {locs : List Loc} {ls : Array Slot}, k2 l3 st = some (r, st') → gP0 0 D cA ad st H → va_S (gA 0 ad) s.heap H locs → lv_has ls 4 [(0, .ref (ad t)), (1, .long a1), (3, .int l3)] → W p l e (gRm 1) s m args below meth c H locs 0 0 (MQ below (gQc 0 D cA ad st' (some (.int r))) args s 0 0 (gA 0 ad)) (F0 m 2 ls [])) {l3 : Int32} {st : gS} {H : Heap} {locs : List Loc} {ls : Array Slot} (hf : fX8_tribeNamed_2 t a1 k2 l3 st = some (r, st')) (hH : gP0 0 D cA ad st H) (hS : va_S (gA 0 ad) s.heap H locs) (hl : lv_has ls 4 [(0, .ref (ad t)), (1, .long a1), (3, .int l3)]) : W p l e (gRm 1) s m args below meth c H locs 0 0 (MQ below (gQc 0 D cA ad st' (some (.int r))) args s 0 0 (gA 0 ad)) (F0 m 2 ls []) := by
  obtain ⟨hx, hb, hml, hown, hts⟩ := id hC
  unfold fX8_tribeNamed_2 at hf
  refine lv_iload_n (pc := 2) hx hb dX8_tribeNamed_2 rfl (lv_at hl 2 rfl) ?_
  refine lv_aload_n (pc := 3) hx hb dX8_tribeNamed_3 rfl (lv_at hl 0 rfl) ?_
  refine g_get (pc := 4) (v := .int (st.1 t 13)) hC hU hH ht g_cl8 13 (by decide) kf_X8_57 rfl dX8_tribeNamed_4 ?_
  refine lv_icmp_ge (tgt := 29) (pc := 7) hx hb dX8_tribeNamed_7 (by decide) (fun hc => ?_) (fun hc => ?_)
  · have hf := gif_p hc hf
    refine lv_iconst (v := (-1)) (pc := 29) hx hb dX8_tribeNamed_29 (by decide) ?_
    exact g_iret (pc := 30) hC hret hlk hH hS hf dX8_tribeNamed_30
  · have hf := gif_n hc hf
    refine lv_aload_n (pc := 10) hx hb dX8_tribeNamed_10 rfl (lv_at hl 0 rfl) ?_
    refine g_get (pc := 11) (v := .ref (ad (t + 1 + 1))) hC hU hH ht g_cl8 1 (by decide) kf_X8_15 rfl dX8_tribeNamed_11 ?_
    refine lv_iload_n (pc := 14) hx hb dX8_tribeNamed_14 rfl (lv_at hl 2 rfl) ?_
    obtain ⟨h2_1, hf⟩ := gc_s hf
    refine g_lald (pc := 15) hC hU hH (gk_8_1 ht) (gn_8_1 ht) h2_1 dX8_tribeNamed_15 ?_
    refine lv_lload_n (pc := 16) hx hb dX8_tribeNamed_16 rfl (lv_at hl 1 rfl) ?_
    refine W.lcmp hx hb (pc := 17) dX8_tribeNamed_17 ?_
    refine lv_if_ne (tgt := 23) (pc := 18) hx hb dX8_tribeNamed_18 (by decide) (fun hc => ?_) (fun hc => ?_)
    · have hf := gif_n hc hf
      refine lv_iinc (v := l3 + 1) (lv' := [(3, .int (l3 + 1)), (0, .ref (ad t)), (1, .long a1)]) (k := 2) (pc := 23) hx hb dX8_tribeNamed_23 hl rfl rfl (by decide) rfl (fun ls hl => ?_)
      refine lv_goto (tgt := 2) (pc := 26) hx hb dX8_tribeNamed_26 (by decide) ?_
      exact hk2 hf hH hS (lv_sub hl [1, 2, 0] rfl)
    · have hf := gif_p hc hf
      refine lv_iload_n (pc := 21) hx hb dX8_tribeNamed_21 rfl (lv_at hl 2 rfl) ?_
      exact g_iret (pc := 22) hC hret hlk hH hS hf dX8_tribeNamed_22
def hX8_tribeNamed_2 (t : Nat) (a1 : Int64)  : Nat → Int32 → gS → Option (Int32 × gS)
  | 0 => fun _ _ => none
  | n + 1 => fun l3 st => fX8_tribeNamed_2 t a1 (hX8_tribeNamed_2 t a1 n) l3 st
set_option maxRecDepth 100000 in
set_option maxHeartbeats 4000000 in
theorem wX8_tribeNamed_2 {t : Nat} {a1 : Int64} (hC : CallFix p m c cX8_tribeNamed 4 s args lw_good RX8) (hret : meth.sig.returnType = (some .int)) (hlk : meth.locks = false) (hU : gU 0 D cA ad s) (ht : gK 0 t = 8) {r : Int32} {st' : gS}  : ∀ (n : Nat) {l3 : Int32} {st : gS} {H : Heap} {locs : List Loc} {ls : Array Slot}, hX8_tribeNamed_2 t a1 n l3 st = some (r, st') → gP0 0 D cA ad st H → va_S (gA 0 ad) s.heap H locs → lv_has ls 4 [(0, .ref (ad t)), (1, .long a1), (3, .int l3)] → W p l e (gRm 1) s m args below meth c H locs 0 0 (MQ below (gQc 0 D cA ad st' (some (.int r))) args s 0 0 (gA 0 ad)) (F0 m 2 ls []) := by
  intro n
  induction n with
  | zero => intro l3 st H locs ls hf hH hS hl; cases hf
  | succ n ih =>
    intro l3 st H locs ls hf hH hS hl
    exact bX8_tribeNamed_2 (t := t) (a1 := a1) hC hret hlk hU ht (fun hf hH hS hl => ih hf hH hS hl) hf hH hS hl
def fX8_tribeNamed (t : Nat) (a1 : Int64)   (st : gS) : Option (Int32 × gS) :=
  hX8_tribeNamed_2 t a1 FU 0 st
set_option maxRecDepth 100000 in
set_option maxHeartbeats 4000000 in
theorem bX8_tribeNamed_0 {t : Nat} {a1 : Int64} (hC : CallFix p m c cX8_tribeNamed 4 s args lw_good RX8) (hret : meth.sig.returnType = (some .int)) (hlk : meth.locks = false) (hU : gU 0 D cA ad s) (ht : gK 0 t = 8) {r : Int32} {st' : gS}   {st : gS} {H : Heap} {locs : List Loc} {ls : Array Slot} (hf : fX8_tribeNamed t a1 st = some (r, st')) (hH : gP0 0 D cA ad st H) (hS : va_S (gA 0 ad) s.heap H locs) (hl : lv_has ls 4 [(0, .ref (ad t)), (1, .long a1)]) : W p l e (gRm 1) s m args below meth c H locs 0 0 (MQ below (gQc 0 D cA ad st' (some (.int r))) args s 0 0 (gA 0 ad)) (F0 m 0 ls []) := by
  obtain ⟨hx, hb, hml, hown, hts⟩ := id hC
  unfold fX8_tribeNamed at hf
  refine lv_iconst (v := 0) (pc := 0) hx hb dX8_tribeNamed_0 (by decide) ?_
  refine lv_istore_n (lv' := [(3, .int 0), (0, .ref (ad t)), (1, .long a1)]) (pc := 1) hx hb dX8_tribeNamed_1 rfl hl (by decide) rfl (fun ls hl => ?_)
  exact wX8_tribeNamed_2 hC hret hlk hU ht FU hf hH hS (lv_sub hl [1, 2, 0] rfl)
set_option maxRecDepth 100000 in
set_option maxHeartbeats 4000000 in
theorem mX8_tribeNamed {l : Launch} {D : va_G} {cA : Nat → ClassId} {ad : Nat → Nat} {t : Nat} {a1 : Int64} (ht : gK 0 t = 8) {r : Int32} {st st' : gS} (hf : fX8_tribeNamed t a1 st = some (r, st')) : gM l yX8_tribeNamed cX8_tribeNamed 4 (some .int) 1 0 D cA ad st [.ref (ad t), .long a1] (some (.int r)) st' := by
  refine g_met (by decide) (Nat.le_of_ble_eq_true rfl) ?_
  intro p e s m args below meth c ls hC hret hlk hU hH hl
  exact bX8_tribeNamed_0 hC hret hlk hU ht hf hH va_S.rf hl
def fX4_passNumber_38 (a1 : Int32) (a2 : Int32)   (st : gS) : Option (Int32 × gS) :=
  (fX4_refuse 4 st).bind fun q38_1 => (some ((-1), q38_1.2))
set_option maxRecDepth 100000 in
set_option maxHeartbeats 4000000 in
theorem bX4_passNumber_38 {a1 : Int32} {a2 : Int32} (hC : CallFix p m c cX4_passNumber 4 s args lw_good RX4) (hret : meth.sig.returnType = (some .int)) (hlk : meth.locks = false) (hU : gU 0 D cA ad s)  {r : Int32} {st' : gS}   {st : gS} {H : Heap} {locs : List Loc} {ls : Array Slot} (hf : fX4_passNumber_38 a1 a2 st = some (r, st')) (hH : gP0 0 D cA ad st H) (hS : va_S (gA 0 ad) s.heap H locs) (hl : lv_has ls 4 [(0, .ref (ad 3))]) : W p l e (gRm 6) s m args below meth c H locs 0 0 (MQ below (gQc 0 D cA ad st' (some (.int r))) args s 0 0 (gA 0 ad)) (F0 m 38 ls []) := by
  obtain ⟨hx, hb, hml, hown, hts⟩ := id hC
  unfold fX4_passNumber_38 at hf
  refine lv_aload_n (pc := 38) hx hb dX4_passNumber_38 rfl (lv_at hl 0 rfl) ?_
  refine lv_iconst (v := 4) (pc := 39) hx hb dX4_passNumber_39 (by decide) ?_
  obtain ⟨q38_1, hq38_1, hf⟩ := gbd hf
  refine g_callVi (pc := 40) (rest := []) hC hU hH hS hl.1 gk0_3 rfl (by decide) (mX4_refuse  hq38_1) ky_X4_refuse km_X4_79 ⟨Nat.le_of_ble_eq_true rfl, Nat.le_of_ble_eq_true rfl⟩ ⟨Nat.zero_le _, Nat.zero_le _⟩ rfl (Nat.le_of_ble_eq_true rfl) dX4_passNumber_40 rfl (fun H locs hH hS => ?_)
  refine lv_pop (pc := 43) hx hb dX4_passNumber_43 rfl ?_
  refine lv_iconst (v := (-1)) (pc := 44) hx hb dX4_passNumber_44 (by decide) ?_
  exact g_iret (pc := 45) hC hret hlk hH hS hf dX4_passNumber_45
def fX4_passNumber (a1 : Int32) (a2 : Int32)   (st : gS) : Option (Int32 × gS) :=
  if (st.1 19 2) = 20 then (if (st.1 19 4) < a1 then (fX4_passNumber_38 a1 a2 st) else (if (st.1 19 4) ≤ a2 then ((fX7_step st).bind fun q0_1 => (some (st.1 19 4, q0_1))) else (fX4_passNumber_38 a1 a2 st))) else ((fX4_refuse 2 st).bind fun q0_2 => (some ((-1), q0_2.2)))
set_option maxRecDepth 100000 in
set_option maxHeartbeats 4000000 in
theorem bX4_passNumber_0 {a1 : Int32} {a2 : Int32} (hC : CallFix p m c cX4_passNumber 4 s args lw_good RX4) (hret : meth.sig.returnType = (some .int)) (hlk : meth.locks = false) (hU : gU 0 D cA ad s)  {r : Int32} {st' : gS}   {st : gS} {H : Heap} {locs : List Loc} {ls : Array Slot} (hf : fX4_passNumber a1 a2 st = some (r, st')) (hH : gP0 0 D cA ad st H) (hS : va_S (gA 0 ad) s.heap H locs) (hl : lv_has ls 4 [(0, .ref (ad 3)), (1, .int a1), (2, .int a2)]) : W p l e (gRm 6) s m args below meth c H locs 0 0 (MQ below (gQc 0 D cA ad st' (some (.int r))) args s 0 0 (gA 0 ad)) (F0 m 0 ls []) := by
  obtain ⟨hx, hb, hml, hown, hts⟩ := id hC
  unfold fX4_passNumber at hf
  refine lv_aload_n (pc := 0) hx hb dX4_passNumber_0 rfl (lv_at hl 0 rfl) ?_
  refine g_get (pc := 1) (v := .ref (ad 19)) hC hU hH gk0_3 g_cl4 0 (by decide) kf_X4_40 rfl dX4_passNumber_1 ?_
  refine g_get (pc := 4) (v := .int (st.1 19 2)) hC hU hH gk0_19 g_cl7 2 (by decide) kf_X4_53 rfl dX4_passNumber_4 ?_
  refine lv_bipush (v := 20) (pc := 7) hx hb dX4_passNumber_7 (by decide) ?_
  refine lv_icmp_eq (tgt := 20) (pc := 9) hx hb dX4_passNumber_9 (by decide) (fun hc => ?_) (fun hc => ?_)
  · have hf := gif_p hc hf
    refine lv_aload_n (pc := 20) hx hb dX4_passNumber_20 rfl (lv_at hl 0 rfl) ?_
    refine g_get (pc := 21) (v := .ref (ad 19)) hC hU hH gk0_3 g_cl4 0 (by decide) kf_X4_40 rfl dX4_passNumber_21 ?_
    refine g_get (pc := 24) (v := .int (st.1 19 4)) hC hU hH gk0_19 g_cl7 4 (by decide) kf_X4_86 rfl dX4_passNumber_24 ?_
    refine lv_istore_n (lv' := [(3, .int (st.1 19 4)), (0, .ref (ad 3)), (1, .int a1), (2, .int a2)]) (pc := 27) hx hb dX4_passNumber_27 rfl hl (by decide) rfl (fun ls hl => ?_)
    refine lv_iload_n (pc := 28) hx hb dX4_passNumber_28 rfl (lv_at hl 0 rfl) ?_
    refine lv_iload_n (pc := 29) hx hb dX4_passNumber_29 rfl (lv_at hl 2 rfl) ?_
    refine lv_icmp_lt (tgt := 38) (pc := 30) hx hb dX4_passNumber_30 (by decide) (fun hc => ?_) (fun hc => ?_)
    · have hf := gif_p hc hf
      exact bX4_passNumber_38 hC hret hlk hU hf hH hS (lv_sub hl [1] rfl)
    · have hf := gif_n hc hf
      refine lv_iload_n (pc := 33) hx hb dX4_passNumber_33 rfl (lv_at hl 0 rfl) ?_
      refine lv_iload_n (pc := 34) hx hb dX4_passNumber_34 rfl (lv_at hl 3 rfl) ?_
      refine lv_icmp_le (tgt := 46) (pc := 35) hx hb dX4_passNumber_35 (by decide) (fun hc => ?_) (fun hc => ?_)
      · have hf := gif_p hc hf
        refine lv_aload_n (pc := 46) hx hb dX4_passNumber_46 rfl (lv_at hl 1 rfl) ?_
        refine g_get (pc := 47) (v := .ref (ad 19)) hC hU hH gk0_3 g_cl4 0 (by decide) kf_X4_40 rfl dX4_passNumber_47 ?_
        obtain ⟨q0_1, hq0_1, hf⟩ := gbd hf
        refine g_callVv (pc := 50) (rest := []) hC hU hH hS hl.1 gk0_19 rfl (by decide) (mX7_step  hq0_1) ky_X7_step km_X4_83 ⟨Nat.le_of_ble_eq_true rfl, Nat.le_of_ble_eq_true rfl⟩ ⟨Nat.zero_le _, Nat.zero_le _⟩ rfl (Nat.le_of_ble_eq_true rfl) dX4_passNumber_50 rfl (fun H locs hH hS => ?_)
        refine lv_iload_n (pc := 53) hx hb dX4_passNumber_53 rfl (lv_at hl 0 rfl) ?_
        exact g_iret (pc := 54) hC hret hlk hH hS hf dX4_passNumber_54
      · have hf := gif_n hc hf
        exact bX4_passNumber_38 hC hret hlk hU hf hH hS (lv_sub hl [1] rfl)
  · have hf := gif_n hc hf
    refine lv_aload_n (pc := 12) hx hb dX4_passNumber_12 rfl (lv_at hl 0 rfl) ?_
    refine lv_iconst (v := 2) (pc := 13) hx hb dX4_passNumber_13 (by decide) ?_
    obtain ⟨q0_2, hq0_2, hf⟩ := gbd hf
    refine g_callVi (pc := 14) (rest := []) hC hU hH hS hl.1 gk0_3 rfl (by decide) (mX4_refuse  hq0_2) ky_X4_refuse km_X4_79 ⟨Nat.le_of_ble_eq_true rfl, Nat.le_of_ble_eq_true rfl⟩ ⟨Nat.zero_le _, Nat.zero_le _⟩ rfl (Nat.le_of_ble_eq_true rfl) dX4_passNumber_14 rfl (fun H locs hH hS => ?_)
    refine lv_pop (pc := 17) hx hb dX4_passNumber_17 rfl ?_
    refine lv_iconst (v := (-1)) (pc := 18) hx hb dX4_passNumber_18 (by decide) ?_
    exact g_iret (pc := 19) hC hret hlk hH hS hf dX4_passNumber_19
set_option maxRecDepth 100000 in
set_option maxHeartbeats 4000000 in
theorem mX4_passNumber {l : Launch} {D : va_G} {cA : Nat → ClassId} {ad : Nat → Nat} {a1 : Int32} {a2 : Int32}  {r : Int32} {st st' : gS} (hf : fX4_passNumber a1 a2 st = some (r, st')) : gM l yX4_passNumber cX4_passNumber 4 (some .int) 6 0 D cA ad st [.ref (ad 3), .int a1, .int a2] (some (.int r)) st' := by
  refine g_met (by decide) (Nat.le_of_ble_eq_true rfl) ?_
  intro p e s m args below meth c ls hC hret hlk hU hH hl
  exact bX4_passNumber_0 hC hret hlk hU hf hH va_S.rf hl
def fX4_passStiff_74  (k4 : Int32 → Int32 → gS → Option (Int32 × gS)) (l1 : Int32) (l2 : Int32) (st : gS) : Option (Int32 × gS) :=
  (fX4_passNumber 0 9 st).bind fun q74_1 => (if q74_1.1 = (-1) then (some ((-1), q74_1.2)) else (gl (l1 ||| (1 <<< (q74_1.1 &&& 31))) fun x94 => (k4 x94 (l2 + 1) q74_1.2)))
set_option maxRecDepth 100000 in
set_option maxHeartbeats 4000000 in
theorem bX4_passStiff_74  (hC : CallFix p m c cX4_passStiff 4 s args lw_good RX4) (hret : meth.sig.returnType = (some .int)) (hlk : meth.locks = false) (hU : gU 0 D cA ad s)  {r : Int32} {st' : gS} {k4 : Int32 → Int32 → gS → Option (Int32 × gS)} (hk4 : ∀ {l1 : Int32} {l2 : Int32} {st : gS} {H : Heap} {locs : List Loc} {ls : Array Slot}, k4 l1 l2 st = some (r, st') → gP0 0 D cA ad st H → va_S (gA 0 ad) s.heap H locs → lv_has ls 4 [(0, .ref (ad 3)), (1, .int l1), (2, .int l2)] → W p l e (gRm 7) s m args below meth c H locs 0 0 (MQ below (gQc 0 D cA ad st' (some (.int r))) args s 0 0 (gA 0 ad)) (F0 m 4 ls [])) {l1 : Int32} {l2 : Int32} {st : gS} {H : Heap} {locs : List Loc} {ls : Array Slot} (hf : fX4_passStiff_74 k4 l1 l2 st = some (r, st')) (hH : gP0 0 D cA ad st H) (hS : va_S (gA 0 ad) s.heap H locs) (hl : lv_has ls 4 [(0, .ref (ad 3)), (1, .int l1), (2, .int l2)]) : W p l e (gRm 7) s m args below meth c H locs 0 0 (MQ below (gQc 0 D cA ad st' (some (.int r))) args s 0 0 (gA 0 ad)) (F0 m 74 ls []) := by
  obtain ⟨hx, hb, hml, hown, hts⟩ := id hC
  unfold fX4_passStiff_74 at hf
  refine lv_aload_n (pc := 74) hx hb dX4_passStiff_74 rfl (lv_at hl 0 rfl) ?_
  refine lv_iconst (v := 0) (pc := 75) hx hb dX4_passStiff_75 (by decide) ?_
  refine lv_bipush (v := 9) (pc := 76) hx hb dX4_passStiff_76 (by decide) ?_
  obtain ⟨q74_1, hq74_1, hf⟩ := gbd hf
  refine g_callVi (pc := 78) (rest := []) hC hU hH hS hl.1 gk0_3 rfl (by decide) (mX4_passNumber  hq74_1) ky_X4_passNumber km_X4_117 ⟨Nat.le_of_ble_eq_true rfl, Nat.le_of_ble_eq_true rfl⟩ ⟨Nat.zero_le _, Nat.zero_le _⟩ rfl (Nat.le_of_ble_eq_true rfl) dX4_passStiff_78 rfl (fun H locs hH hS => ?_)
  refine lv_istore_n (lv' := [(3, .int q74_1.1), (0, .ref (ad 3)), (1, .int l1), (2, .int l2)]) (pc := 81) hx hb dX4_passStiff_81 rfl hl (by decide) rfl (fun ls hl => ?_)
  refine lv_iload_n (pc := 82) hx hb dX4_passStiff_82 rfl (lv_at hl 0 rfl) ?_
  refine lv_iconst (v := (-1)) (pc := 83) hx hb dX4_passStiff_83 (by decide) ?_
  refine lv_icmp_ne (tgt := 89) (pc := 84) hx hb dX4_passStiff_84 (by decide) (fun hc => ?_) (fun hc => ?_)
  · have hf := gif_n hc hf
    refine lv_iload_n (pc := 89) hx hb dX4_passStiff_89 rfl (lv_at hl 2 rfl) ?_
    refine lv_iconst (v := 1) (pc := 90) hx hb dX4_passStiff_90 (by decide) ?_
    refine lv_iload_n (pc := 91) hx hb dX4_passStiff_91 rfl (lv_at hl 0 rfl) ?_
    refine lv_ishl (pc := 92) hx hb dX4_passStiff_92 ?_
    refine lv_ior (pc := 93) hx hb dX4_passStiff_93 ?_
    refine lv_topi (pc := 94) (fun x94 ex94 => ?_)
    have hf := gl_s ex94 hf
    refine lv_istore_n (lv' := [(1, .int x94), (3, .int q74_1.1), (0, .ref (ad 3)), (2, .int l2)]) (pc := 94) hx hb dX4_passStiff_94 rfl hl (by decide) rfl (fun ls hl => ?_)
    refine lv_iinc (v := l2 + 1) (lv' := [(2, .int (l2 + 1)), (1, .int x94), (3, .int q74_1.1), (0, .ref (ad 3))]) (k := 3) (pc := 95) hx hb dX4_passStiff_95 hl rfl rfl (by decide) rfl (fun ls hl => ?_)
    refine lv_goto (tgt := 4) (pc := 98) hx hb dX4_passStiff_98 (by decide) ?_
    exact hk4 hf hH hS (lv_sub hl [3, 1, 0] rfl)
  · have hf := gif_p hc hf
    refine lv_iconst (v := (-1)) (pc := 87) hx hb dX4_passStiff_87 (by decide) ?_
    exact g_iret (pc := 88) hC hret hlk hH hS hf dX4_passStiff_88
def fX4_passStiff_4  (k4 : Int32 → Int32 → gS → Option (Int32 × gS)) (l1 : Int32) (l2 : Int32) (st : gS) : Option (Int32 × gS) :=
  if 10 < l2 then (some (l1, st)) else (if (st.1 19 2) = 3 then ((fX7_step st).bind fun q4_1 => (if (q4_1.1 19 2) = 20 then (if 10 ≤ (q4_1.1 19 4) then (fX4_passStiff_74 k4 l1 l2 q4_1) else (if ((l1 >>> ((q4_1.1 19 4) &&& 31)) &&& 1) = 0 then (fX4_passStiff_74 k4 l1 l2 q4_1) else ((fX4_refuse 3 q4_1).bind fun q4_2 => (some ((-1), q4_2.2))))) else (fX4_passStiff_74 k4 l1 l2 q4_1))) else (some (l1, st)))
set_option maxRecDepth 100000 in
set_option maxHeartbeats 4000000 in
theorem bX4_passStiff_4  (hC : CallFix p m c cX4_passStiff 4 s args lw_good RX4) (hret : meth.sig.returnType = (some .int)) (hlk : meth.locks = false) (hU : gU 0 D cA ad s)  {r : Int32} {st' : gS} {k4 : Int32 → Int32 → gS → Option (Int32 × gS)} (hk4 : ∀ {l1 : Int32} {l2 : Int32} {st : gS} {H : Heap} {locs : List Loc} {ls : Array Slot}, k4 l1 l2 st = some (r, st') → gP0 0 D cA ad st H → va_S (gA 0 ad) s.heap H locs → lv_has ls 4 [(0, .ref (ad 3)), (1, .int l1), (2, .int l2)] → W p l e (gRm 7) s m args below meth c H locs 0 0 (MQ below (gQc 0 D cA ad st' (some (.int r))) args s 0 0 (gA 0 ad)) (F0 m 4 ls [])) {l1 : Int32} {l2 : Int32} {st : gS} {H : Heap} {locs : List Loc} {ls : Array Slot} (hf : fX4_passStiff_4 k4 l1 l2 st = some (r, st')) (hH : gP0 0 D cA ad st H) (hS : va_S (gA 0 ad) s.heap H locs) (hl : lv_has ls 4 [(0, .ref (ad 3)), (1, .int l1), (2, .int l2)]) : W p l e (gRm 7) s m args below meth c H locs 0 0 (MQ below (gQc 0 D cA ad st' (some (.int r))) args s 0 0 (gA 0 ad)) (F0 m 4 ls []) := by
  obtain ⟨hx, hb, hml, hown, hts⟩ := id hC
  unfold fX4_passStiff_4 at hf
  refine lv_iload_n (pc := 4) hx hb dX4_passStiff_4 rfl (lv_at hl 2 rfl) ?_
  refine lv_bipush (v := 10) (pc := 5) hx hb dX4_passStiff_5 (by decide) ?_
  refine lv_icmp_gt (tgt := 101) (pc := 7) hx hb dX4_passStiff_7 (by decide) (fun hc => ?_) (fun hc => ?_)
  · have hf := gif_p hc hf
    refine lv_iload_n (pc := 101) hx hb dX4_passStiff_101 rfl (lv_at hl 1 rfl) ?_
    exact g_iret (pc := 102) hC hret hlk hH hS hf dX4_passStiff_102
  · have hf := gif_n hc hf
    refine lv_aload_n (pc := 10) hx hb dX4_passStiff_10 rfl (lv_at hl 0 rfl) ?_
    refine g_get (pc := 11) (v := .ref (ad 19)) hC hU hH gk0_3 g_cl4 0 (by decide) kf_X4_40 rfl dX4_passStiff_11 ?_
    refine g_get (pc := 14) (v := .int (st.1 19 2)) hC hU hH gk0_19 g_cl7 2 (by decide) kf_X4_53 rfl dX4_passStiff_14 ?_
    refine lv_iconst (v := 3) (pc := 17) hx hb dX4_passStiff_17 (by decide) ?_
    refine lv_icmp_ne (tgt := 101) (pc := 18) hx hb dX4_passStiff_18 (by decide) (fun hc => ?_) (fun hc => ?_)
    · have hf := gif_n hc hf
      refine lv_iload_n (pc := 101) hx hb dX4_passStiff_101 rfl (lv_at hl 1 rfl) ?_
      exact g_iret (pc := 102) hC hret hlk hH hS hf dX4_passStiff_102
    · have hf := gif_p hc hf
      refine lv_aload_n (pc := 21) hx hb dX4_passStiff_21 rfl (lv_at hl 0 rfl) ?_
      refine g_get (pc := 22) (v := .ref (ad 19)) hC hU hH gk0_3 g_cl4 0 (by decide) kf_X4_40 rfl dX4_passStiff_22 ?_
      obtain ⟨q4_1, hq4_1, hf⟩ := gbd hf
      refine g_callVv (pc := 25) (rest := []) hC hU hH hS hl.1 gk0_19 rfl (by decide) (mX7_step  hq4_1) ky_X7_step km_X4_83 ⟨Nat.le_of_ble_eq_true rfl, Nat.le_of_ble_eq_true rfl⟩ ⟨Nat.zero_le _, Nat.zero_le _⟩ rfl (Nat.le_of_ble_eq_true rfl) dX4_passStiff_25 rfl (fun H locs hH hS => ?_)
      refine lv_aload_n (pc := 28) hx hb dX4_passStiff_28 rfl (lv_at hl 0 rfl) ?_
      refine g_get (pc := 29) (v := .ref (ad 19)) hC hU hH gk0_3 g_cl4 0 (by decide) kf_X4_40 rfl dX4_passStiff_29 ?_
      refine g_get (pc := 32) (v := .int (q4_1.1 19 2)) hC hU hH gk0_19 g_cl7 2 (by decide) kf_X4_53 rfl dX4_passStiff_32 ?_
      refine lv_bipush (v := 20) (pc := 35) hx hb dX4_passStiff_35 (by decide) ?_
      refine lv_icmp_ne (tgt := 74) (pc := 37) hx hb dX4_passStiff_37 (by decide) (fun hc => ?_) (fun hc => ?_)
      · have hf := gif_n hc hf
        exact bX4_passStiff_74 hC hret hlk hU hk4 hf hH hS (lv_sub hl [0, 1, 2] rfl)
      · have hf := gif_p hc hf
        refine lv_aload_n (pc := 40) hx hb dX4_passStiff_40 rfl (lv_at hl 0 rfl) ?_
        refine g_get (pc := 41) (v := .ref (ad 19)) hC hU hH gk0_3 g_cl4 0 (by decide) kf_X4_40 rfl dX4_passStiff_41 ?_
        refine g_get (pc := 44) (v := .int (q4_1.1 19 4)) hC hU hH gk0_19 g_cl7 4 (by decide) kf_X4_86 rfl dX4_passStiff_44 ?_
        refine lv_bipush (v := 10) (pc := 47) hx hb dX4_passStiff_47 (by decide) ?_
        refine lv_icmp_ge (tgt := 74) (pc := 49) hx hb dX4_passStiff_49 (by decide) (fun hc => ?_) (fun hc => ?_)
        · have hf := gif_p hc hf
          exact bX4_passStiff_74 hC hret hlk hU hk4 hf hH hS (lv_sub hl [0, 1, 2] rfl)
        · have hf := gif_n hc hf
          refine lv_iload_n (pc := 52) hx hb dX4_passStiff_52 rfl (lv_at hl 1 rfl) ?_
          refine lv_aload_n (pc := 53) hx hb dX4_passStiff_53 rfl (lv_at hl 0 rfl) ?_
          refine g_get (pc := 54) (v := .ref (ad 19)) hC hU hH gk0_3 g_cl4 0 (by decide) kf_X4_40 rfl dX4_passStiff_54 ?_
          refine g_get (pc := 57) (v := .int (q4_1.1 19 4)) hC hU hH gk0_19 g_cl7 4 (by decide) kf_X4_86 rfl dX4_passStiff_57 ?_
          refine lv_ishr (pc := 60) hx hb dX4_passStiff_60 ?_
          refine lv_iconst (v := 1) (pc := 61) hx hb dX4_passStiff_61 (by decide) ?_
          refine lv_iand (pc := 62) hx hb dX4_passStiff_62 ?_
          refine lv_if_eq (tgt := 74) (pc := 63) hx hb dX4_passStiff_63 (by decide) (fun hc => ?_) (fun hc => ?_)
          · have hf := gif_p hc hf
            exact bX4_passStiff_74 hC hret hlk hU hk4 hf hH hS (lv_sub hl [0, 1, 2] rfl)
          · have hf := gif_n hc hf
            refine lv_aload_n (pc := 66) hx hb dX4_passStiff_66 rfl (lv_at hl 0 rfl) ?_
            refine lv_iconst (v := 3) (pc := 67) hx hb dX4_passStiff_67 (by decide) ?_
            obtain ⟨q4_2, hq4_2, hf⟩ := gbd hf
            refine g_callVi (pc := 68) (rest := []) hC hU hH hS hl.1 gk0_3 rfl (by decide) (mX4_refuse  hq4_2) ky_X4_refuse km_X4_79 ⟨Nat.le_of_ble_eq_true rfl, Nat.le_of_ble_eq_true rfl⟩ ⟨Nat.zero_le _, Nat.zero_le _⟩ rfl (Nat.le_of_ble_eq_true rfl) dX4_passStiff_68 rfl (fun H locs hH hS => ?_)
            refine lv_pop (pc := 71) hx hb dX4_passStiff_71 rfl ?_
            refine lv_iconst (v := (-1)) (pc := 72) hx hb dX4_passStiff_72 (by decide) ?_
            exact g_iret (pc := 73) hC hret hlk hH hS hf dX4_passStiff_73
def hX4_passStiff_4   : Nat → Int32 → Int32 → gS → Option (Int32 × gS)
  | 0 => fun _ _ _ => none
  | n + 1 => fun l1 l2 st => fX4_passStiff_4 (hX4_passStiff_4  n) l1 l2 st
set_option maxRecDepth 100000 in
set_option maxHeartbeats 4000000 in
theorem wX4_passStiff_4  (hC : CallFix p m c cX4_passStiff 4 s args lw_good RX4) (hret : meth.sig.returnType = (some .int)) (hlk : meth.locks = false) (hU : gU 0 D cA ad s)  {r : Int32} {st' : gS}  : ∀ (n : Nat) {l1 : Int32} {l2 : Int32} {st : gS} {H : Heap} {locs : List Loc} {ls : Array Slot}, hX4_passStiff_4  n l1 l2 st = some (r, st') → gP0 0 D cA ad st H → va_S (gA 0 ad) s.heap H locs → lv_has ls 4 [(0, .ref (ad 3)), (1, .int l1), (2, .int l2)] → W p l e (gRm 7) s m args below meth c H locs 0 0 (MQ below (gQc 0 D cA ad st' (some (.int r))) args s 0 0 (gA 0 ad)) (F0 m 4 ls []) := by
  intro n
  induction n with
  | zero => intro l1 l2 st H locs ls hf hH hS hl; cases hf
  | succ n ih =>
    intro l1 l2 st H locs ls hf hH hS hl
    exact bX4_passStiff_4  hC hret hlk hU (fun hf hH hS hl => ih hf hH hS hl) hf hH hS hl
def fX4_passStiff    (st : gS) : Option (Int32 × gS) :=
  hX4_passStiff_4 FU 0 0 st
set_option maxRecDepth 100000 in
set_option maxHeartbeats 4000000 in
theorem bX4_passStiff_0  (hC : CallFix p m c cX4_passStiff 4 s args lw_good RX4) (hret : meth.sig.returnType = (some .int)) (hlk : meth.locks = false) (hU : gU 0 D cA ad s)  {r : Int32} {st' : gS}   {st : gS} {H : Heap} {locs : List Loc} {ls : Array Slot} (hf : fX4_passStiff st = some (r, st')) (hH : gP0 0 D cA ad st H) (hS : va_S (gA 0 ad) s.heap H locs) (hl : lv_has ls 4 [(0, .ref (ad 3))]) : W p l e (gRm 7) s m args below meth c H locs 0 0 (MQ below (gQc 0 D cA ad st' (some (.int r))) args s 0 0 (gA 0 ad)) (F0 m 0 ls []) := by
  obtain ⟨hx, hb, hml, hown, hts⟩ := id hC
  unfold fX4_passStiff at hf
  refine lv_iconst (v := 0) (pc := 0) hx hb dX4_passStiff_0 (by decide) ?_
  refine lv_istore_n (lv' := [(1, .int 0), (0, .ref (ad 3))]) (pc := 1) hx hb dX4_passStiff_1 rfl hl (by decide) rfl (fun ls hl => ?_)
  refine lv_iconst (v := 0) (pc := 2) hx hb dX4_passStiff_2 (by decide) ?_
  refine lv_istore_n (lv' := [(2, .int 0), (1, .int 0), (0, .ref (ad 3))]) (pc := 3) hx hb dX4_passStiff_3 rfl hl (by decide) rfl (fun ls hl => ?_)
  exact wX4_passStiff_4 hC hret hlk hU FU hf hH hS (lv_sub hl [2, 1, 0] rfl)
set_option maxRecDepth 100000 in
set_option maxHeartbeats 4000000 in
theorem mX4_passStiff {l : Launch} {D : va_G} {cA : Nat → ClassId} {ad : Nat → Nat}   {r : Int32} {st st' : gS} (hf : fX4_passStiff  st = some (r, st')) : gM l yX4_passStiff cX4_passStiff 4 (some .int) 7 0 D cA ad st [.ref (ad 3)] (some (.int r)) st' := by
  refine g_met (by decide) (Nat.le_of_ble_eq_true rfl) ?_
  intro p e s m args below meth c ls hC hret hlk hU hH hl
  exact bX4_passStiff_0 hC hret hlk hU hf hH va_S.rf hl
def fX8_addTribe_59 (t : Nat) (a1 : Int64) (a3 : Int32) (a4 : Int32) (a5 : Int32)  (s0 : Int32) (s1 : Int32) (st : gS) : Option (gS) :=
  some (wi (wi st t 15 (s1 ||| s0)) t 13 (((wi st t 15 (s1 ||| s0)).1 t 13) + 1))
set_option maxRecDepth 100000 in
set_option maxHeartbeats 4000000 in
theorem bX8_addTribe_59 {t : Nat} {a1 : Int64} {a3 : Int32} {a4 : Int32} {a5 : Int32} (hC : CallFix p m c cX8_addTribe 6 s args lw_good RX8) (hret : meth.sig.returnType = none) (hlk : meth.locks = false) (hU : gU 0 D cA ad s) (ht : gK 0 t = 8) {st' : gS}  {s0 : Int32} {s1 : Int32} {st : gS} {H : Heap} {locs : List Loc} {ls : Array Slot} (hf : fX8_addTribe_59 t a1 a3 a4 a5 s0 s1 st = some st') (hH : gP0 0 D cA ad st H) (hS : va_S (gA 0 ad) s.heap H locs) (hl : lv_has ls 6 [(0, .ref (ad t))]) : W p l e (gRm 1) s m args below meth c H locs 0 0 (MQ below (gQc 0 D cA ad st' none) args s 0 0 (gA 0 ad)) (F0 m 59 ls [.int s0, .int s1, .ref (ad t)]) := by
  obtain ⟨hx, hb, hml, hown, hts⟩ := id hC
  unfold fX8_addTribe_59 at hf
  refine lv_ior (pc := 59) hx hb dX8_addTribe_59 ?_
  refine g_puti (pc := 60) hC hU hH hS ht g_cl8 15 (by decide) kf_X8_63 rfl rfl rfl rfl dX8_addTribe_60 (fun H locs hH hS => ?_)
  refine lv_aload_n (pc := 63) hx hb dX8_addTribe_63 rfl (lv_at hl 0 rfl) ?_
  refine lv_dup (pc := 64) hx hb dX8_addTribe_64 rfl ?_
  refine g_get (pc := 65) (v := .int ((wi st t 15 (s1 ||| s0)).1 t 13)) hC hU hH ht g_cl8 13 (by decide) kf_X8_57 rfl dX8_addTribe_65 ?_
  refine lv_iconst (v := 1) (pc := 68) hx hb dX8_addTribe_68 (by decide) ?_
  refine lv_iadd (pc := 69) hx hb dX8_addTribe_69 ?_
  refine g_puti (pc := 70) hC hU hH hS ht g_cl8 13 (by decide) kf_X8_57 rfl rfl rfl rfl dX8_addTribe_70 (fun H locs hH hS => ?_)
  exact g_vret (pc := 73) hC hret hlk hH hS hf dX8_addTribe_73
def fX8_addTribe (t : Nat) (a1 : Int64) (a3 : Int32) (a4 : Int32) (a5 : Int32)   (st : gS) : Option (gS) :=
  if 5 ≤ (st.1 t 13) then (some st) else (gc (gI (st.1 t 13) 5) (gc (gI ((wl st (t + 1 + 1) (st.1 t 13).toNatClampNeg a1).1 t 13) 5) (gc (gI ((wi (wl st (t + 1 + 1) (st.1 t 13).toNatClampNeg a1) (t + 1 + 2) ((wl st (t + 1 + 1) (st.1 t 13).toNatClampNeg a1).1 t 13).toNatClampNeg a3).1 t 13) 5) (if a5 = 0 then (fX8_addTribe_59 t a1 a3 a4 a5 0 ((wi (wi (wl st (t + 1 + 1) (st.1 t 13).toNatClampNeg a1) (t + 1 + 2) ((wl st (t + 1 + 1) (st.1 t 13).toNatClampNeg a1).1 t 13).toNatClampNeg a3) (t + 1 + 3) ((wi (wl st (t + 1 + 1) (st.1 t 13).toNatClampNeg a1) (t + 1 + 2) ((wl st (t + 1 + 1) (st.1 t 13).toNatClampNeg a1).1 t 13).toNatClampNeg a3).1 t 13).toNatClampNeg a4).1 t 15) (wi (wi (wl st (t + 1 + 1) (st.1 t 13).toNatClampNeg a1) (t + 1 + 2) ((wl st (t + 1 + 1) (st.1 t 13).toNatClampNeg a1).1 t 13).toNatClampNeg a3) (t + 1 + 3) ((wi (wl st (t + 1 + 1) (st.1 t 13).toNatClampNeg a1) (t + 1 + 2) ((wl st (t + 1 + 1) (st.1 t 13).toNatClampNeg a1).1 t 13).toNatClampNeg a3).1 t 13).toNatClampNeg a4)) else (fX8_addTribe_59 t a1 a3 a4 a5 (1 <<< (((wi (wi (wl st (t + 1 + 1) (st.1 t 13).toNatClampNeg a1) (t + 1 + 2) ((wl st (t + 1 + 1) (st.1 t 13).toNatClampNeg a1).1 t 13).toNatClampNeg a3) (t + 1 + 3) ((wi (wl st (t + 1 + 1) (st.1 t 13).toNatClampNeg a1) (t + 1 + 2) ((wl st (t + 1 + 1) (st.1 t 13).toNatClampNeg a1).1 t 13).toNatClampNeg a3).1 t 13).toNatClampNeg a4).1 t 13) &&& 31)) ((wi (wi (wl st (t + 1 + 1) (st.1 t 13).toNatClampNeg a1) (t + 1 + 2) ((wl st (t + 1 + 1) (st.1 t 13).toNatClampNeg a1).1 t 13).toNatClampNeg a3) (t + 1 + 3) ((wi (wl st (t + 1 + 1) (st.1 t 13).toNatClampNeg a1) (t + 1 + 2) ((wl st (t + 1 + 1) (st.1 t 13).toNatClampNeg a1).1 t 13).toNatClampNeg a3).1 t 13).toNatClampNeg a4).1 t 15) (wi (wi (wl st (t + 1 + 1) (st.1 t 13).toNatClampNeg a1) (t + 1 + 2) ((wl st (t + 1 + 1) (st.1 t 13).toNatClampNeg a1).1 t 13).toNatClampNeg a3) (t + 1 + 3) ((wi (wl st (t + 1 + 1) (st.1 t 13).toNatClampNeg a1) (t + 1 + 2) ((wl st (t + 1 + 1) (st.1 t 13).toNatClampNeg a1).1 t 13).toNatClampNeg a3).1 t 13).toNatClampNeg a4))))))
set_option maxRecDepth 100000 in
set_option maxHeartbeats 4000000 in
theorem bX8_addTribe_0 {t : Nat} {a1 : Int64} {a3 : Int32} {a4 : Int32} {a5 : Int32} (hC : CallFix p m c cX8_addTribe 6 s args lw_good RX8) (hret : meth.sig.returnType = none) (hlk : meth.locks = false) (hU : gU 0 D cA ad s) (ht : gK 0 t = 8) {st' : gS}   {st : gS} {H : Heap} {locs : List Loc} {ls : Array Slot} (hf : fX8_addTribe t a1 a3 a4 a5 st = some st') (hH : gP0 0 D cA ad st H) (hS : va_S (gA 0 ad) s.heap H locs) (hl : lv_has ls 6 [(0, .ref (ad t)), (1, .long a1), (3, .int a3), (4, .int a4), (5, .int a5)]) : W p l e (gRm 1) s m args below meth c H locs 0 0 (MQ below (gQc 0 D cA ad st' none) args s 0 0 (gA 0 ad)) (F0 m 0 ls []) := by
  obtain ⟨hx, hb, hml, hown, hts⟩ := id hC
  unfold fX8_addTribe at hf
  refine lv_aload_n (pc := 0) hx hb dX8_addTribe_0 rfl (lv_at hl 0 rfl) ?_
  refine g_get (pc := 1) (v := .int (st.1 t 13)) hC hU hH ht g_cl8 13 (by decide) kf_X8_57 rfl dX8_addTribe_1 ?_
  refine lv_iconst (v := 5) (pc := 4) hx hb dX8_addTribe_4 (by decide) ?_
  refine lv_icmp_ge (tgt := 73) (pc := 5) hx hb dX8_addTribe_5 (by decide) (fun hc => ?_) (fun hc => ?_)
  · have hf := gif_p hc hf
    exact g_vret (pc := 73) hC hret hlk hH hS hf dX8_addTribe_73
  · have hf := gif_n hc hf
    refine lv_aload_n (pc := 8) hx hb dX8_addTribe_8 rfl (lv_at hl 0 rfl) ?_
    refine g_get (pc := 9) (v := .ref (ad (t + 1 + 1))) hC hU hH ht g_cl8 1 (by decide) kf_X8_15 rfl dX8_addTribe_9 ?_
    refine lv_aload_n (pc := 12) hx hb dX8_addTribe_12 rfl (lv_at hl 0 rfl) ?_
    refine g_get (pc := 13) (v := .int (st.1 t 13)) hC hU hH ht g_cl8 13 (by decide) kf_X8_57 rfl dX8_addTribe_13 ?_
    refine lv_lload_n (pc := 16) hx hb dX8_addTribe_16 rfl (lv_at hl 1 rfl) ?_
    obtain ⟨h0_1, hf⟩ := gc_s hf
    refine g_last (pc := 17) hC hU hH hS (gk_8_1 ht) (gn_8_1 ht) h0_1 dX8_addTribe_17 (fun H locs hH hS => ?_)
    refine lv_aload_n (pc := 18) hx hb dX8_addTribe_18 rfl (lv_at hl 0 rfl) ?_
    refine g_get (pc := 19) (v := .ref (ad (t + 1 + 2))) hC hU hH ht g_cl8 2 (by decide) kf_X8_18 rfl dX8_addTribe_19 ?_
    refine lv_aload_n (pc := 22) hx hb dX8_addTribe_22 rfl (lv_at hl 0 rfl) ?_
    refine g_get (pc := 23) (v := .int ((wl st (t + 1 + 1) (st.1 t 13).toNatClampNeg a1).1 t 13)) hC hU hH ht g_cl8 13 (by decide) kf_X8_57 rfl dX8_addTribe_23 ?_
    refine lv_iload_n (pc := 26) hx hb dX8_addTribe_26 rfl (lv_at hl 2 rfl) ?_
    obtain ⟨h0_2, hf⟩ := gc_s hf
    refine g_iast (pc := 27) hC hU hH hS (gk_8_2 ht) (gn_8_2 ht) h0_2 dX8_addTribe_27 (fun H locs hH hS => ?_)
    refine lv_aload_n (pc := 28) hx hb dX8_addTribe_28 rfl (lv_at hl 0 rfl) ?_
    refine g_get (pc := 29) (v := .ref (ad (t + 1 + 3))) hC hU hH ht g_cl8 3 (by decide) kf_X8_22 rfl dX8_addTribe_29 ?_
    refine lv_aload_n (pc := 32) hx hb dX8_addTribe_32 rfl (lv_at hl 0 rfl) ?_
    refine g_get (pc := 33) (v := .int ((wi (wl st (t + 1 + 1) (st.1 t 13).toNatClampNeg a1) (t + 1 + 2) ((wl st (t + 1 + 1) (st.1 t 13).toNatClampNeg a1).1 t 13).toNatClampNeg a3).1 t 13)) hC hU hH ht g_cl8 13 (by decide) kf_X8_57 rfl dX8_addTribe_33 ?_
    refine lv_iload (pc := 36) hx hb dX8_addTribe_36 (lv_at hl 3 rfl) ?_
    obtain ⟨h0_3, hf⟩ := gc_s hf
    refine g_iast (pc := 38) hC hU hH hS (gk_8_3 ht) (gn_8_3 ht) h0_3 dX8_addTribe_38 (fun H locs hH hS => ?_)
    refine lv_aload_n (pc := 39) hx hb dX8_addTribe_39 rfl (lv_at hl 0 rfl) ?_
    refine lv_dup (pc := 40) hx hb dX8_addTribe_40 rfl ?_
    refine g_get (pc := 41) (v := .int ((wi (wi (wl st (t + 1 + 1) (st.1 t 13).toNatClampNeg a1) (t + 1 + 2) ((wl st (t + 1 + 1) (st.1 t 13).toNatClampNeg a1).1 t 13).toNatClampNeg a3) (t + 1 + 3) ((wi (wl st (t + 1 + 1) (st.1 t 13).toNatClampNeg a1) (t + 1 + 2) ((wl st (t + 1 + 1) (st.1 t 13).toNatClampNeg a1).1 t 13).toNatClampNeg a3).1 t 13).toNatClampNeg a4).1 t 15)) hC hU hH ht g_cl8 15 (by decide) kf_X8_63 rfl dX8_addTribe_41 ?_
    refine lv_iload (pc := 44) hx hb dX8_addTribe_44 (lv_at hl 4 rfl) ?_
    refine lv_if_eq (tgt := 58) (pc := 46) hx hb dX8_addTribe_46 (by decide) (fun hc => ?_) (fun hc => ?_)
    · have hf := gif_p hc hf
      refine lv_iconst (v := 0) (pc := 58) hx hb dX8_addTribe_58 (by decide) ?_
      exact bX8_addTribe_59 hC hret hlk hU ht hf hH hS (lv_sub hl [0] rfl)
    · have hf := gif_n hc hf
      refine lv_iconst (v := 1) (pc := 49) hx hb dX8_addTribe_49 (by decide) ?_
      refine lv_aload_n (pc := 50) hx hb dX8_addTribe_50 rfl (lv_at hl 0 rfl) ?_
      refine g_get (pc := 51) (v := .int ((wi (wi (wl st (t + 1 + 1) (st.1 t 13).toNatClampNeg a1) (t + 1 + 2) ((wl st (t + 1 + 1) (st.1 t 13).toNatClampNeg a1).1 t 13).toNatClampNeg a3) (t + 1 + 3) ((wi (wl st (t + 1 + 1) (st.1 t 13).toNatClampNeg a1) (t + 1 + 2) ((wl st (t + 1 + 1) (st.1 t 13).toNatClampNeg a1).1 t 13).toNatClampNeg a3).1 t 13).toNatClampNeg a4).1 t 13)) hC hU hH ht g_cl8 13 (by decide) kf_X8_57 rfl dX8_addTribe_51 ?_
      refine lv_ishl (pc := 54) hx hb dX8_addTribe_54 ?_
      refine lv_goto (tgt := 59) (pc := 55) hx hb dX8_addTribe_55 (by decide) ?_
      exact bX8_addTribe_59 hC hret hlk hU ht hf hH hS (lv_sub hl [0] rfl)
set_option maxRecDepth 100000 in
set_option maxHeartbeats 4000000 in
theorem mX8_addTribe {l : Launch} {D : va_G} {cA : Nat → ClassId} {ad : Nat → Nat} {t : Nat} {a1 : Int64} {a3 : Int32} {a4 : Int32} {a5 : Int32} (ht : gK 0 t = 8) {st st' : gS} (hf : fX8_addTribe t a1 a3 a4 a5 st = some st') : gM l yX8_addTribe cX8_addTribe 6 none 1 0 D cA ad st [.ref (ad t), .long a1, .int a3, .int a4, .int a5] none st' := by
  refine g_met (by decide) (Nat.le_of_ble_eq_true rfl) ?_
  intro p e s m args below meth c ls hC hret hlk hU hH hl
  exact bX8_addTribe_0 hC hret hlk hU ht hf hH va_S.rf hl
def fX4_readTribe_152   (l1 : Int64) (l3 : Int32) (l4 : Int32) (l5 : Int32) (st : gS) : Option (Int32 × gS) :=
  gc (gK 0 (st.2.2 3 1) = 8) ((fX8_addTribe (st.2.2 3 1) l1 l3 l4 l5 st).bind fun q152_1 => ((fX4_pass 59 q152_1).bind fun q152_2 => (gc (gB q152_2.1) (some (q152_2.1, q152_2.2)))))
set_option maxRecDepth 100000 in
set_option maxHeartbeats 4000000 in
theorem bX4_readTribe_152  (hC : CallFix p m c cX4_readTribe 6 s args lw_good RX4) (hret : meth.sig.returnType = (some .boolean)) (hlk : meth.locks = false) (hU : gU 0 D cA ad s)  {r : Int32} {st' : gS}  {l1 : Int64} {l3 : Int32} {l4 : Int32} {l5 : Int32} {st : gS} {H : Heap} {locs : List Loc} {ls : Array Slot} (hf : fX4_readTribe_152 l1 l3 l4 l5 st = some (r, st')) (hH : gP0 0 D cA ad st H) (hS : va_S (gA 0 ad) s.heap H locs) (hl : lv_has ls 6 [(0, .ref (ad 3)), (1, .long l1), (3, .int l3), (4, .int l4), (5, .int l5)]) : W p l e (gRm 8) s m args below meth c H locs 0 0 (MQ below (gQc 0 D cA ad st' (some (.int r))) args s 0 0 (gA 0 ad)) (F0 m 152 ls []) := by
  obtain ⟨hx, hb, hml, hown, hts⟩ := id hC
  unfold fX4_readTribe_152 at hf
  refine lv_aload_n (pc := 152) hx hb dX4_readTribe_152 rfl (lv_at hl 0 rfl) ?_
  refine g_get (pc := 153) (v := .ref (ad (st.2.2 3 1))) hC hU hH gk0_3 g_cl4 1 (by decide) kf_X4_12 rfl dX4_readTribe_153 ?_
  refine lv_lload_n (pc := 156) hx hb dX4_readTribe_156 rfl (lv_at hl 1 rfl) ?_
  refine lv_iload_n (pc := 157) hx hb dX4_readTribe_157 rfl (lv_at hl 2 rfl) ?_
  refine lv_iload (pc := 158) hx hb dX4_readTribe_158 (lv_at hl 3 rfl) ?_
  refine lv_iload (pc := 160) hx hb dX4_readTribe_160 (lv_at hl 4 rfl) ?_
  obtain ⟨h152_1, hf⟩ := gc_s hf
  obtain ⟨q152_1, hq152_1, hf⟩ := gbd hf
  refine g_callVv (pc := 162) (rest := []) hC hU hH hS hl.1 h152_1 rfl (by decide) (mX8_addTribe h152_1 hq152_1) ky_X8_addTribe km_X4_124 ⟨Nat.le_of_ble_eq_true rfl, Nat.le_of_ble_eq_true rfl⟩ ⟨Nat.zero_le _, Nat.zero_le _⟩ rfl (Nat.le_of_ble_eq_true rfl) dX4_readTribe_162 rfl (fun H locs hH hS => ?_)
  refine lv_aload_n (pc := 165) hx hb dX4_readTribe_165 rfl (lv_at hl 0 rfl) ?_
  refine lv_bipush (v := 59) (pc := 166) hx hb dX4_readTribe_166 (by decide) ?_
  obtain ⟨q152_2, hq152_2, hf⟩ := gbd hf
  refine g_callVi (pc := 168) (rest := []) hC hU hH hS hl.1 gk0_3 rfl (by decide) (mX4_pass  hq152_2) ky_X4_pass km_X4_111 ⟨Nat.le_of_ble_eq_true rfl, Nat.le_of_ble_eq_true rfl⟩ ⟨Nat.zero_le _, Nat.zero_le _⟩ rfl (Nat.le_of_ble_eq_true rfl) dX4_readTribe_168 rfl (fun H locs hH hS => ?_)
  obtain ⟨h152_2, hf⟩ := gc_s hf
  exact g_zret (pc := 171) hC hret hlk hH hS h152_2 hf dX4_readTribe_171
def fX4_readTribe_138   (l1 : Int64) (l3 : Int32) (l4 : Int32) (s0 : Int32) (st : gS) : Option (Int32 × gS) :=
  if s0 = 0 then (fX4_readTribe_152 l1 l3 l4 s0 st) else ((fX7_step st).bind fun q138_1 => (fX4_readTribe_152 l1 l3 l4 s0 q138_1))
set_option maxRecDepth 100000 in
set_option maxHeartbeats 4000000 in
theorem bX4_readTribe_138  (hC : CallFix p m c cX4_readTribe 6 s args lw_good RX4) (hret : meth.sig.returnType = (some .boolean)) (hlk : meth.locks = false) (hU : gU 0 D cA ad s)  {r : Int32} {st' : gS}  {l1 : Int64} {l3 : Int32} {l4 : Int32} {s0 : Int32} {st : gS} {H : Heap} {locs : List Loc} {ls : Array Slot} (hf : fX4_readTribe_138 l1 l3 l4 s0 st = some (r, st')) (hH : gP0 0 D cA ad st H) (hS : va_S (gA 0 ad) s.heap H locs) (hl : lv_has ls 6 [(0, .ref (ad 3)), (1, .long l1), (3, .int l3), (4, .int l4)]) : W p l e (gRm 8) s m args below meth c H locs 0 0 (MQ below (gQc 0 D cA ad st' (some (.int r))) args s 0 0 (gA 0 ad)) (F0 m 138 ls [.int s0]) := by
  obtain ⟨hx, hb, hml, hown, hts⟩ := id hC
  unfold fX4_readTribe_138 at hf
  refine lv_istore (lv' := [(5, .int s0), (0, .ref (ad 3)), (1, .long l1), (3, .int l3), (4, .int l4)]) (pc := 138) hx hb dX4_readTribe_138 hl (by decide) rfl (fun ls hl => ?_)
  refine lv_iload (pc := 140) hx hb dX4_readTribe_140 (lv_at hl 0 rfl) ?_
  refine lv_if_eq (tgt := 152) (pc := 142) hx hb dX4_readTribe_142 (by decide) (fun hc => ?_) (fun hc => ?_)
  · have hf := gif_p hc hf
    exact bX4_readTribe_152 hC hret hlk hU hf hH hS (lv_sub hl [1, 2, 3, 4, 0] rfl)
  · have hf := gif_n hc hf
    refine lv_aload_n (pc := 145) hx hb dX4_readTribe_145 rfl (lv_at hl 1 rfl) ?_
    refine g_get (pc := 146) (v := .ref (ad 19)) hC hU hH gk0_3 g_cl4 0 (by decide) kf_X4_40 rfl dX4_readTribe_146 ?_
    obtain ⟨q138_1, hq138_1, hf⟩ := gbd hf
    refine g_callVv (pc := 149) (rest := []) hC hU hH hS hl.1 gk0_19 rfl (by decide) (mX7_step  hq138_1) ky_X7_step km_X4_83 ⟨Nat.le_of_ble_eq_true rfl, Nat.le_of_ble_eq_true rfl⟩ ⟨Nat.zero_le _, Nat.zero_le _⟩ rfl (Nat.le_of_ble_eq_true rfl) dX4_readTribe_149 rfl (fun H locs hH hS => ?_)
    exact bX4_readTribe_152 hC hret hlk hU hf hH hS (lv_sub hl [1, 2, 3, 4, 0] rfl)
def fX4_readTribe_112   (l1 : Int64) (l3 : Int32) (s0 : Int32) (st : gS) : Option (Int32 × gS) :=
  if s0 = (-1) then (some (0, st)) else (if (st.1 19 2) = 4 then (fX4_readTribe_138 l1 l3 s0 1 st) else (fX4_readTribe_138 l1 l3 s0 0 st))
set_option maxRecDepth 100000 in
set_option maxHeartbeats 4000000 in
theorem bX4_readTribe_112  (hC : CallFix p m c cX4_readTribe 6 s args lw_good RX4) (hret : meth.sig.returnType = (some .boolean)) (hlk : meth.locks = false) (hU : gU 0 D cA ad s)  {r : Int32} {st' : gS}  {l1 : Int64} {l3 : Int32} {s0 : Int32} {st : gS} {H : Heap} {locs : List Loc} {ls : Array Slot} (hf : fX4_readTribe_112 l1 l3 s0 st = some (r, st')) (hH : gP0 0 D cA ad st H) (hS : va_S (gA 0 ad) s.heap H locs) (hl : lv_has ls 6 [(0, .ref (ad 3)), (1, .long l1), (3, .int l3)]) : W p l e (gRm 8) s m args below meth c H locs 0 0 (MQ below (gQc 0 D cA ad st' (some (.int r))) args s 0 0 (gA 0 ad)) (F0 m 112 ls [.int s0]) := by
  obtain ⟨hx, hb, hml, hown, hts⟩ := id hC
  unfold fX4_readTribe_112 at hf
  refine lv_istore (lv' := [(4, .int s0), (0, .ref (ad 3)), (1, .long l1), (3, .int l3)]) (pc := 112) hx hb dX4_readTribe_112 hl (by decide) rfl (fun ls hl => ?_)
  refine lv_iload (pc := 114) hx hb dX4_readTribe_114 (lv_at hl 0 rfl) ?_
  refine lv_iconst (v := (-1)) (pc := 116) hx hb dX4_readTribe_116 (by decide) ?_
  refine lv_icmp_ne (tgt := 122) (pc := 117) hx hb dX4_readTribe_117 (by decide) (fun hc => ?_) (fun hc => ?_)
  · have hf := gif_n hc hf
    refine lv_aload_n (pc := 122) hx hb dX4_readTribe_122 rfl (lv_at hl 1 rfl) ?_
    refine g_get (pc := 123) (v := .ref (ad 19)) hC hU hH gk0_3 g_cl4 0 (by decide) kf_X4_40 rfl dX4_readTribe_123 ?_
    refine g_get (pc := 126) (v := .int (st.1 19 2)) hC hU hH gk0_19 g_cl7 2 (by decide) kf_X4_53 rfl dX4_readTribe_126 ?_
    refine lv_iconst (v := 4) (pc := 129) hx hb dX4_readTribe_129 (by decide) ?_
    refine lv_icmp_ne (tgt := 137) (pc := 130) hx hb dX4_readTribe_130 (by decide) (fun hc => ?_) (fun hc => ?_)
    · have hf := gif_n hc hf
      refine lv_iconst (v := 0) (pc := 137) hx hb dX4_readTribe_137 (by decide) ?_
      exact bX4_readTribe_138 hC hret hlk hU hf hH hS (lv_sub hl [1, 2, 3, 0] rfl)
    · have hf := gif_p hc hf
      refine lv_iconst (v := 1) (pc := 133) hx hb dX4_readTribe_133 (by decide) ?_
      refine lv_goto (tgt := 138) (pc := 134) hx hb dX4_readTribe_134 (by decide) ?_
      exact bX4_readTribe_138 hC hret hlk hU hf hH hS (lv_sub hl [1, 2, 3, 0] rfl)
  · have hf := gif_p hc hf
    refine lv_iconst (v := 0) (pc := 120) hx hb dX4_readTribe_120 (by decide) ?_
    exact g_zret (pc := 121) hC hret hlk hH hS (by decide) hf dX4_readTribe_121
def fX4_readTribe    (st : gS) : Option (Int32 × gS) :=
  gc (gK 0 (st.2.2 3 1) = 8) (if (st.1 (st.2.2 3 1) 13) < 5 then ((fX7_step st).bind fun q0_1 => (if (q0_1.1 19 2) = 19 then (gc (gK 0 (q0_1.2.2 3 1) = 8) ((fX8_tribeNamed (q0_1.2.2 3 1) (q0_1.2.1 19 5) q0_1).bind fun q0_2 => (if q0_2.1 = (-1) then (gl (q0_2.2.2.1 19 5) fun x73 => ((fX7_step q0_2.2).bind fun q0_3 => ((fX4_pass 2 q0_3).bind fun q0_4 => (if q0_4.1 = 0 then (some (0, q0_4.2)) else ((fX4_passNumber 0 9 q0_4.2).bind fun q0_5 => (if q0_5.1 = (-1) then (fX4_readTribe_112 x73 q0_5.1 (-1) q0_5.2) else ((fX4_passStiff q0_5.2).bind fun q0_6 => (fX4_readTribe_112 x73 q0_5.1 q0_6.1 q0_6.2)))))))) else ((fX4_refuse 3 q0_2.2).bind fun q0_7 => (gc (gB q0_7.1) (some (q0_7.1, q0_7.2))))))) else ((fX4_refuse 2 q0_1).bind fun q0_8 => (gc (gB q0_8.1) (some (q0_8.1, q0_8.2)))))) else ((fX4_refuse 2 st).bind fun q0_9 => (gc (gB q0_9.1) (some (q0_9.1, q0_9.2)))))
set_option maxRecDepth 100000 in
set_option maxHeartbeats 4000000 in
theorem bX4_readTribe_0  (hC : CallFix p m c cX4_readTribe 6 s args lw_good RX4) (hret : meth.sig.returnType = (some .boolean)) (hlk : meth.locks = false) (hU : gU 0 D cA ad s)  {r : Int32} {st' : gS}   {st : gS} {H : Heap} {locs : List Loc} {ls : Array Slot} (hf : fX4_readTribe st = some (r, st')) (hH : gP0 0 D cA ad st H) (hS : va_S (gA 0 ad) s.heap H locs) (hl : lv_has ls 6 [(0, .ref (ad 3))]) : W p l e (gRm 8) s m args below meth c H locs 0 0 (MQ below (gQc 0 D cA ad st' (some (.int r))) args s 0 0 (gA 0 ad)) (F0 m 0 ls []) := by
  obtain ⟨hx, hb, hml, hown, hts⟩ := id hC
  unfold fX4_readTribe at hf
  refine lv_aload_n (pc := 0) hx hb dX4_readTribe_0 rfl (lv_at hl 0 rfl) ?_
  refine g_get (pc := 1) (v := .ref (ad (st.2.2 3 1))) hC hU hH gk0_3 g_cl4 1 (by decide) kf_X4_12 rfl dX4_readTribe_1 ?_
  obtain ⟨h0_1, hf⟩ := gc_s hf
  refine g_get (pc := 4) (v := .int (st.1 (st.2.2 3 1) 13)) hC hU hH h0_1 g_cl8 13 (by decide) kf_X4_114 rfl dX4_readTribe_4 ?_
  refine lv_iconst (v := 5) (pc := 7) hx hb dX4_readTribe_7 (by decide) ?_
  refine lv_icmp_lt (tgt := 17) (pc := 8) hx hb dX4_readTribe_8 (by decide) (fun hc => ?_) (fun hc => ?_)
  · have hf := gif_p hc hf
    refine lv_aload_n (pc := 17) hx hb dX4_readTribe_17 rfl (lv_at hl 0 rfl) ?_
    refine g_get (pc := 18) (v := .ref (ad 19)) hC hU hH gk0_3 g_cl4 0 (by decide) kf_X4_40 rfl dX4_readTribe_18 ?_
    obtain ⟨q0_1, hq0_1, hf⟩ := gbd hf
    refine g_callVv (pc := 21) (rest := []) hC hU hH hS hl.1 gk0_19 rfl (by decide) (mX7_step  hq0_1) ky_X7_step km_X4_83 ⟨Nat.le_of_ble_eq_true rfl, Nat.le_of_ble_eq_true rfl⟩ ⟨Nat.zero_le _, Nat.zero_le _⟩ rfl (Nat.le_of_ble_eq_true rfl) dX4_readTribe_21 rfl (fun H locs hH hS => ?_)
    refine lv_aload_n (pc := 24) hx hb dX4_readTribe_24 rfl (lv_at hl 0 rfl) ?_
    refine g_get (pc := 25) (v := .ref (ad 19)) hC hU hH gk0_3 g_cl4 0 (by decide) kf_X4_40 rfl dX4_readTribe_25 ?_
    refine g_get (pc := 28) (v := .int (q0_1.1 19 2)) hC hU hH gk0_19 g_cl7 2 (by decide) kf_X4_53 rfl dX4_readTribe_28 ?_
    refine lv_bipush (v := 19) (pc := 31) hx hb dX4_readTribe_31 (by decide) ?_
    refine lv_icmp_eq (tgt := 42) (pc := 33) hx hb dX4_readTribe_33 (by decide) (fun hc => ?_) (fun hc => ?_)
    · have hf := gif_p hc hf
      refine lv_aload_n (pc := 42) hx hb dX4_readTribe_42 rfl (lv_at hl 0 rfl) ?_
      refine g_get (pc := 43) (v := .ref (ad (q0_1.2.2 3 1))) hC hU hH gk0_3 g_cl4 1 (by decide) kf_X4_12 rfl dX4_readTribe_43 ?_
      refine lv_aload_n (pc := 46) hx hb dX4_readTribe_46 rfl (lv_at hl 0 rfl) ?_
      refine g_get (pc := 47) (v := .ref (ad 19)) hC hU hH gk0_3 g_cl4 0 (by decide) kf_X4_40 rfl dX4_readTribe_47 ?_
      refine g_get (pc := 50) (v := .long (q0_1.2.1 19 5)) hC hU hH gk0_19 g_cl7 5 (by decide) kf_X4_89 rfl dX4_readTribe_50 ?_
      obtain ⟨h0_2, hf⟩ := gc_s hf
      obtain ⟨q0_2, hq0_2, hf⟩ := gbd hf
      refine g_callVi (pc := 53) (rest := []) hC hU hH hS hl.1 h0_2 rfl (by decide) (mX8_tribeNamed h0_2 hq0_2) ky_X8_tribeNamed km_X4_101 ⟨Nat.le_of_ble_eq_true rfl, Nat.le_of_ble_eq_true rfl⟩ ⟨Nat.zero_le _, Nat.zero_le _⟩ rfl (Nat.le_of_ble_eq_true rfl) dX4_readTribe_53 rfl (fun H locs hH hS => ?_)
      refine lv_iconst (v := (-1)) (pc := 56) hx hb dX4_readTribe_56 (by decide) ?_
      refine lv_icmp_eq (tgt := 66) (pc := 57) hx hb dX4_readTribe_57 (by decide) (fun hc => ?_) (fun hc => ?_)
      · have hf := gif_p hc hf
        refine lv_aload_n (pc := 66) hx hb dX4_readTribe_66 rfl (lv_at hl 0 rfl) ?_
        refine g_get (pc := 67) (v := .ref (ad 19)) hC hU hH gk0_3 g_cl4 0 (by decide) kf_X4_40 rfl dX4_readTribe_67 ?_
        refine g_get (pc := 70) (v := .long (q0_2.2.2.1 19 5)) hC hU hH gk0_19 g_cl7 5 (by decide) kf_X4_89 rfl dX4_readTribe_70 ?_
        refine lv_topl (pc := 73) (fun x73 ex73 => ?_)
        have hf := gl_s ex73 hf
        refine lv_lstore_n (lv' := [(1, .long x73), (0, .ref (ad 3))]) (pc := 73) hx hb dX4_readTribe_73 rfl hl (by decide) rfl (fun ls hl => ?_)
        refine lv_aload_n (pc := 74) hx hb dX4_readTribe_74 rfl (lv_at hl 1 rfl) ?_
        refine g_get (pc := 75) (v := .ref (ad 19)) hC hU hH gk0_3 g_cl4 0 (by decide) kf_X4_40 rfl dX4_readTribe_75 ?_
        obtain ⟨q0_3, hq0_3, hf⟩ := gbd hf
        refine g_callVv (pc := 78) (rest := []) hC hU hH hS hl.1 gk0_19 rfl (by decide) (mX7_step  hq0_3) ky_X7_step km_X4_83 ⟨Nat.le_of_ble_eq_true rfl, Nat.le_of_ble_eq_true rfl⟩ ⟨Nat.zero_le _, Nat.zero_le _⟩ rfl (Nat.le_of_ble_eq_true rfl) dX4_readTribe_78 rfl (fun H locs hH hS => ?_)
        refine lv_aload_n (pc := 81) hx hb dX4_readTribe_81 rfl (lv_at hl 1 rfl) ?_
        refine lv_iconst (v := 2) (pc := 82) hx hb dX4_readTribe_82 (by decide) ?_
        obtain ⟨q0_4, hq0_4, hf⟩ := gbd hf
        refine g_callVi (pc := 83) (rest := []) hC hU hH hS hl.1 gk0_3 rfl (by decide) (mX4_pass  hq0_4) ky_X4_pass km_X4_111 ⟨Nat.le_of_ble_eq_true rfl, Nat.le_of_ble_eq_true rfl⟩ ⟨Nat.zero_le _, Nat.zero_le _⟩ rfl (Nat.le_of_ble_eq_true rfl) dX4_readTribe_83 rfl (fun H locs hH hS => ?_)
        refine lv_if_ne (tgt := 91) (pc := 86) hx hb dX4_readTribe_86 (by decide) (fun hc => ?_) (fun hc => ?_)
        · have hf := gif_n hc hf
          refine lv_aload_n (pc := 91) hx hb dX4_readTribe_91 rfl (lv_at hl 1 rfl) ?_
          refine lv_iconst (v := 0) (pc := 92) hx hb dX4_readTribe_92 (by decide) ?_
          refine lv_bipush (v := 9) (pc := 93) hx hb dX4_readTribe_93 (by decide) ?_
          obtain ⟨q0_5, hq0_5, hf⟩ := gbd hf
          refine g_callVi (pc := 95) (rest := []) hC hU hH hS hl.1 gk0_3 rfl (by decide) (mX4_passNumber  hq0_5) ky_X4_passNumber km_X4_117 ⟨Nat.le_of_ble_eq_true rfl, Nat.le_of_ble_eq_true rfl⟩ ⟨Nat.zero_le _, Nat.zero_le _⟩ rfl (Nat.le_of_ble_eq_true rfl) dX4_readTribe_95 rfl (fun H locs hH hS => ?_)
          refine lv_istore_n (lv' := [(3, .int q0_5.1), (1, .long x73), (0, .ref (ad 3))]) (pc := 98) hx hb dX4_readTribe_98 rfl hl (by decide) rfl (fun ls hl => ?_)
          refine lv_iload_n (pc := 99) hx hb dX4_readTribe_99 rfl (lv_at hl 0 rfl) ?_
          refine lv_iconst (v := (-1)) (pc := 100) hx hb dX4_readTribe_100 (by decide) ?_
          refine lv_icmp_ne (tgt := 108) (pc := 101) hx hb dX4_readTribe_101 (by decide) (fun hc => ?_) (fun hc => ?_)
          · have hf := gif_n hc hf
            refine lv_aload_n (pc := 108) hx hb dX4_readTribe_108 rfl (lv_at hl 2 rfl) ?_
            obtain ⟨q0_6, hq0_6, hf⟩ := gbd hf
            refine g_callVi (pc := 109) (rest := []) hC hU hH hS hl.1 gk0_3 rfl (by decide) (mX4_passStiff  hq0_6) ky_X4_passStiff km_X4_121 ⟨Nat.le_of_ble_eq_true rfl, Nat.le_of_ble_eq_true rfl⟩ ⟨Nat.zero_le _, Nat.zero_le _⟩ rfl (Nat.le_of_ble_eq_true rfl) dX4_readTribe_109 rfl (fun H locs hH hS => ?_)
            exact bX4_readTribe_112 hC hret hlk hU hf hH hS (lv_sub hl [2, 1, 0] rfl)
          · have hf := gif_p hc hf
            refine lv_iconst (v := (-1)) (pc := 104) hx hb dX4_readTribe_104 (by decide) ?_
            refine lv_goto (tgt := 112) (pc := 105) hx hb dX4_readTribe_105 (by decide) ?_
            exact bX4_readTribe_112 hC hret hlk hU hf hH hS (lv_sub hl [2, 1, 0] rfl)
        · have hf := gif_p hc hf
          refine lv_iconst (v := 0) (pc := 89) hx hb dX4_readTribe_89 (by decide) ?_
          exact g_zret (pc := 90) hC hret hlk hH hS (by decide) hf dX4_readTribe_90
      · have hf := gif_n hc hf
        refine lv_aload_n (pc := 60) hx hb dX4_readTribe_60 rfl (lv_at hl 0 rfl) ?_
        refine lv_iconst (v := 3) (pc := 61) hx hb dX4_readTribe_61 (by decide) ?_
        obtain ⟨q0_7, hq0_7, hf⟩ := gbd hf
        refine g_callVi (pc := 62) (rest := []) hC hU hH hS hl.1 gk0_3 rfl (by decide) (mX4_refuse  hq0_7) ky_X4_refuse km_X4_79 ⟨Nat.le_of_ble_eq_true rfl, Nat.le_of_ble_eq_true rfl⟩ ⟨Nat.zero_le _, Nat.zero_le _⟩ rfl (Nat.le_of_ble_eq_true rfl) dX4_readTribe_62 rfl (fun H locs hH hS => ?_)
        obtain ⟨h0_3, hf⟩ := gc_s hf
        exact g_zret (pc := 65) hC hret hlk hH hS h0_3 hf dX4_readTribe_65
    · have hf := gif_n hc hf
      refine lv_aload_n (pc := 36) hx hb dX4_readTribe_36 rfl (lv_at hl 0 rfl) ?_
      refine lv_iconst (v := 2) (pc := 37) hx hb dX4_readTribe_37 (by decide) ?_
      obtain ⟨q0_8, hq0_8, hf⟩ := gbd hf
      refine g_callVi (pc := 38) (rest := []) hC hU hH hS hl.1 gk0_3 rfl (by decide) (mX4_refuse  hq0_8) ky_X4_refuse km_X4_79 ⟨Nat.le_of_ble_eq_true rfl, Nat.le_of_ble_eq_true rfl⟩ ⟨Nat.zero_le _, Nat.zero_le _⟩ rfl (Nat.le_of_ble_eq_true rfl) dX4_readTribe_38 rfl (fun H locs hH hS => ?_)
      obtain ⟨h0_4, hf⟩ := gc_s hf
      exact g_zret (pc := 41) hC hret hlk hH hS h0_4 hf dX4_readTribe_41
  · have hf := gif_n hc hf
    refine lv_aload_n (pc := 11) hx hb dX4_readTribe_11 rfl (lv_at hl 0 rfl) ?_
    refine lv_iconst (v := 2) (pc := 12) hx hb dX4_readTribe_12 (by decide) ?_
    obtain ⟨q0_9, hq0_9, hf⟩ := gbd hf
    refine g_callVi (pc := 13) (rest := []) hC hU hH hS hl.1 gk0_3 rfl (by decide) (mX4_refuse  hq0_9) ky_X4_refuse km_X4_79 ⟨Nat.le_of_ble_eq_true rfl, Nat.le_of_ble_eq_true rfl⟩ ⟨Nat.zero_le _, Nat.zero_le _⟩ rfl (Nat.le_of_ble_eq_true rfl) dX4_readTribe_13 rfl (fun H locs hH hS => ?_)
    obtain ⟨h0_5, hf⟩ := gc_s hf
    exact g_zret (pc := 16) hC hret hlk hH hS h0_5 hf dX4_readTribe_16
set_option maxRecDepth 100000 in
set_option maxHeartbeats 4000000 in
theorem mX4_readTribe {l : Launch} {D : va_G} {cA : Nat → ClassId} {ad : Nat → Nat}   {r : Int32} {st st' : gS} (hf : fX4_readTribe  st = some (r, st')) : gM l yX4_readTribe cX4_readTribe 6 (some .boolean) 8 0 D cA ad st [.ref (ad 3)] (some (.int r)) st' := by
  refine g_met (by decide) (Nat.le_of_ble_eq_true rfl) ?_
  intro p e s m args below meth c ls hC hret hlk hU hH hl
  exact bX4_readTribe_0 hC hret hlk hU hf hH va_S.rf hl
def fX4_namedFigure    (st : gS) : Option (Int32 × gS) :=
  if (st.1 19 2) = 19 then (gc (gK 0 (st.2.2 3 1) = 8) ((fX8_figureNamed (st.2.2 3 1) (st.2.1 19 5) st).bind fun q0_1 => (if q0_1.1 = (-1) then ((fX4_refuse 5 q0_1.2).bind fun q0_2 => (some (q0_1.1, q0_2.2))) else (some (q0_1.1, q0_1.2))))) else ((fX4_refuse 2 st).bind fun q0_3 => (some ((-1), q0_3.2)))
set_option maxRecDepth 100000 in
set_option maxHeartbeats 4000000 in
theorem bX4_namedFigure_0  (hC : CallFix p m c cX4_namedFigure 2 s args lw_good RX4) (hret : meth.sig.returnType = (some .int)) (hlk : meth.locks = false) (hU : gU 0 D cA ad s)  {r : Int32} {st' : gS}   {st : gS} {H : Heap} {locs : List Loc} {ls : Array Slot} (hf : fX4_namedFigure st = some (r, st')) (hH : gP0 0 D cA ad st H) (hS : va_S (gA 0 ad) s.heap H locs) (hl : lv_has ls 2 [(0, .ref (ad 3))]) : W p l e (gRm 2) s m args below meth c H locs 0 0 (MQ below (gQc 0 D cA ad st' (some (.int r))) args s 0 0 (gA 0 ad)) (F0 m 0 ls []) := by
  obtain ⟨hx, hb, hml, hown, hts⟩ := id hC
  unfold fX4_namedFigure at hf
  refine lv_aload_n (pc := 0) hx hb dX4_namedFigure_0 rfl (lv_at hl 0 rfl) ?_
  refine g_get (pc := 1) (v := .ref (ad 19)) hC hU hH gk0_3 g_cl4 0 (by decide) kf_X4_40 rfl dX4_namedFigure_1 ?_
  refine g_get (pc := 4) (v := .int (st.1 19 2)) hC hU hH gk0_19 g_cl7 2 (by decide) kf_X4_53 rfl dX4_namedFigure_4 ?_
  refine lv_bipush (v := 19) (pc := 7) hx hb dX4_namedFigure_7 (by decide) ?_
  refine lv_icmp_eq (tgt := 20) (pc := 9) hx hb dX4_namedFigure_9 (by decide) (fun hc => ?_) (fun hc => ?_)
  · have hf := gif_p hc hf
    refine lv_aload_n (pc := 20) hx hb dX4_namedFigure_20 rfl (lv_at hl 0 rfl) ?_
    refine g_get (pc := 21) (v := .ref (ad (st.2.2 3 1))) hC hU hH gk0_3 g_cl4 1 (by decide) kf_X4_12 rfl dX4_namedFigure_21 ?_
    refine lv_aload_n (pc := 24) hx hb dX4_namedFigure_24 rfl (lv_at hl 0 rfl) ?_
    refine g_get (pc := 25) (v := .ref (ad 19)) hC hU hH gk0_3 g_cl4 0 (by decide) kf_X4_40 rfl dX4_namedFigure_25 ?_
    refine g_get (pc := 28) (v := .long (st.2.1 19 5)) hC hU hH gk0_19 g_cl7 5 (by decide) kf_X4_89 rfl dX4_namedFigure_28 ?_
    obtain ⟨h0_1, hf⟩ := gc_s hf
    obtain ⟨q0_1, hq0_1, hf⟩ := gbd hf
    refine g_callVi (pc := 31) (rest := []) hC hU hH hS hl.1 h0_1 rfl (by decide) (mX8_figureNamed h0_1 hq0_1) ky_X8_figureNamed km_X4_93 ⟨Nat.le_of_ble_eq_true rfl, Nat.le_of_ble_eq_true rfl⟩ ⟨Nat.zero_le _, Nat.zero_le _⟩ rfl (Nat.le_of_ble_eq_true rfl) dX4_namedFigure_31 rfl (fun H locs hH hS => ?_)
    refine lv_istore_n (lv' := [(1, .int q0_1.1), (0, .ref (ad 3))]) (pc := 34) hx hb dX4_namedFigure_34 rfl hl (by decide) rfl (fun ls hl => ?_)
    refine lv_iload_n (pc := 35) hx hb dX4_namedFigure_35 rfl (lv_at hl 0 rfl) ?_
    refine lv_iconst (v := (-1)) (pc := 36) hx hb dX4_namedFigure_36 (by decide) ?_
    refine lv_icmp_ne (tgt := 46) (pc := 37) hx hb dX4_namedFigure_37 (by decide) (fun hc => ?_) (fun hc => ?_)
    · have hf := gif_n hc hf
      refine lv_iload_n (pc := 46) hx hb dX4_namedFigure_46 rfl (lv_at hl 0 rfl) ?_
      exact g_iret (pc := 47) hC hret hlk hH hS hf dX4_namedFigure_47
    · have hf := gif_p hc hf
      refine lv_aload_n (pc := 40) hx hb dX4_namedFigure_40 rfl (lv_at hl 1 rfl) ?_
      refine lv_iconst (v := 5) (pc := 41) hx hb dX4_namedFigure_41 (by decide) ?_
      obtain ⟨q0_2, hq0_2, hf⟩ := gbd hf
      refine g_callVi (pc := 42) (rest := []) hC hU hH hS hl.1 gk0_3 rfl (by decide) (mX4_refuse  hq0_2) ky_X4_refuse km_X4_79 ⟨Nat.le_of_ble_eq_true rfl, Nat.le_of_ble_eq_true rfl⟩ ⟨Nat.zero_le _, Nat.zero_le _⟩ rfl (Nat.le_of_ble_eq_true rfl) dX4_namedFigure_42 rfl (fun H locs hH hS => ?_)
      refine lv_pop (pc := 45) hx hb dX4_namedFigure_45 rfl ?_
      refine lv_iload_n (pc := 46) hx hb dX4_namedFigure_46 rfl (lv_at hl 0 rfl) ?_
      exact g_iret (pc := 47) hC hret hlk hH hS hf dX4_namedFigure_47
  · have hf := gif_n hc hf
    refine lv_aload_n (pc := 12) hx hb dX4_namedFigure_12 rfl (lv_at hl 0 rfl) ?_
    refine lv_iconst (v := 2) (pc := 13) hx hb dX4_namedFigure_13 (by decide) ?_
    obtain ⟨q0_3, hq0_3, hf⟩ := gbd hf
    refine g_callVi (pc := 14) (rest := []) hC hU hH hS hl.1 gk0_3 rfl (by decide) (mX4_refuse  hq0_3) ky_X4_refuse km_X4_79 ⟨Nat.le_of_ble_eq_true rfl, Nat.le_of_ble_eq_true rfl⟩ ⟨Nat.zero_le _, Nat.zero_le _⟩ rfl (Nat.le_of_ble_eq_true rfl) dX4_namedFigure_14 rfl (fun H locs hH hS => ?_)
    refine lv_pop (pc := 17) hx hb dX4_namedFigure_17 rfl ?_
    refine lv_iconst (v := (-1)) (pc := 18) hx hb dX4_namedFigure_18 (by decide) ?_
    exact g_iret (pc := 19) hC hret hlk hH hS hf dX4_namedFigure_19
set_option maxRecDepth 100000 in
set_option maxHeartbeats 4000000 in
theorem mX4_namedFigure {l : Launch} {D : va_G} {cA : Nat → ClassId} {ad : Nat → Nat}   {r : Int32} {st st' : gS} (hf : fX4_namedFigure  st = some (r, st')) : gM l yX4_namedFigure cX4_namedFigure 2 (some .int) 2 0 D cA ad st [.ref (ad 3)] (some (.int r)) st' := by
  refine g_met (by decide) (Nat.le_of_ble_eq_true rfl) ?_
  intro p e s m args below meth c ls hC hret hlk hU hH hl
  exact bX4_namedFigure_0 hC hret hlk hU hf hH va_S.rf hl
def fX4_passFigure    (st : gS) : Option (Int32 × gS) :=
  (fX4_namedFigure st).bind fun q0_1 => (if q0_1.1 = (-1) then (some (q0_1.1, q0_1.2)) else ((fX7_step q0_1.2).bind fun q0_2 => (some (q0_1.1, q0_2))))
set_option maxRecDepth 100000 in
set_option maxHeartbeats 4000000 in
theorem bX4_passFigure_0  (hC : CallFix p m c cX4_passFigure 2 s args lw_good RX4) (hret : meth.sig.returnType = (some .int)) (hlk : meth.locks = false) (hU : gU 0 D cA ad s)  {r : Int32} {st' : gS}   {st : gS} {H : Heap} {locs : List Loc} {ls : Array Slot} (hf : fX4_passFigure st = some (r, st')) (hH : gP0 0 D cA ad st H) (hS : va_S (gA 0 ad) s.heap H locs) (hl : lv_has ls 2 [(0, .ref (ad 3))]) : W p l e (gRm 6) s m args below meth c H locs 0 0 (MQ below (gQc 0 D cA ad st' (some (.int r))) args s 0 0 (gA 0 ad)) (F0 m 0 ls []) := by
  obtain ⟨hx, hb, hml, hown, hts⟩ := id hC
  unfold fX4_passFigure at hf
  refine lv_aload_n (pc := 0) hx hb dX4_passFigure_0 rfl (lv_at hl 0 rfl) ?_
  obtain ⟨q0_1, hq0_1, hf⟩ := gbd hf
  refine g_callVi (pc := 1) (rest := []) hC hU hH hS hl.1 gk0_3 rfl (by decide) (mX4_namedFigure  hq0_1) ky_X4_namedFigure km_X4_97 ⟨Nat.le_of_ble_eq_true rfl, Nat.le_of_ble_eq_true rfl⟩ ⟨Nat.zero_le _, Nat.zero_le _⟩ rfl (Nat.le_of_ble_eq_true rfl) dX4_passFigure_1 rfl (fun H locs hH hS => ?_)
  refine lv_istore_n (lv' := [(1, .int q0_1.1), (0, .ref (ad 3))]) (pc := 4) hx hb dX4_passFigure_4 rfl hl (by decide) rfl (fun ls hl => ?_)
  refine lv_iload_n (pc := 5) hx hb dX4_passFigure_5 rfl (lv_at hl 0 rfl) ?_
  refine lv_iconst (v := (-1)) (pc := 6) hx hb dX4_passFigure_6 (by decide) ?_
  refine lv_icmp_eq (tgt := 17) (pc := 7) hx hb dX4_passFigure_7 (by decide) (fun hc => ?_) (fun hc => ?_)
  · have hf := gif_p hc hf
    refine lv_iload_n (pc := 17) hx hb dX4_passFigure_17 rfl (lv_at hl 0 rfl) ?_
    exact g_iret (pc := 18) hC hret hlk hH hS hf dX4_passFigure_18
  · have hf := gif_n hc hf
    refine lv_aload_n (pc := 10) hx hb dX4_passFigure_10 rfl (lv_at hl 1 rfl) ?_
    refine g_get (pc := 11) (v := .ref (ad 19)) hC hU hH gk0_3 g_cl4 0 (by decide) kf_X4_40 rfl dX4_passFigure_11 ?_
    obtain ⟨q0_2, hq0_2, hf⟩ := gbd hf
    refine g_callVv (pc := 14) (rest := []) hC hU hH hS hl.1 gk0_19 rfl (by decide) (mX7_step  hq0_2) ky_X7_step km_X4_83 ⟨Nat.le_of_ble_eq_true rfl, Nat.le_of_ble_eq_true rfl⟩ ⟨Nat.zero_le _, Nat.zero_le _⟩ rfl (Nat.le_of_ble_eq_true rfl) dX4_passFigure_14 rfl (fun H locs hH hS => ?_)
    refine lv_iload_n (pc := 17) hx hb dX4_passFigure_17 rfl (lv_at hl 0 rfl) ?_
    exact g_iret (pc := 18) hC hret hlk hH hS hf dX4_passFigure_18
set_option maxRecDepth 100000 in
set_option maxHeartbeats 4000000 in
theorem mX4_passFigure {l : Launch} {D : va_G} {cA : Nat → ClassId} {ad : Nat → Nat}   {r : Int32} {st st' : gS} (hf : fX4_passFigure  st = some (r, st')) : gM l yX4_passFigure cX4_passFigure 2 (some .int) 6 0 D cA ad st [.ref (ad 3)] (some (.int r)) st' := by
  refine g_met (by decide) (Nat.le_of_ble_eq_true rfl) ?_
  intro p e s m args below meth c ls hC hret hlk hU hH hl
  exact bX4_passFigure_0 hC hret hlk hU hf hH va_S.rf hl
def fX8_addMove (t : Nat) (a1 : Int32) (a2 : Int32) (a3 : Int32) (a4 : Int32) (a5 : Int32)   (st : gS) : Option (gS) :=
  if 16 ≤ (st.1 t 14) then (some st) else (gc (gI (st.1 t 14) 16) (gc (gI ((wi st (t + 1 + 6) (st.1 t 14).toNatClampNeg a1).1 t 14) 16) (gc (gI ((wi (wi st (t + 1 + 6) (st.1 t 14).toNatClampNeg a1) (t + 1 + 7) ((wi st (t + 1 + 6) (st.1 t 14).toNatClampNeg a1).1 t 14).toNatClampNeg a2).1 t 14) 16) (gc (gI ((wi (wi (wi st (t + 1 + 6) (st.1 t 14).toNatClampNeg a1) (t + 1 + 7) ((wi st (t + 1 + 6) (st.1 t 14).toNatClampNeg a1).1 t 14).toNatClampNeg a2) (t + 1 + 8) ((wi (wi st (t + 1 + 6) (st.1 t 14).toNatClampNeg a1) (t + 1 + 7) ((wi st (t + 1 + 6) (st.1 t 14).toNatClampNeg a1).1 t 14).toNatClampNeg a2).1 t 14).toNatClampNeg a3).1 t 14) 16) (gc (gI ((wi (wi (wi (wi st (t + 1 + 6) (st.1 t 14).toNatClampNeg a1) (t + 1 + 7) ((wi st (t + 1 + 6) (st.1 t 14).toNatClampNeg a1).1 t 14).toNatClampNeg a2) (t + 1 + 8) ((wi (wi st (t + 1 + 6) (st.1 t 14).toNatClampNeg a1) (t + 1 + 7) ((wi st (t + 1 + 6) (st.1 t 14).toNatClampNeg a1).1 t 14).toNatClampNeg a2).1 t 14).toNatClampNeg a3) (t + 1 + 9) ((wi (wi (wi st (t + 1 + 6) (st.1 t 14).toNatClampNeg a1) (t + 1 + 7) ((wi st (t + 1 + 6) (st.1 t 14).toNatClampNeg a1).1 t 14).toNatClampNeg a2) (t + 1 + 8) ((wi (wi st (t + 1 + 6) (st.1 t 14).toNatClampNeg a1) (t + 1 + 7) ((wi st (t + 1 + 6) (st.1 t 14).toNatClampNeg a1).1 t 14).toNatClampNeg a2).1 t 14).toNatClampNeg a3).1 t 14).toNatClampNeg a4).1 t 14) 16) (some (wi (wi (wi (wi (wi (wi st (t + 1 + 6) (st.1 t 14).toNatClampNeg a1) (t + 1 + 7) ((wi st (t + 1 + 6) (st.1 t 14).toNatClampNeg a1).1 t 14).toNatClampNeg a2) (t + 1 + 8) ((wi (wi st (t + 1 + 6) (st.1 t 14).toNatClampNeg a1) (t + 1 + 7) ((wi st (t + 1 + 6) (st.1 t 14).toNatClampNeg a1).1 t 14).toNatClampNeg a2).1 t 14).toNatClampNeg a3) (t + 1 + 9) ((wi (wi (wi st (t + 1 + 6) (st.1 t 14).toNatClampNeg a1) (t + 1 + 7) ((wi st (t + 1 + 6) (st.1 t 14).toNatClampNeg a1).1 t 14).toNatClampNeg a2) (t + 1 + 8) ((wi (wi st (t + 1 + 6) (st.1 t 14).toNatClampNeg a1) (t + 1 + 7) ((wi st (t + 1 + 6) (st.1 t 14).toNatClampNeg a1).1 t 14).toNatClampNeg a2).1 t 14).toNatClampNeg a3).1 t 14).toNatClampNeg a4) (t + 1 + 10) ((wi (wi (wi (wi st (t + 1 + 6) (st.1 t 14).toNatClampNeg a1) (t + 1 + 7) ((wi st (t + 1 + 6) (st.1 t 14).toNatClampNeg a1).1 t 14).toNatClampNeg a2) (t + 1 + 8) ((wi (wi st (t + 1 + 6) (st.1 t 14).toNatClampNeg a1) (t + 1 + 7) ((wi st (t + 1 + 6) (st.1 t 14).toNatClampNeg a1).1 t 14).toNatClampNeg a2).1 t 14).toNatClampNeg a3) (t + 1 + 9) ((wi (wi (wi st (t + 1 + 6) (st.1 t 14).toNatClampNeg a1) (t + 1 + 7) ((wi st (t + 1 + 6) (st.1 t 14).toNatClampNeg a1).1 t 14).toNatClampNeg a2) (t + 1 + 8) ((wi (wi st (t + 1 + 6) (st.1 t 14).toNatClampNeg a1) (t + 1 + 7) ((wi st (t + 1 + 6) (st.1 t 14).toNatClampNeg a1).1 t 14).toNatClampNeg a2).1 t 14).toNatClampNeg a3).1 t 14).toNatClampNeg a4).1 t 14).toNatClampNeg a5) t 14 (((wi (wi (wi (wi (wi st (t + 1 + 6) (st.1 t 14).toNatClampNeg a1) (t + 1 + 7) ((wi st (t + 1 + 6) (st.1 t 14).toNatClampNeg a1).1 t 14).toNatClampNeg a2) (t + 1 + 8) ((wi (wi st (t + 1 + 6) (st.1 t 14).toNatClampNeg a1) (t + 1 + 7) ((wi st (t + 1 + 6) (st.1 t 14).toNatClampNeg a1).1 t 14).toNatClampNeg a2).1 t 14).toNatClampNeg a3) (t + 1 + 9) ((wi (wi (wi st (t + 1 + 6) (st.1 t 14).toNatClampNeg a1) (t + 1 + 7) ((wi st (t + 1 + 6) (st.1 t 14).toNatClampNeg a1).1 t 14).toNatClampNeg a2) (t + 1 + 8) ((wi (wi st (t + 1 + 6) (st.1 t 14).toNatClampNeg a1) (t + 1 + 7) ((wi st (t + 1 + 6) (st.1 t 14).toNatClampNeg a1).1 t 14).toNatClampNeg a2).1 t 14).toNatClampNeg a3).1 t 14).toNatClampNeg a4) (t + 1 + 10) ((wi (wi (wi (wi st (t + 1 + 6) (st.1 t 14).toNatClampNeg a1) (t + 1 + 7) ((wi st (t + 1 + 6) (st.1 t 14).toNatClampNeg a1).1 t 14).toNatClampNeg a2) (t + 1 + 8) ((wi (wi st (t + 1 + 6) (st.1 t 14).toNatClampNeg a1) (t + 1 + 7) ((wi st (t + 1 + 6) (st.1 t 14).toNatClampNeg a1).1 t 14).toNatClampNeg a2).1 t 14).toNatClampNeg a3) (t + 1 + 9) ((wi (wi (wi st (t + 1 + 6) (st.1 t 14).toNatClampNeg a1) (t + 1 + 7) ((wi st (t + 1 + 6) (st.1 t 14).toNatClampNeg a1).1 t 14).toNatClampNeg a2) (t + 1 + 8) ((wi (wi st (t + 1 + 6) (st.1 t 14).toNatClampNeg a1) (t + 1 + 7) ((wi st (t + 1 + 6) (st.1 t 14).toNatClampNeg a1).1 t 14).toNatClampNeg a2).1 t 14).toNatClampNeg a3).1 t 14).toNatClampNeg a4).1 t 14).toNatClampNeg a5).1 t 14) + 1))))))))
set_option maxRecDepth 100000 in
set_option maxHeartbeats 4000000 in
theorem bX8_addMove_0 {t : Nat} {a1 : Int32} {a2 : Int32} {a3 : Int32} {a4 : Int32} {a5 : Int32} (hC : CallFix p m c cX8_addMove 6 s args lw_good RX8) (hret : meth.sig.returnType = none) (hlk : meth.locks = false) (hU : gU 0 D cA ad s) (ht : gK 0 t = 8) {st' : gS}   {st : gS} {H : Heap} {locs : List Loc} {ls : Array Slot} (hf : fX8_addMove t a1 a2 a3 a4 a5 st = some st') (hH : gP0 0 D cA ad st H) (hS : va_S (gA 0 ad) s.heap H locs) (hl : lv_has ls 6 [(0, .ref (ad t)), (1, .int a1), (2, .int a2), (3, .int a3), (4, .int a4), (5, .int a5)]) : W p l e (gRm 1) s m args below meth c H locs 0 0 (MQ below (gQc 0 D cA ad st' none) args s 0 0 (gA 0 ad)) (F0 m 0 ls []) := by
  obtain ⟨hx, hb, hml, hown, hts⟩ := id hC
  unfold fX8_addMove at hf
  refine lv_aload_n (pc := 0) hx hb dX8_addMove_0 rfl (lv_at hl 0 rfl) ?_
  refine g_get (pc := 1) (v := .int (st.1 t 14)) hC hU hH ht g_cl8 14 (by decide) kf_X8_60 rfl dX8_addMove_1 ?_
  refine lv_bipush (v := 16) (pc := 4) hx hb dX8_addMove_4 (by decide) ?_
  refine lv_icmp_ge (tgt := 71) (pc := 6) hx hb dX8_addMove_6 (by decide) (fun hc => ?_) (fun hc => ?_)
  · have hf := gif_p hc hf
    exact g_vret (pc := 71) hC hret hlk hH hS hf dX8_addMove_71
  · have hf := gif_n hc hf
    refine lv_aload_n (pc := 9) hx hb dX8_addMove_9 rfl (lv_at hl 0 rfl) ?_
    refine g_get (pc := 10) (v := .ref (ad (t + 1 + 6))) hC hU hH ht g_cl8 6 (by decide) kf_X8_31 rfl dX8_addMove_10 ?_
    refine lv_aload_n (pc := 13) hx hb dX8_addMove_13 rfl (lv_at hl 0 rfl) ?_
    refine g_get (pc := 14) (v := .int (st.1 t 14)) hC hU hH ht g_cl8 14 (by decide) kf_X8_60 rfl dX8_addMove_14 ?_
    refine lv_iload_n (pc := 17) hx hb dX8_addMove_17 rfl (lv_at hl 1 rfl) ?_
    obtain ⟨h0_1, hf⟩ := gc_s hf
    refine g_iast (pc := 18) hC hU hH hS (gk_8_6 ht) (gn_8_6 ht) h0_1 dX8_addMove_18 (fun H locs hH hS => ?_)
    refine lv_aload_n (pc := 19) hx hb dX8_addMove_19 rfl (lv_at hl 0 rfl) ?_
    refine g_get (pc := 20) (v := .ref (ad (t + 1 + 7))) hC hU hH ht g_cl8 7 (by decide) kf_X8_34 rfl dX8_addMove_20 ?_
    refine lv_aload_n (pc := 23) hx hb dX8_addMove_23 rfl (lv_at hl 0 rfl) ?_
    refine g_get (pc := 24) (v := .int ((wi st (t + 1 + 6) (st.1 t 14).toNatClampNeg a1).1 t 14)) hC hU hH ht g_cl8 14 (by decide) kf_X8_60 rfl dX8_addMove_24 ?_
    refine lv_iload_n (pc := 27) hx hb dX8_addMove_27 rfl (lv_at hl 2 rfl) ?_
    obtain ⟨h0_2, hf⟩ := gc_s hf
    refine g_iast (pc := 28) hC hU hH hS (gk_8_7 ht) (gn_8_7 ht) h0_2 dX8_addMove_28 (fun H locs hH hS => ?_)
    refine lv_aload_n (pc := 29) hx hb dX8_addMove_29 rfl (lv_at hl 0 rfl) ?_
    refine g_get (pc := 30) (v := .ref (ad (t + 1 + 8))) hC hU hH ht g_cl8 8 (by decide) kf_X8_37 rfl dX8_addMove_30 ?_
    refine lv_aload_n (pc := 33) hx hb dX8_addMove_33 rfl (lv_at hl 0 rfl) ?_
    refine g_get (pc := 34) (v := .int ((wi (wi st (t + 1 + 6) (st.1 t 14).toNatClampNeg a1) (t + 1 + 7) ((wi st (t + 1 + 6) (st.1 t 14).toNatClampNeg a1).1 t 14).toNatClampNeg a2).1 t 14)) hC hU hH ht g_cl8 14 (by decide) kf_X8_60 rfl dX8_addMove_34 ?_
    refine lv_iload_n (pc := 37) hx hb dX8_addMove_37 rfl (lv_at hl 3 rfl) ?_
    obtain ⟨h0_3, hf⟩ := gc_s hf
    refine g_iast (pc := 38) hC hU hH hS (gk_8_8 ht) (gn_8_8 ht) h0_3 dX8_addMove_38 (fun H locs hH hS => ?_)
    refine lv_aload_n (pc := 39) hx hb dX8_addMove_39 rfl (lv_at hl 0 rfl) ?_
    refine g_get (pc := 40) (v := .ref (ad (t + 1 + 9))) hC hU hH ht g_cl8 9 (by decide) kf_X8_40 rfl dX8_addMove_40 ?_
    refine lv_aload_n (pc := 43) hx hb dX8_addMove_43 rfl (lv_at hl 0 rfl) ?_
    refine g_get (pc := 44) (v := .int ((wi (wi (wi st (t + 1 + 6) (st.1 t 14).toNatClampNeg a1) (t + 1 + 7) ((wi st (t + 1 + 6) (st.1 t 14).toNatClampNeg a1).1 t 14).toNatClampNeg a2) (t + 1 + 8) ((wi (wi st (t + 1 + 6) (st.1 t 14).toNatClampNeg a1) (t + 1 + 7) ((wi st (t + 1 + 6) (st.1 t 14).toNatClampNeg a1).1 t 14).toNatClampNeg a2).1 t 14).toNatClampNeg a3).1 t 14)) hC hU hH ht g_cl8 14 (by decide) kf_X8_60 rfl dX8_addMove_44 ?_
    refine lv_iload (pc := 47) hx hb dX8_addMove_47 (lv_at hl 4 rfl) ?_
    obtain ⟨h0_4, hf⟩ := gc_s hf
    refine g_iast (pc := 49) hC hU hH hS (gk_8_9 ht) (gn_8_9 ht) h0_4 dX8_addMove_49 (fun H locs hH hS => ?_)
    refine lv_aload_n (pc := 50) hx hb dX8_addMove_50 rfl (lv_at hl 0 rfl) ?_
    refine g_get (pc := 51) (v := .ref (ad (t + 1 + 10))) hC hU hH ht g_cl8 10 (by decide) kf_X8_43 rfl dX8_addMove_51 ?_
    refine lv_aload_n (pc := 54) hx hb dX8_addMove_54 rfl (lv_at hl 0 rfl) ?_
    refine g_get (pc := 55) (v := .int ((wi (wi (wi (wi st (t + 1 + 6) (st.1 t 14).toNatClampNeg a1) (t + 1 + 7) ((wi st (t + 1 + 6) (st.1 t 14).toNatClampNeg a1).1 t 14).toNatClampNeg a2) (t + 1 + 8) ((wi (wi st (t + 1 + 6) (st.1 t 14).toNatClampNeg a1) (t + 1 + 7) ((wi st (t + 1 + 6) (st.1 t 14).toNatClampNeg a1).1 t 14).toNatClampNeg a2).1 t 14).toNatClampNeg a3) (t + 1 + 9) ((wi (wi (wi st (t + 1 + 6) (st.1 t 14).toNatClampNeg a1) (t + 1 + 7) ((wi st (t + 1 + 6) (st.1 t 14).toNatClampNeg a1).1 t 14).toNatClampNeg a2) (t + 1 + 8) ((wi (wi st (t + 1 + 6) (st.1 t 14).toNatClampNeg a1) (t + 1 + 7) ((wi st (t + 1 + 6) (st.1 t 14).toNatClampNeg a1).1 t 14).toNatClampNeg a2).1 t 14).toNatClampNeg a3).1 t 14).toNatClampNeg a4).1 t 14)) hC hU hH ht g_cl8 14 (by decide) kf_X8_60 rfl dX8_addMove_55 ?_
    refine lv_iload (pc := 58) hx hb dX8_addMove_58 (lv_at hl 5 rfl) ?_
    obtain ⟨h0_5, hf⟩ := gc_s hf
    refine g_iast (pc := 60) hC hU hH hS (gk_8_10 ht) (gn_8_10 ht) h0_5 dX8_addMove_60 (fun H locs hH hS => ?_)
    refine lv_aload_n (pc := 61) hx hb dX8_addMove_61 rfl (lv_at hl 0 rfl) ?_
    refine lv_dup (pc := 62) hx hb dX8_addMove_62 rfl ?_
    refine g_get (pc := 63) (v := .int ((wi (wi (wi (wi (wi st (t + 1 + 6) (st.1 t 14).toNatClampNeg a1) (t + 1 + 7) ((wi st (t + 1 + 6) (st.1 t 14).toNatClampNeg a1).1 t 14).toNatClampNeg a2) (t + 1 + 8) ((wi (wi st (t + 1 + 6) (st.1 t 14).toNatClampNeg a1) (t + 1 + 7) ((wi st (t + 1 + 6) (st.1 t 14).toNatClampNeg a1).1 t 14).toNatClampNeg a2).1 t 14).toNatClampNeg a3) (t + 1 + 9) ((wi (wi (wi st (t + 1 + 6) (st.1 t 14).toNatClampNeg a1) (t + 1 + 7) ((wi st (t + 1 + 6) (st.1 t 14).toNatClampNeg a1).1 t 14).toNatClampNeg a2) (t + 1 + 8) ((wi (wi st (t + 1 + 6) (st.1 t 14).toNatClampNeg a1) (t + 1 + 7) ((wi st (t + 1 + 6) (st.1 t 14).toNatClampNeg a1).1 t 14).toNatClampNeg a2).1 t 14).toNatClampNeg a3).1 t 14).toNatClampNeg a4) (t + 1 + 10) ((wi (wi (wi (wi st (t + 1 + 6) (st.1 t 14).toNatClampNeg a1) (t + 1 + 7) ((wi st (t + 1 + 6) (st.1 t 14).toNatClampNeg a1).1 t 14).toNatClampNeg a2) (t + 1 + 8) ((wi (wi st (t + 1 + 6) (st.1 t 14).toNatClampNeg a1) (t + 1 + 7) ((wi st (t + 1 + 6) (st.1 t 14).toNatClampNeg a1).1 t 14).toNatClampNeg a2).1 t 14).toNatClampNeg a3) (t + 1 + 9) ((wi (wi (wi st (t + 1 + 6) (st.1 t 14).toNatClampNeg a1) (t + 1 + 7) ((wi st (t + 1 + 6) (st.1 t 14).toNatClampNeg a1).1 t 14).toNatClampNeg a2) (t + 1 + 8) ((wi (wi st (t + 1 + 6) (st.1 t 14).toNatClampNeg a1) (t + 1 + 7) ((wi st (t + 1 + 6) (st.1 t 14).toNatClampNeg a1).1 t 14).toNatClampNeg a2).1 t 14).toNatClampNeg a3).1 t 14).toNatClampNeg a4).1 t 14).toNatClampNeg a5).1 t 14)) hC hU hH ht g_cl8 14 (by decide) kf_X8_60 rfl dX8_addMove_63 ?_
    refine lv_iconst (v := 1) (pc := 66) hx hb dX8_addMove_66 (by decide) ?_
    refine lv_iadd (pc := 67) hx hb dX8_addMove_67 ?_
    refine g_puti (pc := 68) hC hU hH hS ht g_cl8 14 (by decide) kf_X8_60 rfl rfl rfl rfl dX8_addMove_68 (fun H locs hH hS => ?_)
    exact g_vret (pc := 71) hC hret hlk hH hS hf dX8_addMove_71
set_option maxRecDepth 100000 in
set_option maxHeartbeats 4000000 in
theorem mX8_addMove {l : Launch} {D : va_G} {cA : Nat → ClassId} {ad : Nat → Nat} {t : Nat} {a1 : Int32} {a2 : Int32} {a3 : Int32} {a4 : Int32} {a5 : Int32} (ht : gK 0 t = 8) {st st' : gS} (hf : fX8_addMove t a1 a2 a3 a4 a5 st = some st') : gM l yX8_addMove cX8_addMove 6 none 1 0 D cA ad st [.ref (ad t), .int a1, .int a2, .int a3, .int a4, .int a5] none st' := by
  refine g_met (by decide) (Nat.le_of_ble_eq_true rfl) ?_
  intro p e s m args below meth c ls hC hret hlk hU hH hl
  exact bX8_addMove_0 hC hret hlk hU ht hf hH va_S.rf hl
def fX4_readMove_137   (l1 : Int32) (l2 : Int32) (l3 : Int32) (l4 : Int32) (l5 : Int32) (st : gS) : Option (Int32 × gS) :=
  gc (gK 0 (st.2.2 3 1) = 8) ((fX8_addMove (st.2.2 3 1) l1 l2 l3 l4 l5 st).bind fun q137_1 => ((fX4_pass 59 q137_1).bind fun q137_2 => (gc (gB q137_2.1) (some (q137_2.1, q137_2.2)))))
set_option maxRecDepth 100000 in
set_option maxHeartbeats 4000000 in
theorem bX4_readMove_137  (hC : CallFix p m c cX4_readMove 6 s args lw_good RX4) (hret : meth.sig.returnType = (some .boolean)) (hlk : meth.locks = false) (hU : gU 0 D cA ad s)  {r : Int32} {st' : gS}  {l1 : Int32} {l2 : Int32} {l3 : Int32} {l4 : Int32} {l5 : Int32} {st : gS} {H : Heap} {locs : List Loc} {ls : Array Slot} (hf : fX4_readMove_137 l1 l2 l3 l4 l5 st = some (r, st')) (hH : gP0 0 D cA ad st H) (hS : va_S (gA 0 ad) s.heap H locs) (hl : lv_has ls 6 [(0, .ref (ad 3)), (1, .int l1), (2, .int l2), (3, .int l3), (4, .int l4), (5, .int l5)]) : W p l e (gRm 7) s m args below meth c H locs 0 0 (MQ below (gQc 0 D cA ad st' (some (.int r))) args s 0 0 (gA 0 ad)) (F0 m 137 ls []) := by
  obtain ⟨hx, hb, hml, hown, hts⟩ := id hC
  unfold fX4_readMove_137 at hf
  refine lv_aload_n (pc := 137) hx hb dX4_readMove_137 rfl (lv_at hl 0 rfl) ?_
  refine g_get (pc := 138) (v := .ref (ad (st.2.2 3 1))) hC hU hH gk0_3 g_cl4 1 (by decide) kf_X4_12 rfl dX4_readMove_138 ?_
  refine lv_iload_n (pc := 141) hx hb dX4_readMove_141 rfl (lv_at hl 1 rfl) ?_
  refine lv_iload_n (pc := 142) hx hb dX4_readMove_142 rfl (lv_at hl 2 rfl) ?_
  refine lv_iload_n (pc := 143) hx hb dX4_readMove_143 rfl (lv_at hl 3 rfl) ?_
  refine lv_iload (pc := 144) hx hb dX4_readMove_144 (lv_at hl 4 rfl) ?_
  refine lv_iload (pc := 146) hx hb dX4_readMove_146 (lv_at hl 5 rfl) ?_
  obtain ⟨h137_1, hf⟩ := gc_s hf
  obtain ⟨q137_1, hq137_1, hf⟩ := gbd hf
  refine g_callVv (pc := 148) (rest := []) hC hU hH hS hl.1 h137_1 rfl (by decide) (mX8_addMove h137_1 hq137_1) ky_X8_addMove km_X4_134 ⟨Nat.le_of_ble_eq_true rfl, Nat.le_of_ble_eq_true rfl⟩ ⟨Nat.zero_le _, Nat.zero_le _⟩ rfl (Nat.le_of_ble_eq_true rfl) dX4_readMove_148 rfl (fun H locs hH hS => ?_)
  refine lv_aload_n (pc := 151) hx hb dX4_readMove_151 rfl (lv_at hl 0 rfl) ?_
  refine lv_bipush (v := 59) (pc := 152) hx hb dX4_readMove_152 (by decide) ?_
  obtain ⟨q137_2, hq137_2, hf⟩ := gbd hf
  refine g_callVi (pc := 154) (rest := []) hC hU hH hS hl.1 gk0_3 rfl (by decide) (mX4_pass  hq137_2) ky_X4_pass km_X4_111 ⟨Nat.le_of_ble_eq_true rfl, Nat.le_of_ble_eq_true rfl⟩ ⟨Nat.zero_le _, Nat.zero_le _⟩ rfl (Nat.le_of_ble_eq_true rfl) dX4_readMove_154 rfl (fun H locs hH hS => ?_)
  obtain ⟨h137_2, hf⟩ := gc_s hf
  exact g_zret (pc := 157) hC hret hlk hH hS h137_2 hf dX4_readMove_157
def fX4_readMove_43   (l1 : Int32) (s0 : Int32) (st : gS) : Option (Int32 × gS) :=
  if s0 = (-1) then (some (0, st)) else ((fX4_pass 6 st).bind fun q43_1 => (if q43_1.1 = 0 then (some (0, q43_1.2)) else ((fX4_passNumber 0 9 q43_1.2).bind fun q43_2 => (if q43_2.1 = (-1) then (some (0, q43_2.2)) else ((fX4_pass 7 q43_2.2).bind fun q43_3 => (if q43_3.1 = 0 then (some (0, q43_3.2)) else ((fX4_passNumber 0 9 q43_3.2).bind fun q43_4 => (if q43_4.1 = (-1) then (some (0, q43_4.2)) else (if (q43_4.2.1 19 2) = 8 then ((fX7_step q43_4.2).bind fun q43_5 => ((fX4_passFigure q43_5).bind fun q43_6 => (if q43_6.1 = (-1) then (some (0, q43_6.2)) else (fX4_readMove_137 l1 s0 q43_2.1 q43_4.1 q43_6.1 q43_6.2)))) else (fX4_readMove_137 l1 s0 q43_2.1 q43_4.1 (-1) q43_4.2))))))))))
set_option maxRecDepth 100000 in
set_option maxHeartbeats 4000000 in
theorem bX4_readMove_43  (hC : CallFix p m c cX4_readMove 6 s args lw_good RX4) (hret : meth.sig.returnType = (some .boolean)) (hlk : meth.locks = false) (hU : gU 0 D cA ad s)  {r : Int32} {st' : gS}  {l1 : Int32} {s0 : Int32} {st : gS} {H : Heap} {locs : List Loc} {ls : Array Slot} (hf : fX4_readMove_43 l1 s0 st = some (r, st')) (hH : gP0 0 D cA ad st H) (hS : va_S (gA 0 ad) s.heap H locs) (hl : lv_has ls 6 [(0, .ref (ad 3)), (1, .int l1)]) : W p l e (gRm 7) s m args below meth c H locs 0 0 (MQ below (gQc 0 D cA ad st' (some (.int r))) args s 0 0 (gA 0 ad)) (F0 m 43 ls [.int s0]) := by
  obtain ⟨hx, hb, hml, hown, hts⟩ := id hC
  unfold fX4_readMove_43 at hf
  refine lv_istore_n (lv' := [(2, .int s0), (0, .ref (ad 3)), (1, .int l1)]) (pc := 43) hx hb dX4_readMove_43 rfl hl (by decide) rfl (fun ls hl => ?_)
  refine lv_iload_n (pc := 44) hx hb dX4_readMove_44 rfl (lv_at hl 0 rfl) ?_
  refine lv_iconst (v := (-1)) (pc := 45) hx hb dX4_readMove_45 (by decide) ?_
  refine lv_icmp_eq (tgt := 58) (pc := 46) hx hb dX4_readMove_46 (by decide) (fun hc => ?_) (fun hc => ?_)
  · have hf := gif_p hc hf
    refine lv_iconst (v := 0) (pc := 58) hx hb dX4_readMove_58 (by decide) ?_
    exact g_zret (pc := 59) hC hret hlk hH hS (by decide) hf dX4_readMove_59
  · have hf := gif_n hc hf
    refine lv_aload_n (pc := 49) hx hb dX4_readMove_49 rfl (lv_at hl 1 rfl) ?_
    refine lv_bipush (v := 6) (pc := 50) hx hb dX4_readMove_50 (by decide) ?_
    obtain ⟨q43_1, hq43_1, hf⟩ := gbd hf
    refine g_callVi (pc := 52) (rest := []) hC hU hH hS hl.1 gk0_3 rfl (by decide) (mX4_pass  hq43_1) ky_X4_pass km_X4_111 ⟨Nat.le_of_ble_eq_true rfl, Nat.le_of_ble_eq_true rfl⟩ ⟨Nat.zero_le _, Nat.zero_le _⟩ rfl (Nat.le_of_ble_eq_true rfl) dX4_readMove_52 rfl (fun H locs hH hS => ?_)
    refine lv_if_ne (tgt := 60) (pc := 55) hx hb dX4_readMove_55 (by decide) (fun hc => ?_) (fun hc => ?_)
    · have hf := gif_n hc hf
      refine lv_aload_n (pc := 60) hx hb dX4_readMove_60 rfl (lv_at hl 1 rfl) ?_
      refine lv_iconst (v := 0) (pc := 61) hx hb dX4_readMove_61 (by decide) ?_
      refine lv_bipush (v := 9) (pc := 62) hx hb dX4_readMove_62 (by decide) ?_
      obtain ⟨q43_2, hq43_2, hf⟩ := gbd hf
      refine g_callVi (pc := 64) (rest := []) hC hU hH hS hl.1 gk0_3 rfl (by decide) (mX4_passNumber  hq43_2) ky_X4_passNumber km_X4_117 ⟨Nat.le_of_ble_eq_true rfl, Nat.le_of_ble_eq_true rfl⟩ ⟨Nat.zero_le _, Nat.zero_le _⟩ rfl (Nat.le_of_ble_eq_true rfl) dX4_readMove_64 rfl (fun H locs hH hS => ?_)
      refine lv_istore_n (lv' := [(3, .int q43_2.1), (2, .int s0), (0, .ref (ad 3)), (1, .int l1)]) (pc := 67) hx hb dX4_readMove_67 rfl hl (by decide) rfl (fun ls hl => ?_)
      refine lv_iload_n (pc := 68) hx hb dX4_readMove_68 rfl (lv_at hl 0 rfl) ?_
      refine lv_iconst (v := (-1)) (pc := 69) hx hb dX4_readMove_69 (by decide) ?_
      refine lv_icmp_eq (tgt := 82) (pc := 70) hx hb dX4_readMove_70 (by decide) (fun hc => ?_) (fun hc => ?_)
      · have hf := gif_p hc hf
        refine lv_iconst (v := 0) (pc := 82) hx hb dX4_readMove_82 (by decide) ?_
        exact g_zret (pc := 83) hC hret hlk hH hS (by decide) hf dX4_readMove_83
      · have hf := gif_n hc hf
        refine lv_aload_n (pc := 73) hx hb dX4_readMove_73 rfl (lv_at hl 2 rfl) ?_
        refine lv_bipush (v := 7) (pc := 74) hx hb dX4_readMove_74 (by decide) ?_
        obtain ⟨q43_3, hq43_3, hf⟩ := gbd hf
        refine g_callVi (pc := 76) (rest := []) hC hU hH hS hl.1 gk0_3 rfl (by decide) (mX4_pass  hq43_3) ky_X4_pass km_X4_111 ⟨Nat.le_of_ble_eq_true rfl, Nat.le_of_ble_eq_true rfl⟩ ⟨Nat.zero_le _, Nat.zero_le _⟩ rfl (Nat.le_of_ble_eq_true rfl) dX4_readMove_76 rfl (fun H locs hH hS => ?_)
        refine lv_if_ne (tgt := 84) (pc := 79) hx hb dX4_readMove_79 (by decide) (fun hc => ?_) (fun hc => ?_)
        · have hf := gif_n hc hf
          refine lv_aload_n (pc := 84) hx hb dX4_readMove_84 rfl (lv_at hl 2 rfl) ?_
          refine lv_iconst (v := 0) (pc := 85) hx hb dX4_readMove_85 (by decide) ?_
          refine lv_bipush (v := 9) (pc := 86) hx hb dX4_readMove_86 (by decide) ?_
          obtain ⟨q43_4, hq43_4, hf⟩ := gbd hf
          refine g_callVi (pc := 88) (rest := []) hC hU hH hS hl.1 gk0_3 rfl (by decide) (mX4_passNumber  hq43_4) ky_X4_passNumber km_X4_117 ⟨Nat.le_of_ble_eq_true rfl, Nat.le_of_ble_eq_true rfl⟩ ⟨Nat.zero_le _, Nat.zero_le _⟩ rfl (Nat.le_of_ble_eq_true rfl) dX4_readMove_88 rfl (fun H locs hH hS => ?_)
          refine lv_istore (lv' := [(4, .int q43_4.1), (3, .int q43_2.1), (2, .int s0), (0, .ref (ad 3)), (1, .int l1)]) (pc := 91) hx hb dX4_readMove_91 hl (by decide) rfl (fun ls hl => ?_)
          refine lv_iload (pc := 93) hx hb dX4_readMove_93 (lv_at hl 0 rfl) ?_
          refine lv_iconst (v := (-1)) (pc := 95) hx hb dX4_readMove_95 (by decide) ?_
          refine lv_icmp_ne (tgt := 101) (pc := 96) hx hb dX4_readMove_96 (by decide) (fun hc => ?_) (fun hc => ?_)
          · have hf := gif_n hc hf
            refine lv_iconst (v := (-1)) (pc := 101) hx hb dX4_readMove_101 (by decide) ?_
            refine lv_istore (lv' := [(5, .int (-1)), (4, .int q43_4.1), (3, .int q43_2.1), (2, .int s0), (0, .ref (ad 3)), (1, .int l1)]) (pc := 102) hx hb dX4_readMove_102 hl (by decide) rfl (fun ls hl => ?_)
            refine lv_aload_n (pc := 104) hx hb dX4_readMove_104 rfl (lv_at hl 4 rfl) ?_
            refine g_get (pc := 105) (v := .ref (ad 19)) hC hU hH gk0_3 g_cl4 0 (by decide) kf_X4_40 rfl dX4_readMove_105 ?_
            refine g_get (pc := 108) (v := .int (q43_4.2.1 19 2)) hC hU hH gk0_19 g_cl7 2 (by decide) kf_X4_53 rfl dX4_readMove_108 ?_
            refine lv_bipush (v := 8) (pc := 111) hx hb dX4_readMove_111 (by decide) ?_
            refine lv_icmp_ne (tgt := 137) (pc := 113) hx hb dX4_readMove_113 (by decide) (fun hc => ?_) (fun hc => ?_)
            · have hf := gif_n hc hf
              exact bX4_readMove_137 hC hret hlk hU hf hH hS (lv_sub hl [4, 5, 3, 2, 1, 0] rfl)
            · have hf := gif_p hc hf
              refine lv_aload_n (pc := 116) hx hb dX4_readMove_116 rfl (lv_at hl 4 rfl) ?_
              refine g_get (pc := 117) (v := .ref (ad 19)) hC hU hH gk0_3 g_cl4 0 (by decide) kf_X4_40 rfl dX4_readMove_117 ?_
              obtain ⟨q43_5, hq43_5, hf⟩ := gbd hf
              refine g_callVv (pc := 120) (rest := []) hC hU hH hS hl.1 gk0_19 rfl (by decide) (mX7_step  hq43_5) ky_X7_step km_X4_83 ⟨Nat.le_of_ble_eq_true rfl, Nat.le_of_ble_eq_true rfl⟩ ⟨Nat.zero_le _, Nat.zero_le _⟩ rfl (Nat.le_of_ble_eq_true rfl) dX4_readMove_120 rfl (fun H locs hH hS => ?_)
              refine lv_aload_n (pc := 123) hx hb dX4_readMove_123 rfl (lv_at hl 4 rfl) ?_
              obtain ⟨q43_6, hq43_6, hf⟩ := gbd hf
              refine g_callVi (pc := 124) (rest := []) hC hU hH hS hl.1 gk0_3 rfl (by decide) (mX4_passFigure  hq43_6) ky_X4_passFigure km_X4_131 ⟨Nat.le_of_ble_eq_true rfl, Nat.le_of_ble_eq_true rfl⟩ ⟨Nat.zero_le _, Nat.zero_le _⟩ rfl (Nat.le_of_ble_eq_true rfl) dX4_readMove_124 rfl (fun H locs hH hS => ?_)
              refine lv_istore (lv' := [(5, .int q43_6.1), (4, .int q43_4.1), (3, .int q43_2.1), (2, .int s0), (0, .ref (ad 3)), (1, .int l1)]) (pc := 127) hx hb dX4_readMove_127 hl (by decide) rfl (fun ls hl => ?_)
              refine lv_iload (pc := 129) hx hb dX4_readMove_129 (lv_at hl 0 rfl) ?_
              refine lv_iconst (v := (-1)) (pc := 131) hx hb dX4_readMove_131 (by decide) ?_
              refine lv_icmp_ne (tgt := 137) (pc := 132) hx hb dX4_readMove_132 (by decide) (fun hc => ?_) (fun hc => ?_)
              · have hf := gif_n hc hf
                exact bX4_readMove_137 hC hret hlk hU hf hH hS (lv_sub hl [4, 5, 3, 2, 1, 0] rfl)
              · have hf := gif_p hc hf
                refine lv_iconst (v := 0) (pc := 135) hx hb dX4_readMove_135 (by decide) ?_
                exact g_zret (pc := 136) hC hret hlk hH hS (by decide) hf dX4_readMove_136
          · have hf := gif_p hc hf
            refine lv_iconst (v := 0) (pc := 99) hx hb dX4_readMove_99 (by decide) ?_
            exact g_zret (pc := 100) hC hret hlk hH hS (by decide) hf dX4_readMove_100
        · have hf := gif_p hc hf
          refine lv_iconst (v := 0) (pc := 82) hx hb dX4_readMove_82 (by decide) ?_
          exact g_zret (pc := 83) hC hret hlk hH hS (by decide) hf dX4_readMove_83
    · have hf := gif_p hc hf
      refine lv_iconst (v := 0) (pc := 58) hx hb dX4_readMove_58 (by decide) ?_
      exact g_zret (pc := 59) hC hret hlk hH hS (by decide) hf dX4_readMove_59
def fX4_readMove    (st : gS) : Option (Int32 × gS) :=
  gc (gK 0 (st.2.2 3 1) = 8) (if (st.1 (st.2.2 3 1) 14) < 16 then ((fX7_step st).bind fun q0_1 => ((fX4_passFigure q0_1).bind fun q0_2 => (if q0_2.1 = (-1) then (fX4_readMove_43 q0_2.1 (-1) q0_2.2) else ((fX4_passFigure q0_2.2).bind fun q0_3 => (fX4_readMove_43 q0_2.1 q0_3.1 q0_3.2))))) else ((fX4_refuse 2 st).bind fun q0_4 => (gc (gB q0_4.1) (some (q0_4.1, q0_4.2)))))
set_option maxRecDepth 100000 in
set_option maxHeartbeats 4000000 in
theorem bX4_readMove_0  (hC : CallFix p m c cX4_readMove 6 s args lw_good RX4) (hret : meth.sig.returnType = (some .boolean)) (hlk : meth.locks = false) (hU : gU 0 D cA ad s)  {r : Int32} {st' : gS}   {st : gS} {H : Heap} {locs : List Loc} {ls : Array Slot} (hf : fX4_readMove st = some (r, st')) (hH : gP0 0 D cA ad st H) (hS : va_S (gA 0 ad) s.heap H locs) (hl : lv_has ls 6 [(0, .ref (ad 3))]) : W p l e (gRm 7) s m args below meth c H locs 0 0 (MQ below (gQc 0 D cA ad st' (some (.int r))) args s 0 0 (gA 0 ad)) (F0 m 0 ls []) := by
  obtain ⟨hx, hb, hml, hown, hts⟩ := id hC
  unfold fX4_readMove at hf
  refine lv_aload_n (pc := 0) hx hb dX4_readMove_0 rfl (lv_at hl 0 rfl) ?_
  refine g_get (pc := 1) (v := .ref (ad (st.2.2 3 1))) hC hU hH gk0_3 g_cl4 1 (by decide) kf_X4_12 rfl dX4_readMove_1 ?_
  obtain ⟨h0_1, hf⟩ := gc_s hf
  refine g_get (pc := 4) (v := .int (st.1 (st.2.2 3 1) 14)) hC hU hH h0_1 g_cl8 14 (by decide) kf_X4_128 rfl dX4_readMove_4 ?_
  refine lv_bipush (v := 16) (pc := 7) hx hb dX4_readMove_7 (by decide) ?_
  refine lv_icmp_lt (tgt := 18) (pc := 9) hx hb dX4_readMove_9 (by decide) (fun hc => ?_) (fun hc => ?_)
  · have hf := gif_p hc hf
    refine lv_aload_n (pc := 18) hx hb dX4_readMove_18 rfl (lv_at hl 0 rfl) ?_
    refine g_get (pc := 19) (v := .ref (ad 19)) hC hU hH gk0_3 g_cl4 0 (by decide) kf_X4_40 rfl dX4_readMove_19 ?_
    obtain ⟨q0_1, hq0_1, hf⟩ := gbd hf
    refine g_callVv (pc := 22) (rest := []) hC hU hH hS hl.1 gk0_19 rfl (by decide) (mX7_step  hq0_1) ky_X7_step km_X4_83 ⟨Nat.le_of_ble_eq_true rfl, Nat.le_of_ble_eq_true rfl⟩ ⟨Nat.zero_le _, Nat.zero_le _⟩ rfl (Nat.le_of_ble_eq_true rfl) dX4_readMove_22 rfl (fun H locs hH hS => ?_)
    refine lv_aload_n (pc := 25) hx hb dX4_readMove_25 rfl (lv_at hl 0 rfl) ?_
    obtain ⟨q0_2, hq0_2, hf⟩ := gbd hf
    refine g_callVi (pc := 26) (rest := []) hC hU hH hS hl.1 gk0_3 rfl (by decide) (mX4_passFigure  hq0_2) ky_X4_passFigure km_X4_131 ⟨Nat.le_of_ble_eq_true rfl, Nat.le_of_ble_eq_true rfl⟩ ⟨Nat.zero_le _, Nat.zero_le _⟩ rfl (Nat.le_of_ble_eq_true rfl) dX4_readMove_26 rfl (fun H locs hH hS => ?_)
    refine lv_istore_n (lv' := [(1, .int q0_2.1), (0, .ref (ad 3))]) (pc := 29) hx hb dX4_readMove_29 rfl hl (by decide) rfl (fun ls hl => ?_)
    refine lv_iload_n (pc := 30) hx hb dX4_readMove_30 rfl (lv_at hl 0 rfl) ?_
    refine lv_iconst (v := (-1)) (pc := 31) hx hb dX4_readMove_31 (by decide) ?_
    refine lv_icmp_ne (tgt := 39) (pc := 32) hx hb dX4_readMove_32 (by decide) (fun hc => ?_) (fun hc => ?_)
    · have hf := gif_n hc hf
      refine lv_aload_n (pc := 39) hx hb dX4_readMove_39 rfl (lv_at hl 1 rfl) ?_
      obtain ⟨q0_3, hq0_3, hf⟩ := gbd hf
      refine g_callVi (pc := 40) (rest := []) hC hU hH hS hl.1 gk0_3 rfl (by decide) (mX4_passFigure  hq0_3) ky_X4_passFigure km_X4_131 ⟨Nat.le_of_ble_eq_true rfl, Nat.le_of_ble_eq_true rfl⟩ ⟨Nat.zero_le _, Nat.zero_le _⟩ rfl (Nat.le_of_ble_eq_true rfl) dX4_readMove_40 rfl (fun H locs hH hS => ?_)
      exact bX4_readMove_43 hC hret hlk hU hf hH hS (lv_sub hl [1, 0] rfl)
    · have hf := gif_p hc hf
      refine lv_iconst (v := (-1)) (pc := 35) hx hb dX4_readMove_35 (by decide) ?_
      refine lv_goto (tgt := 43) (pc := 36) hx hb dX4_readMove_36 (by decide) ?_
      exact bX4_readMove_43 hC hret hlk hU hf hH hS (lv_sub hl [1, 0] rfl)
  · have hf := gif_n hc hf
    refine lv_aload_n (pc := 12) hx hb dX4_readMove_12 rfl (lv_at hl 0 rfl) ?_
    refine lv_iconst (v := 2) (pc := 13) hx hb dX4_readMove_13 (by decide) ?_
    obtain ⟨q0_4, hq0_4, hf⟩ := gbd hf
    refine g_callVi (pc := 14) (rest := []) hC hU hH hS hl.1 gk0_3 rfl (by decide) (mX4_refuse  hq0_4) ky_X4_refuse km_X4_79 ⟨Nat.le_of_ble_eq_true rfl, Nat.le_of_ble_eq_true rfl⟩ ⟨Nat.zero_le _, Nat.zero_le _⟩ rfl (Nat.le_of_ble_eq_true rfl) dX4_readMove_14 rfl (fun H locs hH hS => ?_)
    obtain ⟨h0_2, hf⟩ := gc_s hf
    exact g_zret (pc := 17) hC hret hlk hH hS h0_2 hf dX4_readMove_17
set_option maxRecDepth 100000 in
set_option maxHeartbeats 4000000 in
theorem mX4_readMove {l : Launch} {D : va_G} {cA : Nat → ClassId} {ad : Nat → Nat}   {r : Int32} {st st' : gS} (hf : fX4_readMove  st = some (r, st')) : gM l yX4_readMove cX4_readMove 6 (some .boolean) 7 0 D cA ad st [.ref (ad 3)] (some (.int r)) st' := by
  refine g_met (by decide) (Nat.le_of_ble_eq_true rfl) ?_
  intro p e s m args below meth c ls hC hret hlk hU hH hl
  exact bX4_readMove_0 hC hret hlk hU hf hH va_S.rf hl
def fX4_passTribe    (st : gS) : Option (Int32 × gS) :=
  if (st.1 19 2) = 19 then (gc (gK 0 (st.2.2 3 1) = 8) ((fX8_tribeNamed (st.2.2 3 1) (st.2.1 19 5) st).bind fun q0_1 => (if q0_1.1 = (-1) then ((fX4_refuse 5 q0_1.2).bind fun q0_3 => (some ((-1), q0_3.2))) else ((fX7_step q0_1.2).bind fun q0_2 => (some (q0_1.1, q0_2)))))) else ((fX4_refuse 2 st).bind fun q0_4 => (some ((-1), q0_4.2)))
set_option maxRecDepth 100000 in
set_option maxHeartbeats 4000000 in
theorem bX4_passTribe_0  (hC : CallFix p m c cX4_passTribe 2 s args lw_good RX4) (hret : meth.sig.returnType = (some .int)) (hlk : meth.locks = false) (hU : gU 0 D cA ad s)  {r : Int32} {st' : gS}   {st : gS} {H : Heap} {locs : List Loc} {ls : Array Slot} (hf : fX4_passTribe st = some (r, st')) (hH : gP0 0 D cA ad st H) (hS : va_S (gA 0 ad) s.heap H locs) (hl : lv_has ls 2 [(0, .ref (ad 3))]) : W p l e (gRm 6) s m args below meth c H locs 0 0 (MQ below (gQc 0 D cA ad st' (some (.int r))) args s 0 0 (gA 0 ad)) (F0 m 0 ls []) := by
  obtain ⟨hx, hb, hml, hown, hts⟩ := id hC
  unfold fX4_passTribe at hf
  refine lv_aload_n (pc := 0) hx hb dX4_passTribe_0 rfl (lv_at hl 0 rfl) ?_
  refine g_get (pc := 1) (v := .ref (ad 19)) hC hU hH gk0_3 g_cl4 0 (by decide) kf_X4_40 rfl dX4_passTribe_1 ?_
  refine g_get (pc := 4) (v := .int (st.1 19 2)) hC hU hH gk0_19 g_cl7 2 (by decide) kf_X4_53 rfl dX4_passTribe_4 ?_
  refine lv_bipush (v := 19) (pc := 7) hx hb dX4_passTribe_7 (by decide) ?_
  refine lv_icmp_eq (tgt := 20) (pc := 9) hx hb dX4_passTribe_9 (by decide) (fun hc => ?_) (fun hc => ?_)
  · have hf := gif_p hc hf
    refine lv_aload_n (pc := 20) hx hb dX4_passTribe_20 rfl (lv_at hl 0 rfl) ?_
    refine g_get (pc := 21) (v := .ref (ad (st.2.2 3 1))) hC hU hH gk0_3 g_cl4 1 (by decide) kf_X4_12 rfl dX4_passTribe_21 ?_
    refine lv_aload_n (pc := 24) hx hb dX4_passTribe_24 rfl (lv_at hl 0 rfl) ?_
    refine g_get (pc := 25) (v := .ref (ad 19)) hC hU hH gk0_3 g_cl4 0 (by decide) kf_X4_40 rfl dX4_passTribe_25 ?_
    refine g_get (pc := 28) (v := .long (st.2.1 19 5)) hC hU hH gk0_19 g_cl7 5 (by decide) kf_X4_89 rfl dX4_passTribe_28 ?_
    obtain ⟨h0_1, hf⟩ := gc_s hf
    obtain ⟨q0_1, hq0_1, hf⟩ := gbd hf
    refine g_callVi (pc := 31) (rest := []) hC hU hH hS hl.1 h0_1 rfl (by decide) (mX8_tribeNamed h0_1 hq0_1) ky_X8_tribeNamed km_X4_101 ⟨Nat.le_of_ble_eq_true rfl, Nat.le_of_ble_eq_true rfl⟩ ⟨Nat.zero_le _, Nat.zero_le _⟩ rfl (Nat.le_of_ble_eq_true rfl) dX4_passTribe_31 rfl (fun H locs hH hS => ?_)
    refine lv_istore_n (lv' := [(1, .int q0_1.1), (0, .ref (ad 3))]) (pc := 34) hx hb dX4_passTribe_34 rfl hl (by decide) rfl (fun ls hl => ?_)
    refine lv_iload_n (pc := 35) hx hb dX4_passTribe_35 rfl (lv_at hl 0 rfl) ?_
    refine lv_iconst (v := (-1)) (pc := 36) hx hb dX4_passTribe_36 (by decide) ?_
    refine lv_icmp_ne (tgt := 48) (pc := 37) hx hb dX4_passTribe_37 (by decide) (fun hc => ?_) (fun hc => ?_)
    · have hf := gif_n hc hf
      refine lv_aload_n (pc := 48) hx hb dX4_passTribe_48 rfl (lv_at hl 1 rfl) ?_
      refine g_get (pc := 49) (v := .ref (ad 19)) hC hU hH gk0_3 g_cl4 0 (by decide) kf_X4_40 rfl dX4_passTribe_49 ?_
      obtain ⟨q0_2, hq0_2, hf⟩ := gbd hf
      refine g_callVv (pc := 52) (rest := []) hC hU hH hS hl.1 gk0_19 rfl (by decide) (mX7_step  hq0_2) ky_X7_step km_X4_83 ⟨Nat.le_of_ble_eq_true rfl, Nat.le_of_ble_eq_true rfl⟩ ⟨Nat.zero_le _, Nat.zero_le _⟩ rfl (Nat.le_of_ble_eq_true rfl) dX4_passTribe_52 rfl (fun H locs hH hS => ?_)
      refine lv_iload_n (pc := 55) hx hb dX4_passTribe_55 rfl (lv_at hl 0 rfl) ?_
      exact g_iret (pc := 56) hC hret hlk hH hS hf dX4_passTribe_56
    · have hf := gif_p hc hf
      refine lv_aload_n (pc := 40) hx hb dX4_passTribe_40 rfl (lv_at hl 1 rfl) ?_
      refine lv_iconst (v := 5) (pc := 41) hx hb dX4_passTribe_41 (by decide) ?_
      obtain ⟨q0_3, hq0_3, hf⟩ := gbd hf
      refine g_callVi (pc := 42) (rest := []) hC hU hH hS hl.1 gk0_3 rfl (by decide) (mX4_refuse  hq0_3) ky_X4_refuse km_X4_79 ⟨Nat.le_of_ble_eq_true rfl, Nat.le_of_ble_eq_true rfl⟩ ⟨Nat.zero_le _, Nat.zero_le _⟩ rfl (Nat.le_of_ble_eq_true rfl) dX4_passTribe_42 rfl (fun H locs hH hS => ?_)
      refine lv_pop (pc := 45) hx hb dX4_passTribe_45 rfl ?_
      refine lv_iconst (v := (-1)) (pc := 46) hx hb dX4_passTribe_46 (by decide) ?_
      exact g_iret (pc := 47) hC hret hlk hH hS hf dX4_passTribe_47
  · have hf := gif_n hc hf
    refine lv_aload_n (pc := 12) hx hb dX4_passTribe_12 rfl (lv_at hl 0 rfl) ?_
    refine lv_iconst (v := 2) (pc := 13) hx hb dX4_passTribe_13 (by decide) ?_
    obtain ⟨q0_4, hq0_4, hf⟩ := gbd hf
    refine g_callVi (pc := 14) (rest := []) hC hU hH hS hl.1 gk0_3 rfl (by decide) (mX4_refuse  hq0_4) ky_X4_refuse km_X4_79 ⟨Nat.le_of_ble_eq_true rfl, Nat.le_of_ble_eq_true rfl⟩ ⟨Nat.zero_le _, Nat.zero_le _⟩ rfl (Nat.le_of_ble_eq_true rfl) dX4_passTribe_14 rfl (fun H locs hH hS => ?_)
    refine lv_pop (pc := 17) hx hb dX4_passTribe_17 rfl ?_
    refine lv_iconst (v := (-1)) (pc := 18) hx hb dX4_passTribe_18 (by decide) ?_
    exact g_iret (pc := 19) hC hret hlk hH hS hf dX4_passTribe_19
set_option maxRecDepth 100000 in
set_option maxHeartbeats 4000000 in
theorem mX4_passTribe {l : Launch} {D : va_G} {cA : Nat → ClassId} {ad : Nat → Nat}   {r : Int32} {st st' : gS} (hf : fX4_passTribe  st = some (r, st')) : gM l yX4_passTribe cX4_passTribe 2 (some .int) 6 0 D cA ad st [.ref (ad 3)] (some (.int r)) st' := by
  refine g_met (by decide) (Nat.le_of_ble_eq_true rfl) ?_
  intro p e s m args below meth c ls hC hret hlk hU hH hl
  exact bX4_passTribe_0 hC hret hlk hU hf hH va_S.rf hl
def fX8_hasTribe (t : Nat) (a1 : Int32)   (st : gS) : Option (Int32 × gS) :=
  if a1 < 0 then (some (0, st)) else (if (st.1 t 13) ≤ a1 then (some (0, st)) else (some (1, st)))
set_option maxRecDepth 100000 in
set_option maxHeartbeats 4000000 in
theorem bX8_hasTribe_0 {t : Nat} {a1 : Int32} (hC : CallFix p m c cX8_hasTribe 2 s args lw_good RX8) (hret : meth.sig.returnType = (some .boolean)) (hlk : meth.locks = false) (hU : gU 0 D cA ad s) (ht : gK 0 t = 8) {r : Int32} {st' : gS}   {st : gS} {H : Heap} {locs : List Loc} {ls : Array Slot} (hf : fX8_hasTribe t a1 st = some (r, st')) (hH : gP0 0 D cA ad st H) (hS : va_S (gA 0 ad) s.heap H locs) (hl : lv_has ls 2 [(0, .ref (ad t)), (1, .int a1)]) : W p l e (gRm 1) s m args below meth c H locs 0 0 (MQ below (gQc 0 D cA ad st' (some (.int r))) args s 0 0 (gA 0 ad)) (F0 m 0 ls []) := by
  obtain ⟨hx, hb, hml, hown, hts⟩ := id hC
  unfold fX8_hasTribe at hf
  refine lv_iload_n (pc := 0) hx hb dX8_hasTribe_0 rfl (lv_at hl 1 rfl) ?_
  refine lv_if_lt (tgt := 16) (pc := 1) hx hb dX8_hasTribe_1 (by decide) (fun hc => ?_) (fun hc => ?_)
  · have hf := gif_p hc hf
    refine lv_iconst (v := 0) (pc := 16) hx hb dX8_hasTribe_16 (by decide) ?_
    exact g_zret (pc := 17) hC hret hlk hH hS (by decide) hf dX8_hasTribe_17
  · have hf := gif_n hc hf
    refine lv_iload_n (pc := 4) hx hb dX8_hasTribe_4 rfl (lv_at hl 1 rfl) ?_
    refine lv_aload_n (pc := 5) hx hb dX8_hasTribe_5 rfl (lv_at hl 0 rfl) ?_
    refine g_get (pc := 6) (v := .int (st.1 t 13)) hC hU hH ht g_cl8 13 (by decide) kf_X8_57 rfl dX8_hasTribe_6 ?_
    refine lv_icmp_ge (tgt := 16) (pc := 9) hx hb dX8_hasTribe_9 (by decide) (fun hc => ?_) (fun hc => ?_)
    · have hf := gif_p hc hf
      refine lv_iconst (v := 0) (pc := 16) hx hb dX8_hasTribe_16 (by decide) ?_
      exact g_zret (pc := 17) hC hret hlk hH hS (by decide) hf dX8_hasTribe_17
    · have hf := gif_n hc hf
      refine lv_iconst (v := 1) (pc := 12) hx hb dX8_hasTribe_12 (by decide) ?_
      refine lv_goto (tgt := 17) (pc := 13) hx hb dX8_hasTribe_13 (by decide) ?_
      exact g_zret (pc := 17) hC hret hlk hH hS (by decide) hf dX8_hasTribe_17
set_option maxRecDepth 100000 in
set_option maxHeartbeats 4000000 in
theorem mX8_hasTribe {l : Launch} {D : va_G} {cA : Nat → ClassId} {ad : Nat → Nat} {t : Nat} {a1 : Int32} (ht : gK 0 t = 8) {r : Int32} {st st' : gS} (hf : fX8_hasTribe t a1 st = some (r, st')) : gM l yX8_hasTribe cX8_hasTribe 2 (some .boolean) 1 0 D cA ad st [.ref (ad t), .int a1] (some (.int r)) st' := by
  refine g_met (by decide) (Nat.le_of_ble_eq_true rfl) ?_
  intro p e s m args below meth c ls hC hret hlk hU hH hl
  exact bX8_hasTribe_0 hC hret hlk hU ht hf hH va_S.rf hl
def fX8_hasFigure (t : Nat) (a1 : Int32)   (st : gS) : Option (Int32 × gS) :=
  if a1 < 0 then (some (0, st)) else (if (st.1 t 12) ≤ a1 then (some (0, st)) else (some (1, st)))
set_option maxRecDepth 100000 in
set_option maxHeartbeats 4000000 in
theorem bX8_hasFigure_0 {t : Nat} {a1 : Int32} (hC : CallFix p m c cX8_hasFigure 2 s args lw_good RX8) (hret : meth.sig.returnType = (some .boolean)) (hlk : meth.locks = false) (hU : gU 0 D cA ad s) (ht : gK 0 t = 8) {r : Int32} {st' : gS}   {st : gS} {H : Heap} {locs : List Loc} {ls : Array Slot} (hf : fX8_hasFigure t a1 st = some (r, st')) (hH : gP0 0 D cA ad st H) (hS : va_S (gA 0 ad) s.heap H locs) (hl : lv_has ls 2 [(0, .ref (ad t)), (1, .int a1)]) : W p l e (gRm 1) s m args below meth c H locs 0 0 (MQ below (gQc 0 D cA ad st' (some (.int r))) args s 0 0 (gA 0 ad)) (F0 m 0 ls []) := by
  obtain ⟨hx, hb, hml, hown, hts⟩ := id hC
  unfold fX8_hasFigure at hf
  refine lv_iload_n (pc := 0) hx hb dX8_hasFigure_0 rfl (lv_at hl 1 rfl) ?_
  refine lv_if_lt (tgt := 16) (pc := 1) hx hb dX8_hasFigure_1 (by decide) (fun hc => ?_) (fun hc => ?_)
  · have hf := gif_p hc hf
    refine lv_iconst (v := 0) (pc := 16) hx hb dX8_hasFigure_16 (by decide) ?_
    exact g_zret (pc := 17) hC hret hlk hH hS (by decide) hf dX8_hasFigure_17
  · have hf := gif_n hc hf
    refine lv_iload_n (pc := 4) hx hb dX8_hasFigure_4 rfl (lv_at hl 1 rfl) ?_
    refine lv_aload_n (pc := 5) hx hb dX8_hasFigure_5 rfl (lv_at hl 0 rfl) ?_
    refine g_get (pc := 6) (v := .int (st.1 t 12)) hC hU hH ht g_cl8 12 (by decide) kf_X8_53 rfl dX8_hasFigure_6 ?_
    refine lv_icmp_ge (tgt := 16) (pc := 9) hx hb dX8_hasFigure_9 (by decide) (fun hc => ?_) (fun hc => ?_)
    · have hf := gif_p hc hf
      refine lv_iconst (v := 0) (pc := 16) hx hb dX8_hasFigure_16 (by decide) ?_
      exact g_zret (pc := 17) hC hret hlk hH hS (by decide) hf dX8_hasFigure_17
    · have hf := gif_n hc hf
      refine lv_iconst (v := 1) (pc := 12) hx hb dX8_hasFigure_12 (by decide) ?_
      refine lv_goto (tgt := 17) (pc := 13) hx hb dX8_hasFigure_13 (by decide) ?_
      exact g_zret (pc := 17) hC hret hlk hH hS (by decide) hf dX8_hasFigure_17
set_option maxRecDepth 100000 in
set_option maxHeartbeats 4000000 in
theorem mX8_hasFigure {l : Launch} {D : va_G} {cA : Nat → ClassId} {ad : Nat → Nat} {t : Nat} {a1 : Int32} (ht : gK 0 t = 8) {r : Int32} {st st' : gS} (hf : fX8_hasFigure t a1 st = some (r, st')) : gM l yX8_hasFigure cX8_hasFigure 2 (some .boolean) 1 0 D cA ad st [.ref (ad t), .int a1] (some (.int r)) st' := by
  refine g_met (by decide) (Nat.le_of_ble_eq_true rfl) ?_
  intro p e s m args below meth c ls hC hret hlk hU hH hl
  exact bX8_hasFigure_0 hC hret hlk hU ht hf hH va_S.rf hl
def fX8_isWorthTold (t : Nat) (a1 : Int32) (a2 : Int32)   (st : gS) : Option (Int32 × gS) :=
  (fX8_hasTribe t a1 st).bind fun q0_1 => (if q0_1.1 = 0 then (some (0, q0_1.2)) else ((fX8_hasFigure t a2 q0_1.2).bind fun q0_2 => (if q0_2.1 = 0 then (some (0, q0_2.2)) else (gc (gI ((a1 * 8) + a2) 40) (if (q0_2.2.1 (t + 1 + 5) ((a1 * 8) + a2).toNatClampNeg) = (-1) then (some (0, q0_2.2)) else (some (1, q0_2.2)))))))
set_option maxRecDepth 100000 in
set_option maxHeartbeats 4000000 in
theorem bX8_isWorthTold_0 {t : Nat} {a1 : Int32} {a2 : Int32} (hC : CallFix p m c cX8_isWorthTold 3 s args lw_good RX8) (hret : meth.sig.returnType = (some .boolean)) (hlk : meth.locks = false) (hU : gU 0 D cA ad s) (ht : gK 0 t = 8) {r : Int32} {st' : gS}   {st : gS} {H : Heap} {locs : List Loc} {ls : Array Slot} (hf : fX8_isWorthTold t a1 a2 st = some (r, st')) (hH : gP0 0 D cA ad st H) (hS : va_S (gA 0 ad) s.heap H locs) (hl : lv_has ls 3 [(0, .ref (ad t)), (1, .int a1), (2, .int a2)]) : W p l e (gRm 2) s m args below meth c H locs 0 0 (MQ below (gQc 0 D cA ad st' (some (.int r))) args s 0 0 (gA 0 ad)) (F0 m 0 ls []) := by
  obtain ⟨hx, hb, hml, hown, hts⟩ := id hC
  unfold fX8_isWorthTold at hf
  refine lv_aload_n (pc := 0) hx hb dX8_isWorthTold_0 rfl (lv_at hl 0 rfl) ?_
  refine lv_iload_n (pc := 1) hx hb dX8_isWorthTold_1 rfl (lv_at hl 1 rfl) ?_
  obtain ⟨q0_1, hq0_1, hf⟩ := gbd hf
  refine g_callVi (pc := 2) (rest := []) hC hU hH hS hl.1 ht rfl (by decide) (mX8_hasTribe ht hq0_1) ky_X8_hasTribe km_X8_81 ⟨Nat.le_of_ble_eq_true rfl, Nat.le_of_ble_eq_true rfl⟩ ⟨Nat.zero_le _, Nat.zero_le _⟩ rfl (Nat.le_of_ble_eq_true rfl) dX8_isWorthTold_2 rfl (fun H locs hH hS => ?_)
  refine lv_if_eq (tgt := 35) (pc := 5) hx hb dX8_isWorthTold_5 (by decide) (fun hc => ?_) (fun hc => ?_)
  · have hf := gif_p hc hf
    refine lv_iconst (v := 0) (pc := 35) hx hb dX8_isWorthTold_35 (by decide) ?_
    exact g_zret (pc := 36) hC hret hlk hH hS (by decide) hf dX8_isWorthTold_36
  · have hf := gif_n hc hf
    refine lv_aload_n (pc := 8) hx hb dX8_isWorthTold_8 rfl (lv_at hl 0 rfl) ?_
    refine lv_iload_n (pc := 9) hx hb dX8_isWorthTold_9 rfl (lv_at hl 2 rfl) ?_
    obtain ⟨q0_2, hq0_2, hf⟩ := gbd hf
    refine g_callVi (pc := 10) (rest := []) hC hU hH hS hl.1 ht rfl (by decide) (mX8_hasFigure ht hq0_2) ky_X8_hasFigure km_X8_85 ⟨Nat.le_of_ble_eq_true rfl, Nat.le_of_ble_eq_true rfl⟩ ⟨Nat.zero_le _, Nat.zero_le _⟩ rfl (Nat.le_of_ble_eq_true rfl) dX8_isWorthTold_10 rfl (fun H locs hH hS => ?_)
    refine lv_if_eq (tgt := 35) (pc := 13) hx hb dX8_isWorthTold_13 (by decide) (fun hc => ?_) (fun hc => ?_)
    · have hf := gif_p hc hf
      refine lv_iconst (v := 0) (pc := 35) hx hb dX8_isWorthTold_35 (by decide) ?_
      exact g_zret (pc := 36) hC hret hlk hH hS (by decide) hf dX8_isWorthTold_36
    · have hf := gif_n hc hf
      refine lv_aload_n (pc := 16) hx hb dX8_isWorthTold_16 rfl (lv_at hl 0 rfl) ?_
      refine g_get (pc := 17) (v := .ref (ad (t + 1 + 5))) hC hU hH ht g_cl8 5 (by decide) kf_X8_28 rfl dX8_isWorthTold_17 ?_
      refine lv_iload_n (pc := 20) hx hb dX8_isWorthTold_20 rfl (lv_at hl 1 rfl) ?_
      refine lv_bipush (v := 8) (pc := 21) hx hb dX8_isWorthTold_21 (by decide) ?_
      refine lv_imul (pc := 23) hx hb dX8_isWorthTold_23 ?_
      refine lv_iload_n (pc := 24) hx hb dX8_isWorthTold_24 rfl (lv_at hl 2 rfl) ?_
      refine lv_iadd (pc := 25) hx hb dX8_isWorthTold_25 ?_
      obtain ⟨h0_1, hf⟩ := gc_s hf
      refine g_iald (pc := 26) hC hU hH (gk_8_5 ht) (gn_8_5 ht) h0_1 dX8_isWorthTold_26 ?_
      refine lv_iconst (v := (-1)) (pc := 27) hx hb dX8_isWorthTold_27 (by decide) ?_
      refine lv_icmp_eq (tgt := 35) (pc := 28) hx hb dX8_isWorthTold_28 (by decide) (fun hc => ?_) (fun hc => ?_)
      · have hf := gif_p hc hf
        refine lv_iconst (v := 0) (pc := 35) hx hb dX8_isWorthTold_35 (by decide) ?_
        exact g_zret (pc := 36) hC hret hlk hH hS (by decide) hf dX8_isWorthTold_36
      · have hf := gif_n hc hf
        refine lv_iconst (v := 1) (pc := 31) hx hb dX8_isWorthTold_31 (by decide) ?_
        refine lv_goto (tgt := 36) (pc := 32) hx hb dX8_isWorthTold_32 (by decide) ?_
        exact g_zret (pc := 36) hC hret hlk hH hS (by decide) hf dX8_isWorthTold_36
set_option maxRecDepth 100000 in
set_option maxHeartbeats 4000000 in
theorem mX8_isWorthTold {l : Launch} {D : va_G} {cA : Nat → ClassId} {ad : Nat → Nat} {t : Nat} {a1 : Int32} {a2 : Int32} (ht : gK 0 t = 8) {r : Int32} {st st' : gS} (hf : fX8_isWorthTold t a1 a2 st = some (r, st')) : gM l yX8_isWorthTold cX8_isWorthTold 3 (some .boolean) 2 0 D cA ad st [.ref (ad t), .int a1, .int a2] (some (.int r)) st' := by
  refine g_met (by decide) (Nat.le_of_ble_eq_true rfl) ?_
  intro p e s m args below meth c ls hC hret hlk hU hH hl
  exact bX8_isWorthTold_0 hC hret hlk hU ht hf hH va_S.rf hl
def fX8_tellWorth (t : Nat) (a1 : Int32) (a2 : Int32) (a3 : Int32)   (st : gS) : Option (gS) :=
  (fX8_hasTribe t a1 st).bind fun q0_1 => (if q0_1.1 = 0 then (some q0_1.2) else ((fX8_hasFigure t a2 q0_1.2).bind fun q0_2 => (if q0_2.1 = 0 then (some q0_2.2) else (gc (gI ((a1 * 8) + a2) 40) (some (wi q0_2.2 (t + 1 + 5) ((a1 * 8) + a2).toNatClampNeg a3))))))
set_option maxRecDepth 100000 in
set_option maxHeartbeats 4000000 in
theorem bX8_tellWorth_0 {t : Nat} {a1 : Int32} {a2 : Int32} {a3 : Int32} (hC : CallFix p m c cX8_tellWorth 4 s args lw_good RX8) (hret : meth.sig.returnType = none) (hlk : meth.locks = false) (hU : gU 0 D cA ad s) (ht : gK 0 t = 8) {st' : gS}   {st : gS} {H : Heap} {locs : List Loc} {ls : Array Slot} (hf : fX8_tellWorth t a1 a2 a3 st = some st') (hH : gP0 0 D cA ad st H) (hS : va_S (gA 0 ad) s.heap H locs) (hl : lv_has ls 4 [(0, .ref (ad t)), (1, .int a1), (2, .int a2), (3, .int a3)]) : W p l e (gRm 2) s m args below meth c H locs 0 0 (MQ below (gQc 0 D cA ad st' none) args s 0 0 (gA 0 ad)) (F0 m 0 ls []) := by
  obtain ⟨hx, hb, hml, hown, hts⟩ := id hC
  unfold fX8_tellWorth at hf
  refine lv_aload_n (pc := 0) hx hb dX8_tellWorth_0 rfl (lv_at hl 0 rfl) ?_
  refine lv_iload_n (pc := 1) hx hb dX8_tellWorth_1 rfl (lv_at hl 1 rfl) ?_
  obtain ⟨q0_1, hq0_1, hf⟩ := gbd hf
  refine g_callVi (pc := 2) (rest := []) hC hU hH hS hl.1 ht rfl (by decide) (mX8_hasTribe ht hq0_1) ky_X8_hasTribe km_X8_81 ⟨Nat.le_of_ble_eq_true rfl, Nat.le_of_ble_eq_true rfl⟩ ⟨Nat.zero_le _, Nat.zero_le _⟩ rfl (Nat.le_of_ble_eq_true rfl) dX8_tellWorth_2 rfl (fun H locs hH hS => ?_)
  refine lv_if_eq (tgt := 28) (pc := 5) hx hb dX8_tellWorth_5 (by decide) (fun hc => ?_) (fun hc => ?_)
  · have hf := gif_p hc hf
    exact g_vret (pc := 28) hC hret hlk hH hS hf dX8_tellWorth_28
  · have hf := gif_n hc hf
    refine lv_aload_n (pc := 8) hx hb dX8_tellWorth_8 rfl (lv_at hl 0 rfl) ?_
    refine lv_iload_n (pc := 9) hx hb dX8_tellWorth_9 rfl (lv_at hl 2 rfl) ?_
    obtain ⟨q0_2, hq0_2, hf⟩ := gbd hf
    refine g_callVi (pc := 10) (rest := []) hC hU hH hS hl.1 ht rfl (by decide) (mX8_hasFigure ht hq0_2) ky_X8_hasFigure km_X8_85 ⟨Nat.le_of_ble_eq_true rfl, Nat.le_of_ble_eq_true rfl⟩ ⟨Nat.zero_le _, Nat.zero_le _⟩ rfl (Nat.le_of_ble_eq_true rfl) dX8_tellWorth_10 rfl (fun H locs hH hS => ?_)
    refine lv_if_eq (tgt := 28) (pc := 13) hx hb dX8_tellWorth_13 (by decide) (fun hc => ?_) (fun hc => ?_)
    · have hf := gif_p hc hf
      exact g_vret (pc := 28) hC hret hlk hH hS hf dX8_tellWorth_28
    · have hf := gif_n hc hf
      refine lv_aload_n (pc := 16) hx hb dX8_tellWorth_16 rfl (lv_at hl 0 rfl) ?_
      refine g_get (pc := 17) (v := .ref (ad (t + 1 + 5))) hC hU hH ht g_cl8 5 (by decide) kf_X8_28 rfl dX8_tellWorth_17 ?_
      refine lv_iload_n (pc := 20) hx hb dX8_tellWorth_20 rfl (lv_at hl 1 rfl) ?_
      refine lv_bipush (v := 8) (pc := 21) hx hb dX8_tellWorth_21 (by decide) ?_
      refine lv_imul (pc := 23) hx hb dX8_tellWorth_23 ?_
      refine lv_iload_n (pc := 24) hx hb dX8_tellWorth_24 rfl (lv_at hl 2 rfl) ?_
      refine lv_iadd (pc := 25) hx hb dX8_tellWorth_25 ?_
      refine lv_iload_n (pc := 26) hx hb dX8_tellWorth_26 rfl (lv_at hl 3 rfl) ?_
      obtain ⟨h0_1, hf⟩ := gc_s hf
      refine g_iast (pc := 27) hC hU hH hS (gk_8_5 ht) (gn_8_5 ht) h0_1 dX8_tellWorth_27 (fun H locs hH hS => ?_)
      exact g_vret (pc := 28) hC hret hlk hH hS hf dX8_tellWorth_28
set_option maxRecDepth 100000 in
set_option maxHeartbeats 4000000 in
theorem mX8_tellWorth {l : Launch} {D : va_G} {cA : Nat → ClassId} {ad : Nat → Nat} {t : Nat} {a1 : Int32} {a2 : Int32} {a3 : Int32} (ht : gK 0 t = 8) {st st' : gS} (hf : fX8_tellWorth t a1 a2 a3 st = some st') : gM l yX8_tellWorth cX8_tellWorth 4 none 2 0 D cA ad st [.ref (ad t), .int a1, .int a2, .int a3] none st' := by
  refine g_met (by decide) (Nat.le_of_ble_eq_true rfl) ?_
  intro p e s m args below meth c ls hC hret hlk hU hH hl
  exact bX8_tellWorth_0 hC hret hlk hU ht hf hH va_S.rf hl
def fX4_readWorth_25   (l1 : Int32) (s0 : Int32) (st : gS) : Option (Int32 × gS) :=
  if s0 = (-1) then (some (0, st)) else (gc (gK 0 (st.2.2 3 1) = 8) ((fX8_isWorthTold (st.2.2 3 1) l1 s0 st).bind fun q25_1 => (if q25_1.1 = 0 then ((fX7_step q25_1.2).bind fun q25_2 => ((fX4_passNumber 0 99 q25_2).bind fun q25_3 => (if q25_3.1 = (-1) then (some (0, q25_3.2)) else (gc (gK 0 (q25_3.2.2.2 3 1) = 8) ((fX8_tellWorth (q25_3.2.2.2 3 1) l1 s0 q25_3.1 q25_3.2).bind fun q25_4 => ((fX4_pass 59 q25_4).bind fun q25_5 => (gc (gB q25_5.1) (some (q25_5.1, q25_5.2))))))))) else ((fX4_refuse 3 q25_1.2).bind fun q25_6 => (gc (gB q25_6.1) (some (q25_6.1, q25_6.2)))))))
set_option maxRecDepth 100000 in
set_option maxHeartbeats 4000000 in
theorem bX4_readWorth_25  (hC : CallFix p m c cX4_readWorth 4 s args lw_good RX4) (hret : meth.sig.returnType = (some .boolean)) (hlk : meth.locks = false) (hU : gU 0 D cA ad s)  {r : Int32} {st' : gS}  {l1 : Int32} {s0 : Int32} {st : gS} {H : Heap} {locs : List Loc} {ls : Array Slot} (hf : fX4_readWorth_25 l1 s0 st = some (r, st')) (hH : gP0 0 D cA ad st H) (hS : va_S (gA 0 ad) s.heap H locs) (hl : lv_has ls 4 [(0, .ref (ad 3)), (1, .int l1)]) : W p l e (gRm 7) s m args below meth c H locs 0 0 (MQ below (gQc 0 D cA ad st' (some (.int r))) args s 0 0 (gA 0 ad)) (F0 m 25 ls [.int s0]) := by
  obtain ⟨hx, hb, hml, hown, hts⟩ := id hC
  unfold fX4_readWorth_25 at hf
  refine lv_istore_n (lv' := [(2, .int s0), (0, .ref (ad 3)), (1, .int l1)]) (pc := 25) hx hb dX4_readWorth_25 rfl hl (by decide) rfl (fun ls hl => ?_)
  refine lv_iload_n (pc := 26) hx hb dX4_readWorth_26 rfl (lv_at hl 0 rfl) ?_
  refine lv_iconst (v := (-1)) (pc := 27) hx hb dX4_readWorth_27 (by decide) ?_
  refine lv_icmp_ne (tgt := 33) (pc := 28) hx hb dX4_readWorth_28 (by decide) (fun hc => ?_) (fun hc => ?_)
  · have hf := gif_n hc hf
    refine lv_aload_n (pc := 33) hx hb dX4_readWorth_33 rfl (lv_at hl 1 rfl) ?_
    refine g_get (pc := 34) (v := .ref (ad (st.2.2 3 1))) hC hU hH gk0_3 g_cl4 1 (by decide) kf_X4_12 rfl dX4_readWorth_34 ?_
    refine lv_iload_n (pc := 37) hx hb dX4_readWorth_37 rfl (lv_at hl 2 rfl) ?_
    refine lv_iload_n (pc := 38) hx hb dX4_readWorth_38 rfl (lv_at hl 0 rfl) ?_
    obtain ⟨h25_1, hf⟩ := gc_s hf
    obtain ⟨q25_1, hq25_1, hf⟩ := gbd hf
    refine g_callVi (pc := 39) (rest := []) hC hU hH hS hl.1 h25_1 rfl (by decide) (mX8_isWorthTold h25_1 hq25_1) ky_X8_isWorthTold km_X4_141 ⟨Nat.le_of_ble_eq_true rfl, Nat.le_of_ble_eq_true rfl⟩ ⟨Nat.zero_le _, Nat.zero_le _⟩ rfl (Nat.le_of_ble_eq_true rfl) dX4_readWorth_39 rfl (fun H locs hH hS => ?_)
    refine lv_if_eq (tgt := 51) (pc := 42) hx hb dX4_readWorth_42 (by decide) (fun hc => ?_) (fun hc => ?_)
    · have hf := gif_p hc hf
      refine lv_aload_n (pc := 51) hx hb dX4_readWorth_51 rfl (lv_at hl 1 rfl) ?_
      refine g_get (pc := 52) (v := .ref (ad 19)) hC hU hH gk0_3 g_cl4 0 (by decide) kf_X4_40 rfl dX4_readWorth_52 ?_
      obtain ⟨q25_2, hq25_2, hf⟩ := gbd hf
      refine g_callVv (pc := 55) (rest := []) hC hU hH hS hl.1 gk0_19 rfl (by decide) (mX7_step  hq25_2) ky_X7_step km_X4_83 ⟨Nat.le_of_ble_eq_true rfl, Nat.le_of_ble_eq_true rfl⟩ ⟨Nat.zero_le _, Nat.zero_le _⟩ rfl (Nat.le_of_ble_eq_true rfl) dX4_readWorth_55 rfl (fun H locs hH hS => ?_)
      refine lv_aload_n (pc := 58) hx hb dX4_readWorth_58 rfl (lv_at hl 1 rfl) ?_
      refine lv_iconst (v := 0) (pc := 59) hx hb dX4_readWorth_59 (by decide) ?_
      refine lv_bipush (v := 99) (pc := 60) hx hb dX4_readWorth_60 (by decide) ?_
      obtain ⟨q25_3, hq25_3, hf⟩ := gbd hf
      refine g_callVi (pc := 62) (rest := []) hC hU hH hS hl.1 gk0_3 rfl (by decide) (mX4_passNumber  hq25_3) ky_X4_passNumber km_X4_117 ⟨Nat.le_of_ble_eq_true rfl, Nat.le_of_ble_eq_true rfl⟩ ⟨Nat.zero_le _, Nat.zero_le _⟩ rfl (Nat.le_of_ble_eq_true rfl) dX4_readWorth_62 rfl (fun H locs hH hS => ?_)
      refine lv_istore_n (lv' := [(3, .int q25_3.1), (2, .int s0), (0, .ref (ad 3)), (1, .int l1)]) (pc := 65) hx hb dX4_readWorth_65 rfl hl (by decide) rfl (fun ls hl => ?_)
      refine lv_iload_n (pc := 66) hx hb dX4_readWorth_66 rfl (lv_at hl 0 rfl) ?_
      refine lv_iconst (v := (-1)) (pc := 67) hx hb dX4_readWorth_67 (by decide) ?_
      refine lv_icmp_ne (tgt := 73) (pc := 68) hx hb dX4_readWorth_68 (by decide) (fun hc => ?_) (fun hc => ?_)
      · have hf := gif_n hc hf
        refine lv_aload_n (pc := 73) hx hb dX4_readWorth_73 rfl (lv_at hl 2 rfl) ?_
        refine g_get (pc := 74) (v := .ref (ad (q25_3.2.2.2 3 1))) hC hU hH gk0_3 g_cl4 1 (by decide) kf_X4_12 rfl dX4_readWorth_74 ?_
        refine lv_iload_n (pc := 77) hx hb dX4_readWorth_77 rfl (lv_at hl 3 rfl) ?_
        refine lv_iload_n (pc := 78) hx hb dX4_readWorth_78 rfl (lv_at hl 1 rfl) ?_
        refine lv_iload_n (pc := 79) hx hb dX4_readWorth_79 rfl (lv_at hl 0 rfl) ?_
        obtain ⟨h25_2, hf⟩ := gc_s hf
        obtain ⟨q25_4, hq25_4, hf⟩ := gbd hf
        refine g_callVv (pc := 80) (rest := []) hC hU hH hS hl.1 h25_2 rfl (by decide) (mX8_tellWorth h25_2 hq25_4) ky_X8_tellWorth km_X4_145 ⟨Nat.le_of_ble_eq_true rfl, Nat.le_of_ble_eq_true rfl⟩ ⟨Nat.zero_le _, Nat.zero_le _⟩ rfl (Nat.le_of_ble_eq_true rfl) dX4_readWorth_80 rfl (fun H locs hH hS => ?_)
        refine lv_aload_n (pc := 83) hx hb dX4_readWorth_83 rfl (lv_at hl 2 rfl) ?_
        refine lv_bipush (v := 59) (pc := 84) hx hb dX4_readWorth_84 (by decide) ?_
        obtain ⟨q25_5, hq25_5, hf⟩ := gbd hf
        refine g_callVi (pc := 86) (rest := []) hC hU hH hS hl.1 gk0_3 rfl (by decide) (mX4_pass  hq25_5) ky_X4_pass km_X4_111 ⟨Nat.le_of_ble_eq_true rfl, Nat.le_of_ble_eq_true rfl⟩ ⟨Nat.zero_le _, Nat.zero_le _⟩ rfl (Nat.le_of_ble_eq_true rfl) dX4_readWorth_86 rfl (fun H locs hH hS => ?_)
        obtain ⟨h25_3, hf⟩ := gc_s hf
        exact g_zret (pc := 89) hC hret hlk hH hS h25_3 hf dX4_readWorth_89
      · have hf := gif_p hc hf
        refine lv_iconst (v := 0) (pc := 71) hx hb dX4_readWorth_71 (by decide) ?_
        exact g_zret (pc := 72) hC hret hlk hH hS (by decide) hf dX4_readWorth_72
    · have hf := gif_n hc hf
      refine lv_aload_n (pc := 45) hx hb dX4_readWorth_45 rfl (lv_at hl 1 rfl) ?_
      refine lv_iconst (v := 3) (pc := 46) hx hb dX4_readWorth_46 (by decide) ?_
      obtain ⟨q25_6, hq25_6, hf⟩ := gbd hf
      refine g_callVi (pc := 47) (rest := []) hC hU hH hS hl.1 gk0_3 rfl (by decide) (mX4_refuse  hq25_6) ky_X4_refuse km_X4_79 ⟨Nat.le_of_ble_eq_true rfl, Nat.le_of_ble_eq_true rfl⟩ ⟨Nat.zero_le _, Nat.zero_le _⟩ rfl (Nat.le_of_ble_eq_true rfl) dX4_readWorth_47 rfl (fun H locs hH hS => ?_)
      obtain ⟨h25_4, hf⟩ := gc_s hf
      exact g_zret (pc := 50) hC hret hlk hH hS h25_4 hf dX4_readWorth_50
  · have hf := gif_p hc hf
    refine lv_iconst (v := 0) (pc := 31) hx hb dX4_readWorth_31 (by decide) ?_
    exact g_zret (pc := 32) hC hret hlk hH hS (by decide) hf dX4_readWorth_32
def fX4_readWorth    (st : gS) : Option (Int32 × gS) :=
  (fX7_step st).bind fun q0_1 => ((fX4_passTribe q0_1).bind fun q0_2 => (if q0_2.1 = (-1) then (fX4_readWorth_25 q0_2.1 (-1) q0_2.2) else ((fX4_namedFigure q0_2.2).bind fun q0_3 => (fX4_readWorth_25 q0_2.1 q0_3.1 q0_3.2))))
set_option maxRecDepth 100000 in
set_option maxHeartbeats 4000000 in
theorem bX4_readWorth_0  (hC : CallFix p m c cX4_readWorth 4 s args lw_good RX4) (hret : meth.sig.returnType = (some .boolean)) (hlk : meth.locks = false) (hU : gU 0 D cA ad s)  {r : Int32} {st' : gS}   {st : gS} {H : Heap} {locs : List Loc} {ls : Array Slot} (hf : fX4_readWorth st = some (r, st')) (hH : gP0 0 D cA ad st H) (hS : va_S (gA 0 ad) s.heap H locs) (hl : lv_has ls 4 [(0, .ref (ad 3))]) : W p l e (gRm 7) s m args below meth c H locs 0 0 (MQ below (gQc 0 D cA ad st' (some (.int r))) args s 0 0 (gA 0 ad)) (F0 m 0 ls []) := by
  obtain ⟨hx, hb, hml, hown, hts⟩ := id hC
  unfold fX4_readWorth at hf
  refine lv_aload_n (pc := 0) hx hb dX4_readWorth_0 rfl (lv_at hl 0 rfl) ?_
  refine g_get (pc := 1) (v := .ref (ad 19)) hC hU hH gk0_3 g_cl4 0 (by decide) kf_X4_40 rfl dX4_readWorth_1 ?_
  obtain ⟨q0_1, hq0_1, hf⟩ := gbd hf
  refine g_callVv (pc := 4) (rest := []) hC hU hH hS hl.1 gk0_19 rfl (by decide) (mX7_step  hq0_1) ky_X7_step km_X4_83 ⟨Nat.le_of_ble_eq_true rfl, Nat.le_of_ble_eq_true rfl⟩ ⟨Nat.zero_le _, Nat.zero_le _⟩ rfl (Nat.le_of_ble_eq_true rfl) dX4_readWorth_4 rfl (fun H locs hH hS => ?_)
  refine lv_aload_n (pc := 7) hx hb dX4_readWorth_7 rfl (lv_at hl 0 rfl) ?_
  obtain ⟨q0_2, hq0_2, hf⟩ := gbd hf
  refine g_callVi (pc := 8) (rest := []) hC hU hH hS hl.1 gk0_3 rfl (by decide) (mX4_passTribe  hq0_2) ky_X4_passTribe km_X4_138 ⟨Nat.le_of_ble_eq_true rfl, Nat.le_of_ble_eq_true rfl⟩ ⟨Nat.zero_le _, Nat.zero_le _⟩ rfl (Nat.le_of_ble_eq_true rfl) dX4_readWorth_8 rfl (fun H locs hH hS => ?_)
  refine lv_istore_n (lv' := [(1, .int q0_2.1), (0, .ref (ad 3))]) (pc := 11) hx hb dX4_readWorth_11 rfl hl (by decide) rfl (fun ls hl => ?_)
  refine lv_iload_n (pc := 12) hx hb dX4_readWorth_12 rfl (lv_at hl 0 rfl) ?_
  refine lv_iconst (v := (-1)) (pc := 13) hx hb dX4_readWorth_13 (by decide) ?_
  refine lv_icmp_ne (tgt := 21) (pc := 14) hx hb dX4_readWorth_14 (by decide) (fun hc => ?_) (fun hc => ?_)
  · have hf := gif_n hc hf
    refine lv_aload_n (pc := 21) hx hb dX4_readWorth_21 rfl (lv_at hl 1 rfl) ?_
    obtain ⟨q0_3, hq0_3, hf⟩ := gbd hf
    refine g_callVi (pc := 22) (rest := []) hC hU hH hS hl.1 gk0_3 rfl (by decide) (mX4_namedFigure  hq0_3) ky_X4_namedFigure km_X4_97 ⟨Nat.le_of_ble_eq_true rfl, Nat.le_of_ble_eq_true rfl⟩ ⟨Nat.zero_le _, Nat.zero_le _⟩ rfl (Nat.le_of_ble_eq_true rfl) dX4_readWorth_22 rfl (fun H locs hH hS => ?_)
    exact bX4_readWorth_25 hC hret hlk hU hf hH hS (lv_sub hl [1, 0] rfl)
  · have hf := gif_p hc hf
    refine lv_iconst (v := (-1)) (pc := 17) hx hb dX4_readWorth_17 (by decide) ?_
    refine lv_goto (tgt := 25) (pc := 18) hx hb dX4_readWorth_18 (by decide) ?_
    exact bX4_readWorth_25 hC hret hlk hU hf hH hS (lv_sub hl [1, 0] rfl)
set_option maxRecDepth 100000 in
set_option maxHeartbeats 4000000 in
theorem mX4_readWorth {l : Launch} {D : va_G} {cA : Nat → ClassId} {ad : Nat → Nat}   {r : Int32} {st st' : gS} (hf : fX4_readWorth  st = some (r, st')) : gM l yX4_readWorth cX4_readWorth 4 (some .boolean) 7 0 D cA ad st [.ref (ad 3)] (some (.int r)) st' := by
  refine g_met (by decide) (Nat.le_of_ble_eq_true rfl) ?_
  intro p e s m args below meth c ls hC hret hlk hU hH hl
  exact bX4_readWorth_0 hC hret hlk hU hf hH va_S.rf hl
def fX0_isTold (t : Nat)   (st : gS) : Option (Int32 × gS) :=
  if (st.1 t 3) ≤ 0 then (some (0, st)) else (some (1, st))
set_option maxRecDepth 100000 in
set_option maxHeartbeats 4000000 in
theorem bX0_isTold_0 {t : Nat} (hC : CallFix p m c cX0_isTold 1 s args lw_good RX0) (hret : meth.sig.returnType = (some .boolean)) (hlk : meth.locks = false) (hU : gU 0 D cA ad s) (ht : gK 0 t = 0) {r : Int32} {st' : gS}   {st : gS} {H : Heap} {locs : List Loc} {ls : Array Slot} (hf : fX0_isTold t st = some (r, st')) (hH : gP0 0 D cA ad st H) (hS : va_S (gA 0 ad) s.heap H locs) (hl : lv_has ls 1 [(0, .ref (ad t))]) : W p l e (gRm 1) s m args below meth c H locs 0 0 (MQ below (gQc 0 D cA ad st' (some (.int r))) args s 0 0 (gA 0 ad)) (F0 m 0 ls []) := by
  obtain ⟨hx, hb, hml, hown, hts⟩ := id hC
  unfold fX0_isTold at hf
  refine lv_aload_n (pc := 0) hx hb dX0_isTold_0 rfl (lv_at hl 0 rfl) ?_
  refine g_get (pc := 1) (v := .int (st.1 t 3)) hC hU hH ht g_cl0 3 (by decide) kf_X0_20 rfl dX0_isTold_1 ?_
  refine lv_if_le (tgt := 11) (pc := 4) hx hb dX0_isTold_4 (by decide) (fun hc => ?_) (fun hc => ?_)
  · have hf := gif_p hc hf
    refine lv_iconst (v := 0) (pc := 11) hx hb dX0_isTold_11 (by decide) ?_
    exact g_zret (pc := 12) hC hret hlk hH hS (by decide) hf dX0_isTold_12
  · have hf := gif_n hc hf
    refine lv_iconst (v := 1) (pc := 7) hx hb dX0_isTold_7 (by decide) ?_
    refine lv_goto (tgt := 12) (pc := 8) hx hb dX0_isTold_8 (by decide) ?_
    exact g_zret (pc := 12) hC hret hlk hH hS (by decide) hf dX0_isTold_12
set_option maxRecDepth 100000 in
set_option maxHeartbeats 4000000 in
theorem mX0_isTold {l : Launch} {D : va_G} {cA : Nat → ClassId} {ad : Nat → Nat} {t : Nat} (ht : gK 0 t = 0) {r : Int32} {st st' : gS} (hf : fX0_isTold t st = some (r, st')) : gM l yX0_isTold cX0_isTold 1 (some .boolean) 1 0 D cA ad st [.ref (ad t)] (some (.int r)) st' := by
  refine g_met (by decide) (Nat.le_of_ble_eq_true rfl) ?_
  intro p e s m args below meth c ls hC hret hlk hU hH hl
  exact bX0_isTold_0 hC hret hlk hU ht hf hH va_S.rf hl
def fX0_add (t : Nat) (a1 : Int32)   (st : gS) : Option (gS) :=
  if 272 ≤ (st.1 t 2) then (some st) else (gc (gI (st.1 t 2) 272) (some (wi (wi st (t + 1 + 0) (st.1 t 2).toNatClampNeg a1) t 2 (((wi st (t + 1 + 0) (st.1 t 2).toNatClampNeg a1).1 t 2) + 1))))
set_option maxRecDepth 100000 in
set_option maxHeartbeats 4000000 in
theorem bX0_add_0 {t : Nat} {a1 : Int32} (hC : CallFix p m c cX0_add 2 s args lw_good RX0) (hret : meth.sig.returnType = none) (hlk : meth.locks = false) (hU : gU 0 D cA ad s) (ht : gK 0 t = 0) {st' : gS}   {st : gS} {H : Heap} {locs : List Loc} {ls : Array Slot} (hf : fX0_add t a1 st = some st') (hH : gP0 0 D cA ad st H) (hS : va_S (gA 0 ad) s.heap H locs) (hl : lv_has ls 2 [(0, .ref (ad t)), (1, .int a1)]) : W p l e (gRm 1) s m args below meth c H locs 0 0 (MQ below (gQc 0 D cA ad st' none) args s 0 0 (gA 0 ad)) (F0 m 0 ls []) := by
  obtain ⟨hx, hb, hml, hown, hts⟩ := id hC
  unfold fX0_add at hf
  refine lv_aload_n (pc := 0) hx hb dX0_add_0 rfl (lv_at hl 0 rfl) ?_
  refine g_get (pc := 1) (v := .int (st.1 t 2)) hC hU hH ht g_cl0 2 (by decide) kf_X0_16 rfl dX0_add_1 ?_
  refine lv_sipush (v := 272) (pc := 4) hx hb dX0_add_4 (by decide) ?_
  refine lv_icmp_ge (tgt := 30) (pc := 7) hx hb dX0_add_7 (by decide) (fun hc => ?_) (fun hc => ?_)
  · have hf := gif_p hc hf
    exact g_vret (pc := 30) hC hret hlk hH hS hf dX0_add_30
  · have hf := gif_n hc hf
    refine lv_aload_n (pc := 10) hx hb dX0_add_10 rfl (lv_at hl 0 rfl) ?_
    refine g_get (pc := 11) (v := .ref (ad (t + 1 + 0))) hC hU hH ht g_cl0 0 (by decide) kf_X0_9 rfl dX0_add_11 ?_
    refine lv_aload_n (pc := 14) hx hb dX0_add_14 rfl (lv_at hl 0 rfl) ?_
    refine g_get (pc := 15) (v := .int (st.1 t 2)) hC hU hH ht g_cl0 2 (by decide) kf_X0_16 rfl dX0_add_15 ?_
    refine lv_iload_n (pc := 18) hx hb dX0_add_18 rfl (lv_at hl 1 rfl) ?_
    obtain ⟨h0_1, hf⟩ := gc_s hf
    refine g_iast (pc := 19) hC hU hH hS (gk_0_0 ht) (gn_0_0 ht) h0_1 dX0_add_19 (fun H locs hH hS => ?_)
    refine lv_aload_n (pc := 20) hx hb dX0_add_20 rfl (lv_at hl 0 rfl) ?_
    refine lv_dup (pc := 21) hx hb dX0_add_21 rfl ?_
    refine g_get (pc := 22) (v := .int ((wi st (t + 1 + 0) (st.1 t 2).toNatClampNeg a1).1 t 2)) hC hU hH ht g_cl0 2 (by decide) kf_X0_16 rfl dX0_add_22 ?_
    refine lv_iconst (v := 1) (pc := 25) hx hb dX0_add_25 (by decide) ?_
    refine lv_iadd (pc := 26) hx hb dX0_add_26 ?_
    refine g_puti (pc := 27) hC hU hH hS ht g_cl0 2 (by decide) kf_X0_16 rfl rfl rfl rfl dX0_add_27 (fun H locs hH hS => ?_)
    exact g_vret (pc := 30) hC hret hlk hH hS hf dX0_add_30
set_option maxRecDepth 100000 in
set_option maxHeartbeats 4000000 in
theorem mX0_add {l : Launch} {D : va_G} {cA : Nat → ClassId} {ad : Nat → Nat} {t : Nat} {a1 : Int32} (ht : gK 0 t = 0) {st st' : gS} (hf : fX0_add t a1 st = some st') : gM l yX0_add cX0_add 2 none 1 0 D cA ad st [.ref (ad t), .int a1] none st' := by
  refine g_met (by decide) (Nat.le_of_ble_eq_true rfl) ?_
  intro p e s m args below meth c ls hC hret hlk hU hH hl
  exact bX0_add_0 hC hret hlk hU ht hf hH va_S.rf hl
def fX0_addNumber (t : Nat) (a1 : Int32)   (st : gS) : Option (gS) :=
  (fX0_add t a1 (wi st t 3 ((st.1 t 3) + 1))).bind fun q0_1 => (some q0_1)
set_option maxRecDepth 100000 in
set_option maxHeartbeats 4000000 in
theorem bX0_addNumber_0 {t : Nat} {a1 : Int32} (hC : CallFix p m c cX0_addNumber 2 s args lw_good RX0) (hret : meth.sig.returnType = none) (hlk : meth.locks = false) (hU : gU 0 D cA ad s) (ht : gK 0 t = 0) {st' : gS}   {st : gS} {H : Heap} {locs : List Loc} {ls : Array Slot} (hf : fX0_addNumber t a1 st = some st') (hH : gP0 0 D cA ad st H) (hS : va_S (gA 0 ad) s.heap H locs) (hl : lv_has ls 2 [(0, .ref (ad t)), (1, .int a1)]) : W p l e (gRm 2) s m args below meth c H locs 0 0 (MQ below (gQc 0 D cA ad st' none) args s 0 0 (gA 0 ad)) (F0 m 0 ls []) := by
  obtain ⟨hx, hb, hml, hown, hts⟩ := id hC
  unfold fX0_addNumber at hf
  refine lv_aload_n (pc := 0) hx hb dX0_addNumber_0 rfl (lv_at hl 0 rfl) ?_
  refine lv_dup (pc := 1) hx hb dX0_addNumber_1 rfl ?_
  refine g_get (pc := 2) (v := .int (st.1 t 3)) hC hU hH ht g_cl0 3 (by decide) kf_X0_20 rfl dX0_addNumber_2 ?_
  refine lv_iconst (v := 1) (pc := 5) hx hb dX0_addNumber_5 (by decide) ?_
  refine lv_iadd (pc := 6) hx hb dX0_addNumber_6 ?_
  refine g_puti (pc := 7) hC hU hH hS ht g_cl0 3 (by decide) kf_X0_20 rfl rfl rfl rfl dX0_addNumber_7 (fun H locs hH hS => ?_)
  refine lv_aload_n (pc := 10) hx hb dX0_addNumber_10 rfl (lv_at hl 0 rfl) ?_
  refine lv_iload_n (pc := 11) hx hb dX0_addNumber_11 rfl (lv_at hl 1 rfl) ?_
  obtain ⟨q0_1, hq0_1, hf⟩ := gbd hf
  refine g_callVv (pc := 12) (rest := []) hC hU hH hS hl.1 ht rfl (by decide) (mX0_add ht hq0_1) ky_X0_add km_X0_26 ⟨Nat.le_of_ble_eq_true rfl, Nat.le_of_ble_eq_true rfl⟩ ⟨Nat.zero_le _, Nat.zero_le _⟩ rfl (Nat.le_of_ble_eq_true rfl) dX0_addNumber_12 rfl (fun H locs hH hS => ?_)
  exact g_vret (pc := 15) hC hret hlk hH hS hf dX0_addNumber_15
set_option maxRecDepth 100000 in
set_option maxHeartbeats 4000000 in
theorem mX0_addNumber {l : Launch} {D : va_G} {cA : Nat → ClassId} {ad : Nat → Nat} {t : Nat} {a1 : Int32} (ht : gK 0 t = 0) {st st' : gS} (hf : fX0_addNumber t a1 st = some st') : gM l yX0_addNumber cX0_addNumber 2 none 2 0 D cA ad st [.ref (ad t), .int a1] none st' := by
  refine g_met (by decide) (Nat.le_of_ble_eq_true rfl) ?_
  intro p e s m args below meth c ls hC hret hlk hU hH hl
  exact bX0_addNumber_0 hC hret hlk hU ht hf hH va_S.rf hl
def fX0_addWord (t : Nat) (a1 : Int32)   (st : gS) : Option (gS) :=
  (fX0_add t (a1 ^^^ (-1)) (wi st t 3 ((st.1 t 3) + 1))).bind fun q0_1 => (some q0_1)
set_option maxRecDepth 100000 in
set_option maxHeartbeats 4000000 in
theorem bX0_addWord_0 {t : Nat} {a1 : Int32} (hC : CallFix p m c cX0_addWord 2 s args lw_good RX0) (hret : meth.sig.returnType = none) (hlk : meth.locks = false) (hU : gU 0 D cA ad s) (ht : gK 0 t = 0) {st' : gS}   {st : gS} {H : Heap} {locs : List Loc} {ls : Array Slot} (hf : fX0_addWord t a1 st = some st') (hH : gP0 0 D cA ad st H) (hS : va_S (gA 0 ad) s.heap H locs) (hl : lv_has ls 2 [(0, .ref (ad t)), (1, .int a1)]) : W p l e (gRm 2) s m args below meth c H locs 0 0 (MQ below (gQc 0 D cA ad st' none) args s 0 0 (gA 0 ad)) (F0 m 0 ls []) := by
  obtain ⟨hx, hb, hml, hown, hts⟩ := id hC
  unfold fX0_addWord at hf
  refine lv_aload_n (pc := 0) hx hb dX0_addWord_0 rfl (lv_at hl 0 rfl) ?_
  refine lv_dup (pc := 1) hx hb dX0_addWord_1 rfl ?_
  refine g_get (pc := 2) (v := .int (st.1 t 3)) hC hU hH ht g_cl0 3 (by decide) kf_X0_20 rfl dX0_addWord_2 ?_
  refine lv_iconst (v := 1) (pc := 5) hx hb dX0_addWord_5 (by decide) ?_
  refine lv_iadd (pc := 6) hx hb dX0_addWord_6 ?_
  refine g_puti (pc := 7) hC hU hH hS ht g_cl0 3 (by decide) kf_X0_20 rfl rfl rfl rfl dX0_addWord_7 (fun H locs hH hS => ?_)
  refine lv_aload_n (pc := 10) hx hb dX0_addWord_10 rfl (lv_at hl 0 rfl) ?_
  refine lv_iload_n (pc := 11) hx hb dX0_addWord_11 rfl (lv_at hl 1 rfl) ?_
  refine lv_iconst (v := (-1)) (pc := 12) hx hb dX0_addWord_12 (by decide) ?_
  refine lv_ixor (pc := 13) hx hb dX0_addWord_13 ?_
  obtain ⟨q0_1, hq0_1, hf⟩ := gbd hf
  refine g_callVv (pc := 14) (rest := []) hC hU hH hS hl.1 ht rfl (by decide) (mX0_add ht hq0_1) ky_X0_add km_X0_26 ⟨Nat.le_of_ble_eq_true rfl, Nat.le_of_ble_eq_true rfl⟩ ⟨Nat.zero_le _, Nat.zero_le _⟩ rfl (Nat.le_of_ble_eq_true rfl) dX0_addWord_14 rfl (fun H locs hH hS => ?_)
  exact g_vret (pc := 17) hC hret hlk hH hS hf dX0_addWord_17
set_option maxRecDepth 100000 in
set_option maxHeartbeats 4000000 in
theorem mX0_addWord {l : Launch} {D : va_G} {cA : Nat → ClassId} {ad : Nat → Nat} {t : Nat} {a1 : Int32} (ht : gK 0 t = 0) {st st' : gS} (hf : fX0_addWord t a1 st = some st') : gM l yX0_addWord cX0_addWord 2 none 2 0 D cA ad st [.ref (ad t), .int a1] none st' := by
  refine g_met (by decide) (Nat.le_of_ble_eq_true rfl) ?_
  intro p e s m args below meth c ls hC hret hlk hU hH hl
  exact bX0_addWord_0 hC hret hlk hU ht hf hH va_S.rf hl
def fX4_isTimes (a0 : Int32)   (st : gS) : Option (Int32 × gS) :=
  if a0 = 42 then (some (1, st)) else (if a0 = 47 then (some (1, st)) else (if a0 = 37 then (some (1, st)) else (some (0, st))))
set_option maxRecDepth 100000 in
set_option maxHeartbeats 4000000 in
theorem bX4_isTimes_0 {a0 : Int32} (hC : CallFix p m c cX4_isTimes 1 s args lw_good RX4) (hret : meth.sig.returnType = (some .boolean)) (hlk : meth.locks = false) (hU : gU 0 D cA ad s)  {r : Int32} {st' : gS}   {st : gS} {H : Heap} {locs : List Loc} {ls : Array Slot} (hf : fX4_isTimes a0 st = some (r, st')) (hH : gP0 0 D cA ad st H) (hS : va_S (gA 0 ad) s.heap H locs) (hl : lv_has ls 1 [(0, .int a0)]) : W p l e (gRm 1) s m args below meth c H locs 0 0 (MQ below (gQc 0 D cA ad st' (some (.int r))) args s 0 0 (gA 0 ad)) (F0 m 0 ls []) := by
  obtain ⟨hx, hb, hml, hown, hts⟩ := id hC
  unfold fX4_isTimes at hf
  refine lv_iload_n (pc := 0) hx hb dX4_isTimes_0 rfl (lv_at hl 0 rfl) ?_
  refine lv_bipush (v := 42) (pc := 1) hx hb dX4_isTimes_1 (by decide) ?_
  refine lv_icmp_eq (tgt := 18) (pc := 3) hx hb dX4_isTimes_3 (by decide) (fun hc => ?_) (fun hc => ?_)
  · have hf := gif_p hc hf
    refine lv_iconst (v := 1) (pc := 18) hx hb dX4_isTimes_18 (by decide) ?_
    refine lv_goto (tgt := 23) (pc := 19) hx hb dX4_isTimes_19 (by decide) ?_
    exact g_zret (pc := 23) hC hret hlk hH hS (by decide) hf dX4_isTimes_23
  · have hf := gif_n hc hf
    refine lv_iload_n (pc := 6) hx hb dX4_isTimes_6 rfl (lv_at hl 0 rfl) ?_
    refine lv_bipush (v := 47) (pc := 7) hx hb dX4_isTimes_7 (by decide) ?_
    refine lv_icmp_eq (tgt := 18) (pc := 9) hx hb dX4_isTimes_9 (by decide) (fun hc => ?_) (fun hc => ?_)
    · have hf := gif_p hc hf
      refine lv_iconst (v := 1) (pc := 18) hx hb dX4_isTimes_18 (by decide) ?_
      refine lv_goto (tgt := 23) (pc := 19) hx hb dX4_isTimes_19 (by decide) ?_
      exact g_zret (pc := 23) hC hret hlk hH hS (by decide) hf dX4_isTimes_23
    · have hf := gif_n hc hf
      refine lv_iload_n (pc := 12) hx hb dX4_isTimes_12 rfl (lv_at hl 0 rfl) ?_
      refine lv_bipush (v := 37) (pc := 13) hx hb dX4_isTimes_13 (by decide) ?_
      refine lv_icmp_ne (tgt := 22) (pc := 15) hx hb dX4_isTimes_15 (by decide) (fun hc => ?_) (fun hc => ?_)
      · have hf := gif_n hc hf
        refine lv_iconst (v := 0) (pc := 22) hx hb dX4_isTimes_22 (by decide) ?_
        exact g_zret (pc := 23) hC hret hlk hH hS (by decide) hf dX4_isTimes_23
      · have hf := gif_p hc hf
        refine lv_iconst (v := 1) (pc := 18) hx hb dX4_isTimes_18 (by decide) ?_
        refine lv_goto (tgt := 23) (pc := 19) hx hb dX4_isTimes_19 (by decide) ?_
        exact g_zret (pc := 23) hC hret hlk hH hS (by decide) hf dX4_isTimes_23
set_option maxRecDepth 100000 in
set_option maxHeartbeats 4000000 in
theorem mX4_isTimes {l : Launch} {D : va_G} {cA : Nat → ClassId} {ad : Nat → Nat} {a0 : Int32}  {r : Int32} {st st' : gS} (hf : fX4_isTimes a0 st = some (r, st')) : gM l yX4_isTimes cX4_isTimes 1 (some .boolean) 1 0 D cA ad st [.int a0] (some (.int r)) st' := by
  refine g_met (by decide) (Nat.le_of_ble_eq_true rfl) ?_
  intro p e s m args below meth c ls hC hret hlk hU hH hl
  exact bX4_isTimes_0 hC hret hlk hU hf hH va_S.rf hl
def fX0_addStep (t : Nat) (a1 : Int32)   (st : gS) : Option (gS) :=
  (fX0_add t (a1 ^^^ (-1)) st).bind fun q0_1 => (some q0_1)
set_option maxRecDepth 100000 in
set_option maxHeartbeats 4000000 in
theorem bX0_addStep_0 {t : Nat} {a1 : Int32} (hC : CallFix p m c cX0_addStep 2 s args lw_good RX0) (hret : meth.sig.returnType = none) (hlk : meth.locks = false) (hU : gU 0 D cA ad s) (ht : gK 0 t = 0) {st' : gS}   {st : gS} {H : Heap} {locs : List Loc} {ls : Array Slot} (hf : fX0_addStep t a1 st = some st') (hH : gP0 0 D cA ad st H) (hS : va_S (gA 0 ad) s.heap H locs) (hl : lv_has ls 2 [(0, .ref (ad t)), (1, .int a1)]) : W p l e (gRm 2) s m args below meth c H locs 0 0 (MQ below (gQc 0 D cA ad st' none) args s 0 0 (gA 0 ad)) (F0 m 0 ls []) := by
  obtain ⟨hx, hb, hml, hown, hts⟩ := id hC
  unfold fX0_addStep at hf
  refine lv_aload_n (pc := 0) hx hb dX0_addStep_0 rfl (lv_at hl 0 rfl) ?_
  refine lv_iload_n (pc := 1) hx hb dX0_addStep_1 rfl (lv_at hl 1 rfl) ?_
  refine lv_iconst (v := (-1)) (pc := 2) hx hb dX0_addStep_2 (by decide) ?_
  refine lv_ixor (pc := 3) hx hb dX0_addStep_3 ?_
  obtain ⟨q0_1, hq0_1, hf⟩ := gbd hf
  refine g_callVv (pc := 4) (rest := []) hC hU hH hS hl.1 ht rfl (by decide) (mX0_add ht hq0_1) ky_X0_add km_X0_26 ⟨Nat.le_of_ble_eq_true rfl, Nat.le_of_ble_eq_true rfl⟩ ⟨Nat.zero_le _, Nat.zero_le _⟩ rfl (Nat.le_of_ble_eq_true rfl) dX0_addStep_4 rfl (fun H locs hH hS => ?_)
  exact g_vret (pc := 7) hC hret hlk hH hS hf dX0_addStep_7
set_option maxRecDepth 100000 in
set_option maxHeartbeats 4000000 in
theorem mX0_addStep {l : Launch} {D : va_G} {cA : Nat → ClassId} {ad : Nat → Nat} {t : Nat} {a1 : Int32} (ht : gK 0 t = 0) {st st' : gS} (hf : fX0_addStep t a1 st = some st') : gM l yX0_addStep cX0_addStep 2 none 2 0 D cA ad st [.ref (ad t), .int a1] none st' := by
  refine g_met (by decide) (Nat.le_of_ble_eq_true rfl) ?_
  intro p e s m args below meth c ls hC hret hlk hU hH hl
  exact bX0_addStep_0 hC hret hlk hU ht hf hH va_S.rf hl
def fX4_readBrackets  (rc ro : gS → Option (Int32 × gS))   (st : gS) : Option (Int32 × gS) :=
  if (st.1 3 4) ≤ 6 then (gc (gK 0 ((wi st 3 4 ((st.1 3 4) + 1)).2.2 3 1) = 8) ((fX7_step (wi (wi st 3 4 ((st.1 3 4) + 1)) (((wi st 3 4 ((st.1 3 4) + 1)).2.2 3 1) + 1 + 11) 3 (((wi st 3 4 ((st.1 3 4) + 1)).1 (((wi st 3 4 ((st.1 3 4) + 1)).2.2 3 1) + 1 + 11) 3) + 1))).bind fun q0_1 => ((rc q0_1).bind fun q0_2 => (if q0_2.1 = 0 then (some (0, q0_2.2)) else ((fX4_pass 41 q0_2.2).bind fun q0_3 => (if q0_3.1 = 0 then (some (0, q0_3.2)) else (some (1, wi q0_3.2 3 4 ((q0_3.2.1 3 4) - 1))))))))) else ((fX4_refuse 2 st).bind fun q0_4 => (gc (gB q0_4.1) (some (q0_4.1, q0_4.2))))
set_option maxRecDepth 100000 in
set_option maxHeartbeats 4000000 in
theorem bX4_readBrackets_0  (hC : CallFix p m c cX4_readBrackets 1 s args lw_good RX4) (hret : meth.sig.returnType = (some .boolean)) (hlk : meth.locks = false) (hU : gU 0 D cA ad s)  {rc ro : gS → Option (Int32 × gS)} {Lr : Nat} (hLr : 20 ≤ Lr) (hrc : ∀ {st st' : gS} {r : Int32}, rc st = some (r, st') → gM l yX4_readOr cX4_readOr 2 (some .boolean) (Lr + 2) 0 D cA ad st [.ref (ad 3)] (some (.int r)) st') (hro : ∀ {st st' : gS} {r : Int32}, ro st = some (r, st') → gM l yX4_readOne cX4_readOne 2 (some .boolean) Lr 0 D cA ad st [.ref (ad 3)] (some (.int r)) st') {r : Int32} {st' : gS}   {st : gS} {H : Heap} {locs : List Loc} {ls : Array Slot} (hf : fX4_readBrackets rc ro st = some (r, st')) (hH : gP0 0 D cA ad st H) (hS : va_S (gA 0 ad) s.heap H locs) (hl : lv_has ls 1 [(0, .ref (ad 3))]) : W p l e (gRm (Lr + 3)) s m args below meth c H locs 0 0 (MQ below (gQc 0 D cA ad st' (some (.int r))) args s 0 0 (gA 0 ad)) (F0 m 0 ls []) := by
  obtain ⟨hx, hb, hml, hown, hts⟩ := id hC
  unfold fX4_readBrackets at hf
  refine lv_aload_n (pc := 0) hx hb dX4_readBrackets_0 rfl (lv_at hl 0 rfl) ?_
  refine g_get (pc := 1) (v := .int (st.1 3 4)) hC hU hH gk0_3 g_cl4 4 (by decide) kf_X4_25 rfl dX4_readBrackets_1 ?_
  refine lv_bipush (v := 6) (pc := 4) hx hb dX4_readBrackets_4 (by decide) ?_
  refine lv_icmp_le (tgt := 15) (pc := 6) hx hb dX4_readBrackets_6 (by decide) (fun hc => ?_) (fun hc => ?_)
  · have hf := gif_p hc hf
    refine lv_aload_n (pc := 15) hx hb dX4_readBrackets_15 rfl (lv_at hl 0 rfl) ?_
    refine lv_dup (pc := 16) hx hb dX4_readBrackets_16 rfl ?_
    refine g_get (pc := 17) (v := .int (st.1 3 4)) hC hU hH gk0_3 g_cl4 4 (by decide) kf_X4_25 rfl dX4_readBrackets_17 ?_
    refine lv_iconst (v := 1) (pc := 20) hx hb dX4_readBrackets_20 (by decide) ?_
    refine lv_iadd (pc := 21) hx hb dX4_readBrackets_21 ?_
    refine g_puti (pc := 22) hC hU hH hS gk0_3 g_cl4 4 (by decide) kf_X4_25 rfl rfl rfl rfl dX4_readBrackets_22 (fun H locs hH hS => ?_)
    refine lv_aload_n (pc := 25) hx hb dX4_readBrackets_25 rfl (lv_at hl 0 rfl) ?_
    refine g_get (pc := 26) (v := .ref (ad ((wi st 3 4 ((st.1 3 4) + 1)).2.2 3 1))) hC hU hH gk0_3 g_cl4 1 (by decide) kf_X4_12 rfl dX4_readBrackets_26 ?_
    obtain ⟨h0_1, hf⟩ := gc_s hf
    refine g_get (pc := 29) (v := .ref (ad (((wi st 3 4 ((st.1 3 4) + 1)).2.2 3 1) + 1 + 11))) hC hU hH h0_1 g_cl8 11 (by decide) kf_X4_155 rfl dX4_readBrackets_29 ?_
    refine lv_dup (pc := 32) hx hb dX4_readBrackets_32 rfl ?_
    refine g_get (pc := 33) (v := .int ((wi st 3 4 ((st.1 3 4) + 1)).1 (((wi st 3 4 ((st.1 3 4) + 1)).2.2 3 1) + 1 + 11) 3)) hC hU hH (gk_8_11 h0_1) g_cl0 3 (by decide) kf_X4_192 rfl dX4_readBrackets_33 ?_
    refine lv_iconst (v := 1) (pc := 36) hx hb dX4_readBrackets_36 (by decide) ?_
    refine lv_iadd (pc := 37) hx hb dX4_readBrackets_37 ?_
    refine g_puti (pc := 38) hC hU hH hS (gk_8_11 h0_1) g_cl0 3 (by decide) kf_X4_192 rfl rfl rfl rfl dX4_readBrackets_38 (fun H locs hH hS => ?_)
    refine lv_aload_n (pc := 41) hx hb dX4_readBrackets_41 rfl (lv_at hl 0 rfl) ?_
    refine g_get (pc := 42) (v := .ref (ad 19)) hC hU hH gk0_3 g_cl4 0 (by decide) kf_X4_40 rfl dX4_readBrackets_42 ?_
    obtain ⟨q0_1, hq0_1, hf⟩ := gbd hf
    refine g_callVv (pc := 45) (rest := []) hC hU hH hS hl.1 gk0_19 rfl (by decide) (mX7_step  hq0_1) ky_X7_step km_X4_83 (g_rm (by omega) (by decide)) ⟨Nat.zero_le _, Nat.zero_le _⟩ rfl (Nat.le_of_ble_eq_true rfl) dX4_readBrackets_45 rfl (fun H locs hH hS => ?_)
    refine lv_aload_n (pc := 48) hx hb dX4_readBrackets_48 rfl (lv_at hl 0 rfl) ?_
    obtain ⟨q0_2, hq0_2, hf⟩ := gbd hf
    refine g_callVi (pc := 49) (rest := []) hC hU hH hS hl.1 gk0_3 rfl (by decide) (hrc hq0_2) ky_X4_readOr km_X4_164 (g_rm (by omega) (by decide)) ⟨Nat.zero_le _, Nat.zero_le _⟩ rfl (Nat.le_of_ble_eq_true rfl) dX4_readBrackets_49 rfl (fun H locs hH hS => ?_)
    refine lv_if_eq (tgt := 64) (pc := 52) hx hb dX4_readBrackets_52 (by decide) (fun hc => ?_) (fun hc => ?_)
    · have hf := gif_p hc hf
      refine lv_iconst (v := 0) (pc := 64) hx hb dX4_readBrackets_64 (by decide) ?_
      exact g_zret (pc := 65) hC hret hlk hH hS (by decide) hf dX4_readBrackets_65
    · have hf := gif_n hc hf
      refine lv_aload_n (pc := 55) hx hb dX4_readBrackets_55 rfl (lv_at hl 0 rfl) ?_
      refine lv_bipush (v := 41) (pc := 56) hx hb dX4_readBrackets_56 (by decide) ?_
      obtain ⟨q0_3, hq0_3, hf⟩ := gbd hf
      refine g_callVi (pc := 58) (rest := []) hC hU hH hS hl.1 gk0_3 rfl (by decide) (mX4_pass  hq0_3) ky_X4_pass km_X4_111 (g_rm (by omega) (by decide)) ⟨Nat.zero_le _, Nat.zero_le _⟩ rfl (Nat.le_of_ble_eq_true rfl) dX4_readBrackets_58 rfl (fun H locs hH hS => ?_)
      refine lv_if_ne (tgt := 66) (pc := 61) hx hb dX4_readBrackets_61 (by decide) (fun hc => ?_) (fun hc => ?_)
      · have hf := gif_n hc hf
        refine lv_aload_n (pc := 66) hx hb dX4_readBrackets_66 rfl (lv_at hl 0 rfl) ?_
        refine lv_dup (pc := 67) hx hb dX4_readBrackets_67 rfl ?_
        refine g_get (pc := 68) (v := .int (q0_3.2.1 3 4)) hC hU hH gk0_3 g_cl4 4 (by decide) kf_X4_25 rfl dX4_readBrackets_68 ?_
        refine lv_iconst (v := 1) (pc := 71) hx hb dX4_readBrackets_71 (by decide) ?_
        refine lv_isub (pc := 72) hx hb dX4_readBrackets_72 ?_
        refine g_puti (pc := 73) hC hU hH hS gk0_3 g_cl4 4 (by decide) kf_X4_25 rfl rfl rfl rfl dX4_readBrackets_73 (fun H locs hH hS => ?_)
        refine lv_iconst (v := 1) (pc := 76) hx hb dX4_readBrackets_76 (by decide) ?_
        exact g_zret (pc := 77) hC hret hlk hH hS (by decide) hf dX4_readBrackets_77
      · have hf := gif_p hc hf
        refine lv_iconst (v := 0) (pc := 64) hx hb dX4_readBrackets_64 (by decide) ?_
        exact g_zret (pc := 65) hC hret hlk hH hS (by decide) hf dX4_readBrackets_65
  · have hf := gif_n hc hf
    refine lv_aload_n (pc := 9) hx hb dX4_readBrackets_9 rfl (lv_at hl 0 rfl) ?_
    refine lv_iconst (v := 2) (pc := 10) hx hb dX4_readBrackets_10 (by decide) ?_
    obtain ⟨q0_4, hq0_4, hf⟩ := gbd hf
    refine g_callVi (pc := 11) (rest := []) hC hU hH hS hl.1 gk0_3 rfl (by decide) (mX4_refuse  hq0_4) ky_X4_refuse km_X4_79 (g_rm (by omega) (by decide)) ⟨Nat.zero_le _, Nat.zero_le _⟩ rfl (Nat.le_of_ble_eq_true rfl) dX4_readBrackets_11 rfl (fun H locs hH hS => ?_)
    obtain ⟨h0_2, hf⟩ := gc_s hf
    exact g_zret (pc := 14) hC hret hlk hH hS h0_2 hf dX4_readBrackets_14
set_option maxRecDepth 100000 in
set_option maxHeartbeats 4000000 in
theorem mX4_readBrackets {l : Launch} {D : va_G} {cA : Nat → ClassId} {ad : Nat → Nat}   {rc ro : gS → Option (Int32 × gS)} {Lr : Nat} (hLr : 20 ≤ Lr) (hrc : ∀ {st st' : gS} {r : Int32}, rc st = some (r, st') → gM l yX4_readOr cX4_readOr 2 (some .boolean) (Lr + 2) 0 D cA ad st [.ref (ad 3)] (some (.int r)) st') (hro : ∀ {st st' : gS} {r : Int32}, ro st = some (r, st') → gM l yX4_readOne cX4_readOne 2 (some .boolean) Lr 0 D cA ad st [.ref (ad 3)] (some (.int r)) st') {r : Int32} {st st' : gS} (hf : fX4_readBrackets rc ro st = some (r, st')) : gM l yX4_readBrackets cX4_readBrackets 1 (some .boolean) (Lr + 3) 0 D cA ad st [.ref (ad 3)] (some (.int r)) st' := by
  refine g_met (by decide) (Nat.le_of_ble_eq_true rfl) ?_
  intro p e s m args below meth c ls hC hret hlk hU hH hl
  exact bX4_readBrackets_0 hC hret hlk hU hLr hrc hro hf hH va_S.rf hl
def fX4_readUnit_122  (rc ro : gS → Option (Int32 × gS))   (st : gS) : Option (Int32 × gS) :=
  gc (gK 0 (st.2.2 3 1) = 8) ((fX0_addWord ((st.2.2 3 1) + 1 + 11) (st.1 19 2) st).bind fun q122_1 => ((fX7_step q122_1).bind fun q122_2 => (some (1, q122_2))))
set_option maxRecDepth 100000 in
set_option maxHeartbeats 4000000 in
theorem bX4_readUnit_122  (hC : CallFix p m c cX4_readUnit 1 s args lw_good RX4) (hret : meth.sig.returnType = (some .boolean)) (hlk : meth.locks = false) (hU : gU 0 D cA ad s)  {rc ro : gS → Option (Int32 × gS)} {Lr : Nat} (hLr : 20 ≤ Lr) (hrc : ∀ {st st' : gS} {r : Int32}, rc st = some (r, st') → gM l yX4_readOr cX4_readOr 2 (some .boolean) (Lr + 2) 0 D cA ad st [.ref (ad 3)] (some (.int r)) st') (hro : ∀ {st st' : gS} {r : Int32}, ro st = some (r, st') → gM l yX4_readOne cX4_readOne 2 (some .boolean) Lr 0 D cA ad st [.ref (ad 3)] (some (.int r)) st') {r : Int32} {st' : gS}   {st : gS} {H : Heap} {locs : List Loc} {ls : Array Slot} (hf : fX4_readUnit_122 rc ro st = some (r, st')) (hH : gP0 0 D cA ad st H) (hS : va_S (gA 0 ad) s.heap H locs) (hl : lv_has ls 1 [(0, .ref (ad 3))]) : W p l e (gRm (Lr + 4)) s m args below meth c H locs 0 0 (MQ below (gQc 0 D cA ad st' (some (.int r))) args s 0 0 (gA 0 ad)) (F0 m 122 ls []) := by
  obtain ⟨hx, hb, hml, hown, hts⟩ := id hC
  unfold fX4_readUnit_122 at hf
  refine lv_aload_n (pc := 122) hx hb dX4_readUnit_122 rfl (lv_at hl 0 rfl) ?_
  refine g_get (pc := 123) (v := .ref (ad (st.2.2 3 1))) hC hU hH gk0_3 g_cl4 1 (by decide) kf_X4_12 rfl dX4_readUnit_123 ?_
  obtain ⟨h122_1, hf⟩ := gc_s hf
  refine g_get (pc := 126) (v := .ref (ad ((st.2.2 3 1) + 1 + 11))) hC hU hH h122_1 g_cl8 11 (by decide) kf_X4_155 rfl dX4_readUnit_126 ?_
  refine lv_aload_n (pc := 129) hx hb dX4_readUnit_129 rfl (lv_at hl 0 rfl) ?_
  refine g_get (pc := 130) (v := .ref (ad 19)) hC hU hH gk0_3 g_cl4 0 (by decide) kf_X4_40 rfl dX4_readUnit_130 ?_
  refine g_get (pc := 133) (v := .int (st.1 19 2)) hC hU hH gk0_19 g_cl7 2 (by decide) kf_X4_53 rfl dX4_readUnit_133 ?_
  obtain ⟨q122_1, hq122_1, hf⟩ := gbd hf
  refine g_callVv (pc := 136) (rest := []) hC hU hH hS hl.1 (gk_8_11 h122_1) rfl (by decide) (mX0_addWord (gk_8_11 h122_1) hq122_1) ky_X0_addWord km_X4_198 (g_rm (by omega) (by decide)) ⟨Nat.zero_le _, Nat.zero_le _⟩ rfl (Nat.le_of_ble_eq_true rfl) dX4_readUnit_136 rfl (fun H locs hH hS => ?_)
  refine lv_aload_n (pc := 139) hx hb dX4_readUnit_139 rfl (lv_at hl 0 rfl) ?_
  refine g_get (pc := 140) (v := .ref (ad 19)) hC hU hH gk0_3 g_cl4 0 (by decide) kf_X4_40 rfl dX4_readUnit_140 ?_
  obtain ⟨q122_2, hq122_2, hf⟩ := gbd hf
  refine g_callVv (pc := 143) (rest := []) hC hU hH hS hl.1 gk0_19 rfl (by decide) (mX7_step  hq122_2) ky_X7_step km_X4_83 (g_rm (by omega) (by decide)) ⟨Nat.zero_le _, Nat.zero_le _⟩ rfl (Nat.le_of_ble_eq_true rfl) dX4_readUnit_143 rfl (fun H locs hH hS => ?_)
  refine lv_iconst (v := 1) (pc := 146) hx hb dX4_readUnit_146 (by decide) ?_
  exact g_zret (pc := 147) hC hret hlk hH hS (by decide) hf dX4_readUnit_147
def fX4_readUnit  (rc ro : gS → Option (Int32 × gS))   (st : gS) : Option (Int32 × gS) :=
  gc (gK 0 (st.2.2 3 1) = 8) (if (st.1 ((st.2.2 3 1) + 1 + 11) 3) < 30 then (if (st.1 19 2) = 2 then (fX4_readUnit_122 rc ro st) else if (st.1 19 2) = 7 then (fX4_readUnit_122 rc ro st) else if (st.1 19 2) = 16 then (fX4_readUnit_122 rc ro st) else if (st.1 19 2) = 17 then (fX4_readUnit_122 rc ro st) else if (st.1 19 2) = 18 then (fX4_readUnit_122 rc ro st) else if (st.1 19 2) = 20 then (gc (gK 0 (st.2.2 3 1) = 8) ((fX0_addNumber ((st.2.2 3 1) + 1 + 11) (st.1 19 4) st).bind fun q0_1 => ((fX7_step q0_1).bind fun q0_2 => (some (1, q0_2))))) else if (st.1 19 2) = 40 then ((fX4_readBrackets rc ro st).bind fun q0_3 => (gc (gB q0_3.1) (some (q0_3.1, q0_3.2)))) else ((fX4_refuse 2 st).bind fun q0_4 => (gc (gB q0_4.1) (some (q0_4.1, q0_4.2))))) else ((fX4_refuse 2 st).bind fun q0_5 => (gc (gB q0_5.1) (some (q0_5.1, q0_5.2)))))
set_option maxRecDepth 100000 in
set_option maxHeartbeats 4000000 in
theorem bX4_readUnit_0  (hC : CallFix p m c cX4_readUnit 1 s args lw_good RX4) (hret : meth.sig.returnType = (some .boolean)) (hlk : meth.locks = false) (hU : gU 0 D cA ad s)  {rc ro : gS → Option (Int32 × gS)} {Lr : Nat} (hLr : 20 ≤ Lr) (hrc : ∀ {st st' : gS} {r : Int32}, rc st = some (r, st') → gM l yX4_readOr cX4_readOr 2 (some .boolean) (Lr + 2) 0 D cA ad st [.ref (ad 3)] (some (.int r)) st') (hro : ∀ {st st' : gS} {r : Int32}, ro st = some (r, st') → gM l yX4_readOne cX4_readOne 2 (some .boolean) Lr 0 D cA ad st [.ref (ad 3)] (some (.int r)) st') {r : Int32} {st' : gS}   {st : gS} {H : Heap} {locs : List Loc} {ls : Array Slot} (hf : fX4_readUnit rc ro st = some (r, st')) (hH : gP0 0 D cA ad st H) (hS : va_S (gA 0 ad) s.heap H locs) (hl : lv_has ls 1 [(0, .ref (ad 3))]) : W p l e (gRm (Lr + 4)) s m args below meth c H locs 0 0 (MQ below (gQc 0 D cA ad st' (some (.int r))) args s 0 0 (gA 0 ad)) (F0 m 0 ls []) := by
  obtain ⟨hx, hb, hml, hown, hts⟩ := id hC
  unfold fX4_readUnit at hf
  refine lv_aload_n (pc := 0) hx hb dX4_readUnit_0 rfl (lv_at hl 0 rfl) ?_
  refine g_get (pc := 1) (v := .ref (ad (st.2.2 3 1))) hC hU hH gk0_3 g_cl4 1 (by decide) kf_X4_12 rfl dX4_readUnit_1 ?_
  obtain ⟨h0_1, hf⟩ := gc_s hf
  refine g_get (pc := 4) (v := .ref (ad ((st.2.2 3 1) + 1 + 11))) hC hU hH h0_1 g_cl8 11 (by decide) kf_X4_155 rfl dX4_readUnit_4 ?_
  refine g_get (pc := 7) (v := .int (st.1 ((st.2.2 3 1) + 1 + 11) 3)) hC hU hH (gk_8_11 h0_1) g_cl0 3 (by decide) kf_X4_192 rfl dX4_readUnit_7 ?_
  refine lv_bipush (v := 30) (pc := 10) hx hb dX4_readUnit_10 (by decide) ?_
  refine lv_icmp_lt (tgt := 21) (pc := 12) hx hb dX4_readUnit_12 (by decide) (fun hc => ?_) (fun hc => ?_)
  · have hf := gif_p hc hf
    refine lv_aload_n (pc := 21) hx hb dX4_readUnit_21 rfl (lv_at hl 0 rfl) ?_
    refine g_get (pc := 22) (v := .ref (ad 19)) hC hU hH gk0_3 g_cl4 0 (by decide) kf_X4_40 rfl dX4_readUnit_22 ?_
    refine g_get (pc := 25) (v := .int (st.1 19 2)) hC hU hH gk0_19 g_cl7 2 (by decide) kf_X4_53 rfl dX4_readUnit_25 ?_
    by_cases hw28_2 : (st.1 19 2) = 2
    · have hf := gif_p hw28_2 hf
      refine g_lswI (tgt := 122) (off := 94) (pc := 28) hx hb hw28_2 dX4_readUnit_28 (by decide) (by decide) (by decide) ?_
      exact bX4_readUnit_122 hC hret hlk hU hLr hrc hro hf hH hS (lv_sub hl [0] rfl)
    · have hf := gif_n hw28_2 hf
      by_cases hw28_7 : (st.1 19 2) = 7
      · have hf := gif_p hw28_7 hf
        refine g_lswI (tgt := 122) (off := 94) (pc := 28) hx hb hw28_7 dX4_readUnit_28 (by decide) (by decide) (by decide) ?_
        exact bX4_readUnit_122 hC hret hlk hU hLr hrc hro hf hH hS (lv_sub hl [0] rfl)
      · have hf := gif_n hw28_7 hf
        by_cases hw28_16 : (st.1 19 2) = 16
        · have hf := gif_p hw28_16 hf
          refine g_lswI (tgt := 122) (off := 94) (pc := 28) hx hb hw28_16 dX4_readUnit_28 (by decide) (by decide) (by decide) ?_
          exact bX4_readUnit_122 hC hret hlk hU hLr hrc hro hf hH hS (lv_sub hl [0] rfl)
        · have hf := gif_n hw28_16 hf
          by_cases hw28_17 : (st.1 19 2) = 17
          · have hf := gif_p hw28_17 hf
            refine g_lswI (tgt := 122) (off := 94) (pc := 28) hx hb hw28_17 dX4_readUnit_28 (by decide) (by decide) (by decide) ?_
            exact bX4_readUnit_122 hC hret hlk hU hLr hrc hro hf hH hS (lv_sub hl [0] rfl)
          · have hf := gif_n hw28_17 hf
            by_cases hw28_18 : (st.1 19 2) = 18
            · have hf := gif_p hw28_18 hf
              refine g_lswI (tgt := 122) (off := 94) (pc := 28) hx hb hw28_18 dX4_readUnit_28 (by decide) (by decide) (by decide) ?_
              exact bX4_readUnit_122 hC hret hlk hU hLr hrc hro hf hH hS (lv_sub hl [0] rfl)
            · have hf := gif_n hw28_18 hf
              by_cases hw28_20 : (st.1 19 2) = 20
              · have hf := gif_p hw28_20 hf
                refine g_lswI (tgt := 96) (off := 68) (pc := 28) hx hb hw28_20 dX4_readUnit_28 (by decide) (by decide) (by decide) ?_
                refine lv_aload_n (pc := 96) hx hb dX4_readUnit_96 rfl (lv_at hl 0 rfl) ?_
                refine g_get (pc := 97) (v := .ref (ad (st.2.2 3 1))) hC hU hH gk0_3 g_cl4 1 (by decide) kf_X4_12 rfl dX4_readUnit_97 ?_
                obtain ⟨h0_2, hf⟩ := gc_s hf
                refine g_get (pc := 100) (v := .ref (ad ((st.2.2 3 1) + 1 + 11))) hC hU hH h0_2 g_cl8 11 (by decide) kf_X4_155 rfl dX4_readUnit_100 ?_
                refine lv_aload_n (pc := 103) hx hb dX4_readUnit_103 rfl (lv_at hl 0 rfl) ?_
                refine g_get (pc := 104) (v := .ref (ad 19)) hC hU hH gk0_3 g_cl4 0 (by decide) kf_X4_40 rfl dX4_readUnit_104 ?_
                refine g_get (pc := 107) (v := .int (st.1 19 4)) hC hU hH gk0_19 g_cl7 4 (by decide) kf_X4_86 rfl dX4_readUnit_107 ?_
                obtain ⟨q0_1, hq0_1, hf⟩ := gbd hf
                refine g_callVv (pc := 110) (rest := []) hC hU hH hS hl.1 (gk_8_11 h0_2) rfl (by decide) (mX0_addNumber (gk_8_11 h0_2) hq0_1) ky_X0_addNumber km_X4_195 (g_rm (by omega) (by decide)) ⟨Nat.zero_le _, Nat.zero_le _⟩ rfl (Nat.le_of_ble_eq_true rfl) dX4_readUnit_110 rfl (fun H locs hH hS => ?_)
                refine lv_aload_n (pc := 113) hx hb dX4_readUnit_113 rfl (lv_at hl 0 rfl) ?_
                refine g_get (pc := 114) (v := .ref (ad 19)) hC hU hH gk0_3 g_cl4 0 (by decide) kf_X4_40 rfl dX4_readUnit_114 ?_
                obtain ⟨q0_2, hq0_2, hf⟩ := gbd hf
                refine g_callVv (pc := 117) (rest := []) hC hU hH hS hl.1 gk0_19 rfl (by decide) (mX7_step  hq0_2) ky_X7_step km_X4_83 (g_rm (by omega) (by decide)) ⟨Nat.zero_le _, Nat.zero_le _⟩ rfl (Nat.le_of_ble_eq_true rfl) dX4_readUnit_117 rfl (fun H locs hH hS => ?_)
                refine lv_iconst (v := 1) (pc := 120) hx hb dX4_readUnit_120 (by decide) ?_
                exact g_zret (pc := 121) hC hret hlk hH hS (by decide) hf dX4_readUnit_121
              · have hf := gif_n hw28_20 hf
                by_cases hw28_40 : (st.1 19 2) = 40
                · have hf := gif_p hw28_40 hf
                  refine g_lswI (tgt := 148) (off := 120) (pc := 28) hx hb hw28_40 dX4_readUnit_28 (by decide) (by decide) (by decide) ?_
                  refine lv_aload_n (pc := 148) hx hb dX4_readUnit_148 rfl (lv_at hl 0 rfl) ?_
                  obtain ⟨q0_3, hq0_3, hf⟩ := gbd hf
                  refine g_callVi (pc := 149) (rest := []) hC hU hH hS hl.1 gk0_3 rfl (by decide) (mX4_readBrackets hLr hrc hro hq0_3) ky_X4_readBrackets km_X4_201 (g_rm (by omega) (by decide)) ⟨Nat.zero_le _, Nat.zero_le _⟩ rfl (Nat.le_of_ble_eq_true rfl) dX4_readUnit_149 rfl (fun H locs hH hS => ?_)
                  obtain ⟨h0_3, hf⟩ := gc_s hf
                  exact g_zret (pc := 152) hC hret hlk hH hS h0_3 hf dX4_readUnit_152
                · have hf := gif_n hw28_40 hf
                  refine g_lswO (tgt := 153) (pc := 28) hx hb dX4_readUnit_28 (by decide) (by show Op.lookupswitch.offset [(2, 94), (7, 94), (16, 94), (17, 94), (18, 94), (20, 68), (40, 120)] (125) _ = (125); rw [lv_osw hw28_2 (by decide), lv_osw hw28_7 (by decide), lv_osw hw28_16 (by decide), lv_osw hw28_17 (by decide), lv_osw hw28_18 (by decide), lv_osw hw28_20 (by decide), lv_osw hw28_40 (by decide)]; rfl) (by decide) ?_
                  refine lv_aload_n (pc := 153) hx hb dX4_readUnit_153 rfl (lv_at hl 0 rfl) ?_
                  refine lv_iconst (v := 2) (pc := 154) hx hb dX4_readUnit_154 (by decide) ?_
                  obtain ⟨q0_4, hq0_4, hf⟩ := gbd hf
                  refine g_callVi (pc := 155) (rest := []) hC hU hH hS hl.1 gk0_3 rfl (by decide) (mX4_refuse  hq0_4) ky_X4_refuse km_X4_79 (g_rm (by omega) (by decide)) ⟨Nat.zero_le _, Nat.zero_le _⟩ rfl (Nat.le_of_ble_eq_true rfl) dX4_readUnit_155 rfl (fun H locs hH hS => ?_)
                  obtain ⟨h0_4, hf⟩ := gc_s hf
                  exact g_zret (pc := 158) hC hret hlk hH hS h0_4 hf dX4_readUnit_158
  · have hf := gif_n hc hf
    refine lv_aload_n (pc := 15) hx hb dX4_readUnit_15 rfl (lv_at hl 0 rfl) ?_
    refine lv_iconst (v := 2) (pc := 16) hx hb dX4_readUnit_16 (by decide) ?_
    obtain ⟨q0_5, hq0_5, hf⟩ := gbd hf
    refine g_callVi (pc := 17) (rest := []) hC hU hH hS hl.1 gk0_3 rfl (by decide) (mX4_refuse  hq0_5) ky_X4_refuse km_X4_79 (g_rm (by omega) (by decide)) ⟨Nat.zero_le _, Nat.zero_le _⟩ rfl (Nat.le_of_ble_eq_true rfl) dX4_readUnit_17 rfl (fun H locs hH hS => ?_)
    obtain ⟨h0_5, hf⟩ := gc_s hf
    exact g_zret (pc := 20) hC hret hlk hH hS h0_5 hf dX4_readUnit_20
set_option maxRecDepth 100000 in
set_option maxHeartbeats 4000000 in
theorem mX4_readUnit {l : Launch} {D : va_G} {cA : Nat → ClassId} {ad : Nat → Nat}   {rc ro : gS → Option (Int32 × gS)} {Lr : Nat} (hLr : 20 ≤ Lr) (hrc : ∀ {st st' : gS} {r : Int32}, rc st = some (r, st') → gM l yX4_readOr cX4_readOr 2 (some .boolean) (Lr + 2) 0 D cA ad st [.ref (ad 3)] (some (.int r)) st') (hro : ∀ {st st' : gS} {r : Int32}, ro st = some (r, st') → gM l yX4_readOne cX4_readOne 2 (some .boolean) Lr 0 D cA ad st [.ref (ad 3)] (some (.int r)) st') {r : Int32} {st st' : gS} (hf : fX4_readUnit rc ro st = some (r, st')) : gM l yX4_readUnit cX4_readUnit 1 (some .boolean) (Lr + 4) 0 D cA ad st [.ref (ad 3)] (some (.int r)) st' := by
  refine g_met (by decide) (Nat.le_of_ble_eq_true rfl) ?_
  intro p e s m args below meth c ls hC hret hlk hU hH hl
  exact bX4_readUnit_0 hC hret hlk hU hLr hrc hro hf hH va_S.rf hl
def fX4_readTerm_11  (rc ro : gS → Option (Int32 × gS)) (k11 : Int32 → gS → Option (Int32 × gS)) (l1 : Int32) (st : gS) : Option (Int32 × gS) :=
  if 30 ≤ l1 then (some (1, st)) else ((fX4_isTimes (st.1 19 2) st).bind fun q11_1 => (if q11_1.1 = 0 then (some (1, q11_1.2)) else ((fX7_step q11_1.2).bind fun q11_2 => ((fX4_readUnit rc ro q11_2).bind fun q11_3 => (if q11_3.1 = 0 then (some (0, q11_3.2)) else (gc (gK 0 (q11_3.2.2.2 3 1) = 8) ((fX0_addStep ((q11_3.2.2.2 3 1) + 1 + 11) (q11_1.2.1 19 2) q11_3.2).bind fun q11_4 => (k11 (l1 + 1) q11_4))))))))
set_option maxRecDepth 100000 in
set_option maxHeartbeats 4000000 in
theorem bX4_readTerm_11  (hC : CallFix p m c cX4_readTerm 3 s args lw_good RX4) (hret : meth.sig.returnType = (some .boolean)) (hlk : meth.locks = false) (hU : gU 0 D cA ad s)  {rc ro : gS → Option (Int32 × gS)} {Lr : Nat} (hLr : 20 ≤ Lr) (hrc : ∀ {st st' : gS} {r : Int32}, rc st = some (r, st') → gM l yX4_readOr cX4_readOr 2 (some .boolean) (Lr + 2) 0 D cA ad st [.ref (ad 3)] (some (.int r)) st') (hro : ∀ {st st' : gS} {r : Int32}, ro st = some (r, st') → gM l yX4_readOne cX4_readOne 2 (some .boolean) Lr 0 D cA ad st [.ref (ad 3)] (some (.int r)) st') {r : Int32} {st' : gS} {k11 : Int32 → gS → Option (Int32 × gS)} (hk11 : ∀ {l1 : Int32} {st : gS} {H : Heap} {locs : List Loc} {ls : Array Slot}, k11 l1 st = some (r, st') → gP0 0 D cA ad st H → va_S (gA 0 ad) s.heap H locs → lv_has ls 3 [(0, .ref (ad 3)), (1, .int l1)] → W p l e (gRm (Lr + 5)) s m args below meth c H locs 0 0 (MQ below (gQc 0 D cA ad st' (some (.int r))) args s 0 0 (gA 0 ad)) (F0 m 11 ls [])) {l1 : Int32} {st : gS} {H : Heap} {locs : List Loc} {ls : Array Slot} (hf : fX4_readTerm_11 rc ro k11 l1 st = some (r, st')) (hH : gP0 0 D cA ad st H) (hS : va_S (gA 0 ad) s.heap H locs) (hl : lv_has ls 3 [(0, .ref (ad 3)), (1, .int l1)]) : W p l e (gRm (Lr + 5)) s m args below meth c H locs 0 0 (MQ below (gQc 0 D cA ad st' (some (.int r))) args s 0 0 (gA 0 ad)) (F0 m 11 ls []) := by
  obtain ⟨hx, hb, hml, hown, hts⟩ := id hC
  unfold fX4_readTerm_11 at hf
  refine lv_iload_n (pc := 11) hx hb dX4_readTerm_11 rfl (lv_at hl 1 rfl) ?_
  refine lv_bipush (v := 30) (pc := 12) hx hb dX4_readTerm_12 (by decide) ?_
  refine lv_icmp_ge (tgt := 71) (pc := 14) hx hb dX4_readTerm_14 (by decide) (fun hc => ?_) (fun hc => ?_)
  · have hf := gif_p hc hf
    refine lv_iconst (v := 1) (pc := 71) hx hb dX4_readTerm_71 (by decide) ?_
    exact g_zret (pc := 72) hC hret hlk hH hS (by decide) hf dX4_readTerm_72
  · have hf := gif_n hc hf
    refine lv_aload_n (pc := 17) hx hb dX4_readTerm_17 rfl (lv_at hl 0 rfl) ?_
    refine g_get (pc := 18) (v := .ref (ad 19)) hC hU hH gk0_3 g_cl4 0 (by decide) kf_X4_40 rfl dX4_readTerm_18 ?_
    refine g_get (pc := 21) (v := .int (st.1 19 2)) hC hU hH gk0_19 g_cl7 2 (by decide) kf_X4_53 rfl dX4_readTerm_21 ?_
    obtain ⟨q11_1, hq11_1, hf⟩ := gbd hf
    refine g_callSi (pc := 24) (rest := []) hC hU hH hS hl.1 (mX4_isTimes  hq11_1) ky_X4_isTimes km_X4_189 (g_rm (by omega) (by decide)) ⟨Nat.zero_le _, Nat.zero_le _⟩ rfl (Nat.le_of_ble_eq_true rfl) dX4_readTerm_24 rfl (fun H locs hH hS => ?_)
    refine lv_if_eq (tgt := 71) (pc := 27) hx hb dX4_readTerm_27 (by decide) (fun hc => ?_) (fun hc => ?_)
    · have hf := gif_p hc hf
      refine lv_iconst (v := 1) (pc := 71) hx hb dX4_readTerm_71 (by decide) ?_
      exact g_zret (pc := 72) hC hret hlk hH hS (by decide) hf dX4_readTerm_72
    · have hf := gif_n hc hf
      refine lv_aload_n (pc := 30) hx hb dX4_readTerm_30 rfl (lv_at hl 0 rfl) ?_
      refine g_get (pc := 31) (v := .ref (ad 19)) hC hU hH gk0_3 g_cl4 0 (by decide) kf_X4_40 rfl dX4_readTerm_31 ?_
      refine g_get (pc := 34) (v := .int (q11_1.2.1 19 2)) hC hU hH gk0_19 g_cl7 2 (by decide) kf_X4_53 rfl dX4_readTerm_34 ?_
      refine lv_istore_n (lv' := [(2, .int (q11_1.2.1 19 2)), (0, .ref (ad 3)), (1, .int l1)]) (pc := 37) hx hb dX4_readTerm_37 rfl hl (by decide) rfl (fun ls hl => ?_)
      refine lv_aload_n (pc := 38) hx hb dX4_readTerm_38 rfl (lv_at hl 1 rfl) ?_
      refine g_get (pc := 39) (v := .ref (ad 19)) hC hU hH gk0_3 g_cl4 0 (by decide) kf_X4_40 rfl dX4_readTerm_39 ?_
      obtain ⟨q11_2, hq11_2, hf⟩ := gbd hf
      refine g_callVv (pc := 42) (rest := []) hC hU hH hS hl.1 gk0_19 rfl (by decide) (mX7_step  hq11_2) ky_X7_step km_X4_83 (g_rm (by omega) (by decide)) ⟨Nat.zero_le _, Nat.zero_le _⟩ rfl (Nat.le_of_ble_eq_true rfl) dX4_readTerm_42 rfl (fun H locs hH hS => ?_)
      refine lv_aload_n (pc := 45) hx hb dX4_readTerm_45 rfl (lv_at hl 1 rfl) ?_
      obtain ⟨q11_3, hq11_3, hf⟩ := gbd hf
      refine g_callVi (pc := 46) (rest := []) hC hU hH hS hl.1 gk0_3 rfl (by decide) (mX4_readUnit hLr hrc hro hq11_3) ky_X4_readUnit km_X4_186 (g_rm (by omega) (by decide)) ⟨Nat.zero_le _, Nat.zero_le _⟩ rfl (Nat.le_of_ble_eq_true rfl) dX4_readTerm_46 rfl (fun H locs hH hS => ?_)
      refine lv_if_ne (tgt := 54) (pc := 49) hx hb dX4_readTerm_49 (by decide) (fun hc => ?_) (fun hc => ?_)
      · have hf := gif_n hc hf
        refine lv_aload_n (pc := 54) hx hb dX4_readTerm_54 rfl (lv_at hl 1 rfl) ?_
        refine g_get (pc := 55) (v := .ref (ad (q11_3.2.2.2 3 1))) hC hU hH gk0_3 g_cl4 1 (by decide) kf_X4_12 rfl dX4_readTerm_55 ?_
        obtain ⟨h11_1, hf⟩ := gc_s hf
        refine g_get (pc := 58) (v := .ref (ad ((q11_3.2.2.2 3 1) + 1 + 11))) hC hU hH h11_1 g_cl8 11 (by decide) kf_X4_155 rfl dX4_readTerm_58 ?_
        refine lv_iload_n (pc := 61) hx hb dX4_readTerm_61 rfl (lv_at hl 0 rfl) ?_
        obtain ⟨q11_4, hq11_4, hf⟩ := gbd hf
        refine g_callVv (pc := 62) (rest := []) hC hU hH hS hl.1 (gk_8_11 h11_1) rfl (by decide) (mX0_addStep (gk_8_11 h11_1) hq11_4) ky_X0_addStep km_X4_170 (g_rm (by omega) (by decide)) ⟨Nat.zero_le _, Nat.zero_le _⟩ rfl (Nat.le_of_ble_eq_true rfl) dX4_readTerm_62 rfl (fun H locs hH hS => ?_)
        refine lv_iinc (v := l1 + 1) (lv' := [(1, .int (l1 + 1)), (2, .int (q11_1.2.1 19 2)), (0, .ref (ad 3))]) (k := 2) (pc := 65) hx hb dX4_readTerm_65 hl rfl rfl (by decide) rfl (fun ls hl => ?_)
        refine lv_goto (tgt := 11) (pc := 68) hx hb dX4_readTerm_68 (by decide) ?_
        exact hk11 hf hH hS (lv_sub hl [2, 0] rfl)
      · have hf := gif_p hc hf
        refine lv_iconst (v := 0) (pc := 52) hx hb dX4_readTerm_52 (by decide) ?_
        exact g_zret (pc := 53) hC hret hlk hH hS (by decide) hf dX4_readTerm_53
def hX4_readTerm_11  (rc ro : gS → Option (Int32 × gS))  : Nat → Int32 → gS → Option (Int32 × gS)
  | 0 => fun _ _ => none
  | n + 1 => fun l1 st => fX4_readTerm_11 rc ro (hX4_readTerm_11 rc ro n) l1 st
set_option maxRecDepth 100000 in
set_option maxHeartbeats 4000000 in
theorem wX4_readTerm_11  (hC : CallFix p m c cX4_readTerm 3 s args lw_good RX4) (hret : meth.sig.returnType = (some .boolean)) (hlk : meth.locks = false) (hU : gU 0 D cA ad s)  {rc ro : gS → Option (Int32 × gS)} {Lr : Nat} (hLr : 20 ≤ Lr) (hrc : ∀ {st st' : gS} {r : Int32}, rc st = some (r, st') → gM l yX4_readOr cX4_readOr 2 (some .boolean) (Lr + 2) 0 D cA ad st [.ref (ad 3)] (some (.int r)) st') (hro : ∀ {st st' : gS} {r : Int32}, ro st = some (r, st') → gM l yX4_readOne cX4_readOne 2 (some .boolean) Lr 0 D cA ad st [.ref (ad 3)] (some (.int r)) st') {r : Int32} {st' : gS}  : ∀ (n : Nat) {l1 : Int32} {st : gS} {H : Heap} {locs : List Loc} {ls : Array Slot}, hX4_readTerm_11 rc ro n l1 st = some (r, st') → gP0 0 D cA ad st H → va_S (gA 0 ad) s.heap H locs → lv_has ls 3 [(0, .ref (ad 3)), (1, .int l1)] → W p l e (gRm (Lr + 5)) s m args below meth c H locs 0 0 (MQ below (gQc 0 D cA ad st' (some (.int r))) args s 0 0 (gA 0 ad)) (F0 m 11 ls []) := by
  intro n
  induction n with
  | zero => intro l1 st H locs ls hf hH hS hl; cases hf
  | succ n ih =>
    intro l1 st H locs ls hf hH hS hl
    exact bX4_readTerm_11 (rc := rc) (ro := ro) hC hret hlk hU hLr hrc hro (fun hf hH hS hl => ih hf hH hS hl) hf hH hS hl
def fX4_readTerm  (rc ro : gS → Option (Int32 × gS))   (st : gS) : Option (Int32 × gS) :=
  (fX4_readUnit rc ro st).bind fun q0_1 => (if q0_1.1 = 0 then (some (0, q0_1.2)) else (hX4_readTerm_11 rc ro FU 0 q0_1.2))
set_option maxRecDepth 100000 in
set_option maxHeartbeats 4000000 in
theorem bX4_readTerm_0  (hC : CallFix p m c cX4_readTerm 3 s args lw_good RX4) (hret : meth.sig.returnType = (some .boolean)) (hlk : meth.locks = false) (hU : gU 0 D cA ad s)  {rc ro : gS → Option (Int32 × gS)} {Lr : Nat} (hLr : 20 ≤ Lr) (hrc : ∀ {st st' : gS} {r : Int32}, rc st = some (r, st') → gM l yX4_readOr cX4_readOr 2 (some .boolean) (Lr + 2) 0 D cA ad st [.ref (ad 3)] (some (.int r)) st') (hro : ∀ {st st' : gS} {r : Int32}, ro st = some (r, st') → gM l yX4_readOne cX4_readOne 2 (some .boolean) Lr 0 D cA ad st [.ref (ad 3)] (some (.int r)) st') {r : Int32} {st' : gS}   {st : gS} {H : Heap} {locs : List Loc} {ls : Array Slot} (hf : fX4_readTerm rc ro st = some (r, st')) (hH : gP0 0 D cA ad st H) (hS : va_S (gA 0 ad) s.heap H locs) (hl : lv_has ls 3 [(0, .ref (ad 3))]) : W p l e (gRm (Lr + 5)) s m args below meth c H locs 0 0 (MQ below (gQc 0 D cA ad st' (some (.int r))) args s 0 0 (gA 0 ad)) (F0 m 0 ls []) := by
  obtain ⟨hx, hb, hml, hown, hts⟩ := id hC
  unfold fX4_readTerm at hf
  refine lv_aload_n (pc := 0) hx hb dX4_readTerm_0 rfl (lv_at hl 0 rfl) ?_
  obtain ⟨q0_1, hq0_1, hf⟩ := gbd hf
  refine g_callVi (pc := 1) (rest := []) hC hU hH hS hl.1 gk0_3 rfl (by decide) (mX4_readUnit hLr hrc hro hq0_1) ky_X4_readUnit km_X4_186 (g_rm (by omega) (by decide)) ⟨Nat.zero_le _, Nat.zero_le _⟩ rfl (Nat.le_of_ble_eq_true rfl) dX4_readTerm_1 rfl (fun H locs hH hS => ?_)
  refine lv_if_ne (tgt := 9) (pc := 4) hx hb dX4_readTerm_4 (by decide) (fun hc => ?_) (fun hc => ?_)
  · have hf := gif_n hc hf
    refine lv_iconst (v := 0) (pc := 9) hx hb dX4_readTerm_9 (by decide) ?_
    refine lv_istore_n (lv' := [(1, .int 0), (0, .ref (ad 3))]) (pc := 10) hx hb dX4_readTerm_10 rfl hl (by decide) rfl (fun ls hl => ?_)
    exact wX4_readTerm_11 hC hret hlk hU hLr hrc hro FU hf hH hS (lv_sub hl [1, 0] rfl)
  · have hf := gif_p hc hf
    refine lv_iconst (v := 0) (pc := 7) hx hb dX4_readTerm_7 (by decide) ?_
    exact g_zret (pc := 8) hC hret hlk hH hS (by decide) hf dX4_readTerm_8
set_option maxRecDepth 100000 in
set_option maxHeartbeats 4000000 in
theorem mX4_readTerm {l : Launch} {D : va_G} {cA : Nat → ClassId} {ad : Nat → Nat}   {rc ro : gS → Option (Int32 × gS)} {Lr : Nat} (hLr : 20 ≤ Lr) (hrc : ∀ {st st' : gS} {r : Int32}, rc st = some (r, st') → gM l yX4_readOr cX4_readOr 2 (some .boolean) (Lr + 2) 0 D cA ad st [.ref (ad 3)] (some (.int r)) st') (hro : ∀ {st st' : gS} {r : Int32}, ro st = some (r, st') → gM l yX4_readOne cX4_readOne 2 (some .boolean) Lr 0 D cA ad st [.ref (ad 3)] (some (.int r)) st') {r : Int32} {st st' : gS} (hf : fX4_readTerm rc ro st = some (r, st')) : gM l yX4_readTerm cX4_readTerm 3 (some .boolean) (Lr + 5) 0 D cA ad st [.ref (ad 3)] (some (.int r)) st' := by
  refine g_met (by decide) (Nat.le_of_ble_eq_true rfl) ?_
  intro p e s m args below meth c ls hC hret hlk hU hH hl
  exact bX4_readTerm_0 hC hret hlk hU hLr hrc hro hf hH va_S.rf hl
def fX4_readSum_41  (rc ro : gS → Option (Int32 × gS)) (k11 : Int32 → gS → Option (Int32 × gS)) (l1 : Int32) (st : gS) : Option (Int32 × gS) :=
  (fX7_step st).bind fun q41_1 => ((fX4_readTerm rc ro q41_1).bind fun q41_2 => (if q41_2.1 = 0 then (some (0, q41_2.2)) else (gc (gK 0 (q41_2.2.2.2 3 1) = 8) ((fX0_addStep ((q41_2.2.2.2 3 1) + 1 + 11) (st.1 19 2) q41_2.2).bind fun q41_3 => (k11 (l1 + 1) q41_3)))))
set_option maxRecDepth 100000 in
set_option maxHeartbeats 4000000 in
theorem bX4_readSum_41  (hC : CallFix p m c cX4_readSum 3 s args lw_good RX4) (hret : meth.sig.returnType = (some .boolean)) (hlk : meth.locks = false) (hU : gU 0 D cA ad s)  {rc ro : gS → Option (Int32 × gS)} {Lr : Nat} (hLr : 20 ≤ Lr) (hrc : ∀ {st st' : gS} {r : Int32}, rc st = some (r, st') → gM l yX4_readOr cX4_readOr 2 (some .boolean) (Lr + 2) 0 D cA ad st [.ref (ad 3)] (some (.int r)) st') (hro : ∀ {st st' : gS} {r : Int32}, ro st = some (r, st') → gM l yX4_readOne cX4_readOne 2 (some .boolean) Lr 0 D cA ad st [.ref (ad 3)] (some (.int r)) st') {r : Int32} {st' : gS} {k11 : Int32 → gS → Option (Int32 × gS)} (hk11 : ∀ {l1 : Int32} {st : gS} {H : Heap} {locs : List Loc} {ls : Array Slot}, k11 l1 st = some (r, st') → gP0 0 D cA ad st H → va_S (gA 0 ad) s.heap H locs → lv_has ls 3 [(0, .ref (ad 3)), (1, .int l1)] → W p l e (gRm (Lr + 6)) s m args below meth c H locs 0 0 (MQ below (gQc 0 D cA ad st' (some (.int r))) args s 0 0 (gA 0 ad)) (F0 m 11 ls [])) {l1 : Int32} {st : gS} {H : Heap} {locs : List Loc} {ls : Array Slot} (hf : fX4_readSum_41 rc ro k11 l1 st = some (r, st')) (hH : gP0 0 D cA ad st H) (hS : va_S (gA 0 ad) s.heap H locs) (hl : lv_has ls 3 [(0, .ref (ad 3)), (1, .int l1)]) : W p l e (gRm (Lr + 6)) s m args below meth c H locs 0 0 (MQ below (gQc 0 D cA ad st' (some (.int r))) args s 0 0 (gA 0 ad)) (F0 m 41 ls []) := by
  obtain ⟨hx, hb, hml, hown, hts⟩ := id hC
  unfold fX4_readSum_41 at hf
  refine lv_aload_n (pc := 41) hx hb dX4_readSum_41 rfl (lv_at hl 0 rfl) ?_
  refine g_get (pc := 42) (v := .ref (ad 19)) hC hU hH gk0_3 g_cl4 0 (by decide) kf_X4_40 rfl dX4_readSum_42 ?_
  refine g_get (pc := 45) (v := .int (st.1 19 2)) hC hU hH gk0_19 g_cl7 2 (by decide) kf_X4_53 rfl dX4_readSum_45 ?_
  refine lv_istore_n (lv' := [(2, .int (st.1 19 2)), (0, .ref (ad 3)), (1, .int l1)]) (pc := 48) hx hb dX4_readSum_48 rfl hl (by decide) rfl (fun ls hl => ?_)
  refine lv_aload_n (pc := 49) hx hb dX4_readSum_49 rfl (lv_at hl 1 rfl) ?_
  refine g_get (pc := 50) (v := .ref (ad 19)) hC hU hH gk0_3 g_cl4 0 (by decide) kf_X4_40 rfl dX4_readSum_50 ?_
  obtain ⟨q41_1, hq41_1, hf⟩ := gbd hf
  refine g_callVv (pc := 53) (rest := []) hC hU hH hS hl.1 gk0_19 rfl (by decide) (mX7_step  hq41_1) ky_X7_step km_X4_83 (g_rm (by omega) (by decide)) ⟨Nat.zero_le _, Nat.zero_le _⟩ rfl (Nat.le_of_ble_eq_true rfl) dX4_readSum_53 rfl (fun H locs hH hS => ?_)
  refine lv_aload_n (pc := 56) hx hb dX4_readSum_56 rfl (lv_at hl 1 rfl) ?_
  obtain ⟨q41_2, hq41_2, hf⟩ := gbd hf
  refine g_callVi (pc := 57) (rest := []) hC hU hH hS hl.1 gk0_3 rfl (by decide) (mX4_readTerm hLr hrc hro hq41_2) ky_X4_readTerm km_X4_183 (g_rm (by omega) (by decide)) ⟨Nat.zero_le _, Nat.zero_le _⟩ rfl (Nat.le_of_ble_eq_true rfl) dX4_readSum_57 rfl (fun H locs hH hS => ?_)
  refine lv_if_ne (tgt := 65) (pc := 60) hx hb dX4_readSum_60 (by decide) (fun hc => ?_) (fun hc => ?_)
  · have hf := gif_n hc hf
    refine lv_aload_n (pc := 65) hx hb dX4_readSum_65 rfl (lv_at hl 1 rfl) ?_
    refine g_get (pc := 66) (v := .ref (ad (q41_2.2.2.2 3 1))) hC hU hH gk0_3 g_cl4 1 (by decide) kf_X4_12 rfl dX4_readSum_66 ?_
    obtain ⟨h41_1, hf⟩ := gc_s hf
    refine g_get (pc := 69) (v := .ref (ad ((q41_2.2.2.2 3 1) + 1 + 11))) hC hU hH h41_1 g_cl8 11 (by decide) kf_X4_155 rfl dX4_readSum_69 ?_
    refine lv_iload_n (pc := 72) hx hb dX4_readSum_72 rfl (lv_at hl 0 rfl) ?_
    obtain ⟨q41_3, hq41_3, hf⟩ := gbd hf
    refine g_callVv (pc := 73) (rest := []) hC hU hH hS hl.1 (gk_8_11 h41_1) rfl (by decide) (mX0_addStep (gk_8_11 h41_1) hq41_3) ky_X0_addStep km_X4_170 (g_rm (by omega) (by decide)) ⟨Nat.zero_le _, Nat.zero_le _⟩ rfl (Nat.le_of_ble_eq_true rfl) dX4_readSum_73 rfl (fun H locs hH hS => ?_)
    refine lv_iinc (v := l1 + 1) (lv' := [(1, .int (l1 + 1)), (2, .int (st.1 19 2)), (0, .ref (ad 3))]) (k := 2) (pc := 76) hx hb dX4_readSum_76 hl rfl rfl (by decide) rfl (fun ls hl => ?_)
    refine lv_goto (tgt := 11) (pc := 79) hx hb dX4_readSum_79 (by decide) ?_
    exact hk11 hf hH hS (lv_sub hl [2, 0] rfl)
  · have hf := gif_p hc hf
    refine lv_iconst (v := 0) (pc := 63) hx hb dX4_readSum_63 (by decide) ?_
    exact g_zret (pc := 64) hC hret hlk hH hS (by decide) hf dX4_readSum_64
def fX4_readSum_11  (rc ro : gS → Option (Int32 × gS)) (k11 : Int32 → gS → Option (Int32 × gS)) (l1 : Int32) (st : gS) : Option (Int32 × gS) :=
  if 30 ≤ l1 then (some (1, st)) else (if (st.1 19 2) = 43 then (fX4_readSum_41 rc ro k11 l1 st) else (if (st.1 19 2) = 45 then (fX4_readSum_41 rc ro k11 l1 st) else (some (1, st))))
set_option maxRecDepth 100000 in
set_option maxHeartbeats 4000000 in
theorem bX4_readSum_11  (hC : CallFix p m c cX4_readSum 3 s args lw_good RX4) (hret : meth.sig.returnType = (some .boolean)) (hlk : meth.locks = false) (hU : gU 0 D cA ad s)  {rc ro : gS → Option (Int32 × gS)} {Lr : Nat} (hLr : 20 ≤ Lr) (hrc : ∀ {st st' : gS} {r : Int32}, rc st = some (r, st') → gM l yX4_readOr cX4_readOr 2 (some .boolean) (Lr + 2) 0 D cA ad st [.ref (ad 3)] (some (.int r)) st') (hro : ∀ {st st' : gS} {r : Int32}, ro st = some (r, st') → gM l yX4_readOne cX4_readOne 2 (some .boolean) Lr 0 D cA ad st [.ref (ad 3)] (some (.int r)) st') {r : Int32} {st' : gS} {k11 : Int32 → gS → Option (Int32 × gS)} (hk11 : ∀ {l1 : Int32} {st : gS} {H : Heap} {locs : List Loc} {ls : Array Slot}, k11 l1 st = some (r, st') → gP0 0 D cA ad st H → va_S (gA 0 ad) s.heap H locs → lv_has ls 3 [(0, .ref (ad 3)), (1, .int l1)] → W p l e (gRm (Lr + 6)) s m args below meth c H locs 0 0 (MQ below (gQc 0 D cA ad st' (some (.int r))) args s 0 0 (gA 0 ad)) (F0 m 11 ls [])) {l1 : Int32} {st : gS} {H : Heap} {locs : List Loc} {ls : Array Slot} (hf : fX4_readSum_11 rc ro k11 l1 st = some (r, st')) (hH : gP0 0 D cA ad st H) (hS : va_S (gA 0 ad) s.heap H locs) (hl : lv_has ls 3 [(0, .ref (ad 3)), (1, .int l1)]) : W p l e (gRm (Lr + 6)) s m args below meth c H locs 0 0 (MQ below (gQc 0 D cA ad st' (some (.int r))) args s 0 0 (gA 0 ad)) (F0 m 11 ls []) := by
  obtain ⟨hx, hb, hml, hown, hts⟩ := id hC
  unfold fX4_readSum_11 at hf
  refine lv_iload_n (pc := 11) hx hb dX4_readSum_11 rfl (lv_at hl 1 rfl) ?_
  refine lv_bipush (v := 30) (pc := 12) hx hb dX4_readSum_12 (by decide) ?_
  refine lv_icmp_ge (tgt := 82) (pc := 14) hx hb dX4_readSum_14 (by decide) (fun hc => ?_) (fun hc => ?_)
  · have hf := gif_p hc hf
    refine lv_iconst (v := 1) (pc := 82) hx hb dX4_readSum_82 (by decide) ?_
    exact g_zret (pc := 83) hC hret hlk hH hS (by decide) hf dX4_readSum_83
  · have hf := gif_n hc hf
    refine lv_aload_n (pc := 17) hx hb dX4_readSum_17 rfl (lv_at hl 0 rfl) ?_
    refine g_get (pc := 18) (v := .ref (ad 19)) hC hU hH gk0_3 g_cl4 0 (by decide) kf_X4_40 rfl dX4_readSum_18 ?_
    refine g_get (pc := 21) (v := .int (st.1 19 2)) hC hU hH gk0_19 g_cl7 2 (by decide) kf_X4_53 rfl dX4_readSum_21 ?_
    refine lv_bipush (v := 43) (pc := 24) hx hb dX4_readSum_24 (by decide) ?_
    refine lv_icmp_eq (tgt := 41) (pc := 26) hx hb dX4_readSum_26 (by decide) (fun hc => ?_) (fun hc => ?_)
    · have hf := gif_p hc hf
      exact bX4_readSum_41 hC hret hlk hU hLr hrc hro hk11 hf hH hS (lv_sub hl [0, 1] rfl)
    · have hf := gif_n hc hf
      refine lv_aload_n (pc := 29) hx hb dX4_readSum_29 rfl (lv_at hl 0 rfl) ?_
      refine g_get (pc := 30) (v := .ref (ad 19)) hC hU hH gk0_3 g_cl4 0 (by decide) kf_X4_40 rfl dX4_readSum_30 ?_
      refine g_get (pc := 33) (v := .int (st.1 19 2)) hC hU hH gk0_19 g_cl7 2 (by decide) kf_X4_53 rfl dX4_readSum_33 ?_
      refine lv_bipush (v := 45) (pc := 36) hx hb dX4_readSum_36 (by decide) ?_
      refine lv_icmp_ne (tgt := 82) (pc := 38) hx hb dX4_readSum_38 (by decide) (fun hc => ?_) (fun hc => ?_)
      · have hf := gif_n hc hf
        refine lv_iconst (v := 1) (pc := 82) hx hb dX4_readSum_82 (by decide) ?_
        exact g_zret (pc := 83) hC hret hlk hH hS (by decide) hf dX4_readSum_83
      · have hf := gif_p hc hf
        exact bX4_readSum_41 hC hret hlk hU hLr hrc hro hk11 hf hH hS (lv_sub hl [0, 1] rfl)
def hX4_readSum_11  (rc ro : gS → Option (Int32 × gS))  : Nat → Int32 → gS → Option (Int32 × gS)
  | 0 => fun _ _ => none
  | n + 1 => fun l1 st => fX4_readSum_11 rc ro (hX4_readSum_11 rc ro n) l1 st
set_option maxRecDepth 100000 in
set_option maxHeartbeats 4000000 in
theorem wX4_readSum_11  (hC : CallFix p m c cX4_readSum 3 s args lw_good RX4) (hret : meth.sig.returnType = (some .boolean)) (hlk : meth.locks = false) (hU : gU 0 D cA ad s)  {rc ro : gS → Option (Int32 × gS)} {Lr : Nat} (hLr : 20 ≤ Lr) (hrc : ∀ {st st' : gS} {r : Int32}, rc st = some (r, st') → gM l yX4_readOr cX4_readOr 2 (some .boolean) (Lr + 2) 0 D cA ad st [.ref (ad 3)] (some (.int r)) st') (hro : ∀ {st st' : gS} {r : Int32}, ro st = some (r, st') → gM l yX4_readOne cX4_readOne 2 (some .boolean) Lr 0 D cA ad st [.ref (ad 3)] (some (.int r)) st') {r : Int32} {st' : gS}  : ∀ (n : Nat) {l1 : Int32} {st : gS} {H : Heap} {locs : List Loc} {ls : Array Slot}, hX4_readSum_11 rc ro n l1 st = some (r, st') → gP0 0 D cA ad st H → va_S (gA 0 ad) s.heap H locs → lv_has ls 3 [(0, .ref (ad 3)), (1, .int l1)] → W p l e (gRm (Lr + 6)) s m args below meth c H locs 0 0 (MQ below (gQc 0 D cA ad st' (some (.int r))) args s 0 0 (gA 0 ad)) (F0 m 11 ls []) := by
  intro n
  induction n with
  | zero => intro l1 st H locs ls hf hH hS hl; cases hf
  | succ n ih =>
    intro l1 st H locs ls hf hH hS hl
    exact bX4_readSum_11 (rc := rc) (ro := ro) hC hret hlk hU hLr hrc hro (fun hf hH hS hl => ih hf hH hS hl) hf hH hS hl
def fX4_readSum  (rc ro : gS → Option (Int32 × gS))   (st : gS) : Option (Int32 × gS) :=
  (fX4_readTerm rc ro st).bind fun q0_1 => (if q0_1.1 = 0 then (some (0, q0_1.2)) else (hX4_readSum_11 rc ro FU 0 q0_1.2))
set_option maxRecDepth 100000 in
set_option maxHeartbeats 4000000 in
theorem bX4_readSum_0  (hC : CallFix p m c cX4_readSum 3 s args lw_good RX4) (hret : meth.sig.returnType = (some .boolean)) (hlk : meth.locks = false) (hU : gU 0 D cA ad s)  {rc ro : gS → Option (Int32 × gS)} {Lr : Nat} (hLr : 20 ≤ Lr) (hrc : ∀ {st st' : gS} {r : Int32}, rc st = some (r, st') → gM l yX4_readOr cX4_readOr 2 (some .boolean) (Lr + 2) 0 D cA ad st [.ref (ad 3)] (some (.int r)) st') (hro : ∀ {st st' : gS} {r : Int32}, ro st = some (r, st') → gM l yX4_readOne cX4_readOne 2 (some .boolean) Lr 0 D cA ad st [.ref (ad 3)] (some (.int r)) st') {r : Int32} {st' : gS}   {st : gS} {H : Heap} {locs : List Loc} {ls : Array Slot} (hf : fX4_readSum rc ro st = some (r, st')) (hH : gP0 0 D cA ad st H) (hS : va_S (gA 0 ad) s.heap H locs) (hl : lv_has ls 3 [(0, .ref (ad 3))]) : W p l e (gRm (Lr + 6)) s m args below meth c H locs 0 0 (MQ below (gQc 0 D cA ad st' (some (.int r))) args s 0 0 (gA 0 ad)) (F0 m 0 ls []) := by
  obtain ⟨hx, hb, hml, hown, hts⟩ := id hC
  unfold fX4_readSum at hf
  refine lv_aload_n (pc := 0) hx hb dX4_readSum_0 rfl (lv_at hl 0 rfl) ?_
  obtain ⟨q0_1, hq0_1, hf⟩ := gbd hf
  refine g_callVi (pc := 1) (rest := []) hC hU hH hS hl.1 gk0_3 rfl (by decide) (mX4_readTerm hLr hrc hro hq0_1) ky_X4_readTerm km_X4_183 (g_rm (by omega) (by decide)) ⟨Nat.zero_le _, Nat.zero_le _⟩ rfl (Nat.le_of_ble_eq_true rfl) dX4_readSum_1 rfl (fun H locs hH hS => ?_)
  refine lv_if_ne (tgt := 9) (pc := 4) hx hb dX4_readSum_4 (by decide) (fun hc => ?_) (fun hc => ?_)
  · have hf := gif_n hc hf
    refine lv_iconst (v := 0) (pc := 9) hx hb dX4_readSum_9 (by decide) ?_
    refine lv_istore_n (lv' := [(1, .int 0), (0, .ref (ad 3))]) (pc := 10) hx hb dX4_readSum_10 rfl hl (by decide) rfl (fun ls hl => ?_)
    exact wX4_readSum_11 hC hret hlk hU hLr hrc hro FU hf hH hS (lv_sub hl [1, 0] rfl)
  · have hf := gif_p hc hf
    refine lv_iconst (v := 0) (pc := 7) hx hb dX4_readSum_7 (by decide) ?_
    exact g_zret (pc := 8) hC hret hlk hH hS (by decide) hf dX4_readSum_8
set_option maxRecDepth 100000 in
set_option maxHeartbeats 4000000 in
theorem mX4_readSum {l : Launch} {D : va_G} {cA : Nat → ClassId} {ad : Nat → Nat}   {rc ro : gS → Option (Int32 × gS)} {Lr : Nat} (hLr : 20 ≤ Lr) (hrc : ∀ {st st' : gS} {r : Int32}, rc st = some (r, st') → gM l yX4_readOr cX4_readOr 2 (some .boolean) (Lr + 2) 0 D cA ad st [.ref (ad 3)] (some (.int r)) st') (hro : ∀ {st st' : gS} {r : Int32}, ro st = some (r, st') → gM l yX4_readOne cX4_readOne 2 (some .boolean) Lr 0 D cA ad st [.ref (ad 3)] (some (.int r)) st') {r : Int32} {st st' : gS} (hf : fX4_readSum rc ro st = some (r, st')) : gM l yX4_readSum cX4_readSum 3 (some .boolean) (Lr + 6) 0 D cA ad st [.ref (ad 3)] (some (.int r)) st' := by
  refine g_met (by decide) (Nat.le_of_ble_eq_true rfl) ?_
  intro p e s m args below meth c ls hC hret hlk hU hH hl
  exact bX4_readSum_0 hC hret hlk hU hLr hrc hro hf hH va_S.rf hl
end
