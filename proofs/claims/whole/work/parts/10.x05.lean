section
variable {p : Program} {l : Launch} {e : Env} {s : State} {m : MethodId} {args : Array Value} {below : List Frame} {meth : Method} {c : Code} {D : va_G} {cA : Nat → ClassId} {ad : Nat → Nat}
def fX10_seen (a1 : Int32) (a2 : Int32) (a3 : Int32)   (st : gS) : Option (Int32 × gS) :=
  (fX2_hasNumber a1 st).bind fun q0_1 => (if q0_1.1 = 0 then (some ((-1), q0_1.2)) else (gc (gK 0 (q0_1.2.2.2 0 9) = 8) ((fX8_hasFigure (q0_1.2.2.2 0 9) a2 q0_1.2).bind fun q0_2 => (if q0_2.1 = 0 then (some ((-1), q0_2.2)) else ((fX2_tell 0 a1 a2 a3 q0_2.2).bind fun q0_3 => (some (q0_3.1, q0_3.2)))))))
set_option maxRecDepth 100000 in
set_option maxHeartbeats 4000000 in
theorem bX10_seen_0 {a1 : Int32} {a2 : Int32} {a3 : Int32} (hC : CallFix p m c cX10_seen 4 s args lw_good RX10) (hret : meth.sig.returnType = (some .int)) (hlk : meth.locks = false) (hU : gU 0 D cA ad s)  {r : Int32} {st' : gS}   {st : gS} {H : Heap} {locs : List Loc} {ls : Array Slot} (hf : fX10_seen a1 a2 a3 st = some (r, st')) (hH : gP0 0 D cA ad st H) (hS : va_S (gA 0 ad) s.heap H locs) (hl : lv_has ls 4 [(0, .ref (ad 0)), (1, .int a1), (2, .int a2), (3, .int a3)]) : W p l e (gRm 2) s m args below meth c H locs 0 0 (MQ below (gQc 0 D cA ad st' (some (.int r))) args s 0 0 (gA 0 ad)) (F0 m 0 ls []) := by
  obtain ⟨hx, hb, hml, hown, hts⟩ := id hC
  unfold fX10_seen at hf
  refine lv_iload_n (pc := 0) hx hb dX10_seen_0 rfl (lv_at hl 1 rfl) ?_
  obtain ⟨q0_1, hq0_1, hf⟩ := gbd hf
  refine g_callSi (pc := 1) (rest := []) hC hU hH hS hl.1 (mX2_hasNumber  hq0_1) ky_X2_hasNumber km_X10_297 ⟨Nat.le_of_ble_eq_true rfl, Nat.le_of_ble_eq_true rfl⟩ ⟨Nat.zero_le _, Nat.zero_le _⟩ rfl (Nat.le_of_ble_eq_true rfl) dX10_seen_1 rfl (fun H locs hH hS => ?_)
  refine lv_if_eq (tgt := 18) (pc := 4) hx hb dX10_seen_4 (by decide) (fun hc => ?_) (fun hc => ?_)
  · have hf := gif_p hc hf
    refine lv_iconst (v := (-1)) (pc := 18) hx hb dX10_seen_18 (by decide) ?_
    exact g_iret (pc := 19) hC hret hlk hH hS hf dX10_seen_19
  · have hf := gif_n hc hf
    refine lv_aload_n (pc := 7) hx hb dX10_seen_7 rfl (lv_at hl 0 rfl) ?_
    refine g_get (pc := 8) (v := .ref (ad (q0_1.2.2.2 0 9))) hC hU hH gk0_0 g_cl10 9 (by decide) kf_X10_71 rfl dX10_seen_8 ?_
    refine lv_iload_n (pc := 11) hx hb dX10_seen_11 rfl (lv_at hl 2 rfl) ?_
    obtain ⟨h0_1, hf⟩ := gc_s hf
    obtain ⟨q0_2, hq0_2, hf⟩ := gbd hf
    refine g_callVi (pc := 12) (rest := []) hC hU hH hS hl.1 h0_1 rfl (by decide) (mX8_hasFigure h0_1 hq0_2) ky_X8_hasFigure km_X10_183 ⟨Nat.le_of_ble_eq_true rfl, Nat.le_of_ble_eq_true rfl⟩ ⟨Nat.zero_le _, Nat.zero_le _⟩ rfl (Nat.le_of_ble_eq_true rfl) dX10_seen_12 rfl (fun H locs hH hS => ?_)
    refine lv_if_ne (tgt := 20) (pc := 15) hx hb dX10_seen_15 (by decide) (fun hc => ?_) (fun hc => ?_)
    · have hf := gif_n hc hf
      refine lv_aload_n (pc := 20) hx hb dX10_seen_20 rfl (lv_at hl 0 rfl) ?_
      refine g_get (pc := 21) (v := .ref (ad 169)) hC hU hH gk0_0 g_cl10 8 (by decide) kf_X10_64 rfl dX10_seen_21 ?_
      refine lv_iconst (v := 0) (pc := 24) hx hb dX10_seen_24 (by decide) ?_
      refine lv_iload_n (pc := 25) hx hb dX10_seen_25 rfl (lv_at hl 1 rfl) ?_
      refine lv_iload_n (pc := 26) hx hb dX10_seen_26 rfl (lv_at hl 2 rfl) ?_
      refine lv_iload_n (pc := 27) hx hb dX10_seen_27 rfl (lv_at hl 3 rfl) ?_
      obtain ⟨q0_3, hq0_3, hf⟩ := gbd hf
      refine g_callVi (pc := 28) (rest := []) hC hU hH hS hl.1 gk0_169 rfl (by decide) (mX2_tell  hq0_3) ky_X2_tell km_X10_300 ⟨Nat.le_of_ble_eq_true rfl, Nat.le_of_ble_eq_true rfl⟩ ⟨Nat.zero_le _, Nat.zero_le _⟩ rfl (Nat.le_of_ble_eq_true rfl) dX10_seen_28 rfl (fun H locs hH hS => ?_)
      exact g_iret (pc := 31) hC hret hlk hH hS hf dX10_seen_31
    · have hf := gif_p hc hf
      refine lv_iconst (v := (-1)) (pc := 18) hx hb dX10_seen_18 (by decide) ?_
      exact g_iret (pc := 19) hC hret hlk hH hS hf dX10_seen_19
set_option maxRecDepth 100000 in
set_option maxHeartbeats 4000000 in
theorem mX10_seen {l : Launch} {D : va_G} {cA : Nat → ClassId} {ad : Nat → Nat} {a1 : Int32} {a2 : Int32} {a3 : Int32}  {r : Int32} {st st' : gS} (hf : fX10_seen a1 a2 a3 st = some (r, st')) : gM l yX10_seen cX10_seen 4 (some .int) 2 0 D cA ad st [.ref (ad 0), .int a1, .int a2, .int a3] (some (.int r)) st' := by
  refine g_met (by decide) (Nat.le_of_ble_eq_true rfl) ?_
  intro p e s m args below meth c ls hC hret hlk hU hH hl
  exact bX10_seen_0 hC hret hlk hU hf hH va_S.rf hl
def fX10_felt (a1 : Int32) (a2 : Int32) (a3 : Int32)   (st : gS) : Option (Int32 × gS) :=
  if a1 < 1 then (some ((-1), st)) else ((fX2_hasNumber a1 st).bind fun q0_1 => (if q0_1.1 = 0 then (some ((-1), q0_1.2)) else (if a2 < 0 then (some ((-1), q0_1.2)) else (if a2 < 10 then ((fX2_tell 1 a1 a2 a3 q0_1.2).bind fun q0_2 => (some (q0_2.1, q0_2.2))) else (some ((-1), q0_1.2))))))
set_option maxRecDepth 100000 in
set_option maxHeartbeats 4000000 in
theorem bX10_felt_0 {a1 : Int32} {a2 : Int32} {a3 : Int32} (hC : CallFix p m c cX10_felt 4 s args lw_good RX10) (hret : meth.sig.returnType = (some .int)) (hlk : meth.locks = false) (hU : gU 0 D cA ad s)  {r : Int32} {st' : gS}   {st : gS} {H : Heap} {locs : List Loc} {ls : Array Slot} (hf : fX10_felt a1 a2 a3 st = some (r, st')) (hH : gP0 0 D cA ad st H) (hS : va_S (gA 0 ad) s.heap H locs) (hl : lv_has ls 4 [(0, .ref (ad 0)), (1, .int a1), (2, .int a2), (3, .int a3)]) : W p l e (gRm 2) s m args below meth c H locs 0 0 (MQ below (gQc 0 D cA ad st' (some (.int r))) args s 0 0 (gA 0 ad)) (F0 m 0 ls []) := by
  obtain ⟨hx, hb, hml, hown, hts⟩ := id hC
  unfold fX10_felt at hf
  refine lv_iload_n (pc := 0) hx hb dX10_felt_0 rfl (lv_at hl 1 rfl) ?_
  refine lv_iconst (v := 1) (pc := 1) hx hb dX10_felt_1 (by decide) ?_
  refine lv_icmp_lt (tgt := 22) (pc := 2) hx hb dX10_felt_2 (by decide) (fun hc => ?_) (fun hc => ?_)
  · have hf := gif_p hc hf
    refine lv_iconst (v := (-1)) (pc := 22) hx hb dX10_felt_22 (by decide) ?_
    exact g_iret (pc := 23) hC hret hlk hH hS hf dX10_felt_23
  · have hf := gif_n hc hf
    refine lv_iload_n (pc := 5) hx hb dX10_felt_5 rfl (lv_at hl 1 rfl) ?_
    obtain ⟨q0_1, hq0_1, hf⟩ := gbd hf
    refine g_callSi (pc := 6) (rest := []) hC hU hH hS hl.1 (mX2_hasNumber  hq0_1) ky_X2_hasNumber km_X10_297 ⟨Nat.le_of_ble_eq_true rfl, Nat.le_of_ble_eq_true rfl⟩ ⟨Nat.zero_le _, Nat.zero_le _⟩ rfl (Nat.le_of_ble_eq_true rfl) dX10_felt_6 rfl (fun H locs hH hS => ?_)
    refine lv_if_eq (tgt := 22) (pc := 9) hx hb dX10_felt_9 (by decide) (fun hc => ?_) (fun hc => ?_)
    · have hf := gif_p hc hf
      refine lv_iconst (v := (-1)) (pc := 22) hx hb dX10_felt_22 (by decide) ?_
      exact g_iret (pc := 23) hC hret hlk hH hS hf dX10_felt_23
    · have hf := gif_n hc hf
      refine lv_iload_n (pc := 12) hx hb dX10_felt_12 rfl (lv_at hl 2 rfl) ?_
      refine lv_if_lt (tgt := 22) (pc := 13) hx hb dX10_felt_13 (by decide) (fun hc => ?_) (fun hc => ?_)
      · have hf := gif_p hc hf
        refine lv_iconst (v := (-1)) (pc := 22) hx hb dX10_felt_22 (by decide) ?_
        exact g_iret (pc := 23) hC hret hlk hH hS hf dX10_felt_23
      · have hf := gif_n hc hf
        refine lv_iload_n (pc := 16) hx hb dX10_felt_16 rfl (lv_at hl 2 rfl) ?_
        refine lv_bipush (v := 10) (pc := 17) hx hb dX10_felt_17 (by decide) ?_
        refine lv_icmp_lt (tgt := 24) (pc := 19) hx hb dX10_felt_19 (by decide) (fun hc => ?_) (fun hc => ?_)
        · have hf := gif_p hc hf
          refine lv_aload_n (pc := 24) hx hb dX10_felt_24 rfl (lv_at hl 0 rfl) ?_
          refine g_get (pc := 25) (v := .ref (ad 169)) hC hU hH gk0_0 g_cl10 8 (by decide) kf_X10_64 rfl dX10_felt_25 ?_
          refine lv_iconst (v := 1) (pc := 28) hx hb dX10_felt_28 (by decide) ?_
          refine lv_iload_n (pc := 29) hx hb dX10_felt_29 rfl (lv_at hl 1 rfl) ?_
          refine lv_iload_n (pc := 30) hx hb dX10_felt_30 rfl (lv_at hl 2 rfl) ?_
          refine lv_iload_n (pc := 31) hx hb dX10_felt_31 rfl (lv_at hl 3 rfl) ?_
          obtain ⟨q0_2, hq0_2, hf⟩ := gbd hf
          refine g_callVi (pc := 32) (rest := []) hC hU hH hS hl.1 gk0_169 rfl (by decide) (mX2_tell  hq0_2) ky_X2_tell km_X10_300 ⟨Nat.le_of_ble_eq_true rfl, Nat.le_of_ble_eq_true rfl⟩ ⟨Nat.zero_le _, Nat.zero_le _⟩ rfl (Nat.le_of_ble_eq_true rfl) dX10_felt_32 rfl (fun H locs hH hS => ?_)
          exact g_iret (pc := 35) hC hret hlk hH hS hf dX10_felt_35
        · have hf := gif_n hc hf
          refine lv_iconst (v := (-1)) (pc := 22) hx hb dX10_felt_22 (by decide) ?_
          exact g_iret (pc := 23) hC hret hlk hH hS hf dX10_felt_23
set_option maxRecDepth 100000 in
set_option maxHeartbeats 4000000 in
theorem mX10_felt {l : Launch} {D : va_G} {cA : Nat → ClassId} {ad : Nat → Nat} {a1 : Int32} {a2 : Int32} {a3 : Int32}  {r : Int32} {st st' : gS} (hf : fX10_felt a1 a2 a3 st = some (r, st')) : gM l yX10_felt cX10_felt 4 (some .int) 2 0 D cA ad st [.ref (ad 0), .int a1, .int a2, .int a3] (some (.int r)) st' := by
  refine g_met (by decide) (Nat.le_of_ble_eq_true rfl) ?_
  intro p e s m args below meth c ls hC hret hlk hU hH hl
  exact bX10_felt_0 hC hret hlk hU hf hH va_S.rf hl
def fX2_takeBack (a1 : Int32)   (st : gS) : Option (Int32 × gS) :=
  if a1 < 0 then (some (0, st)) else (if (st.1 169 10) ≤ a1 then (some (0, st)) else (gc (gI a1 30) (if (st.1 175 a1.toNatClampNeg) = (-1) then (gc (gI a1 30) (some (1, wi st 175 a1.toNatClampNeg (st.1 169 11)))) else (some (0, st)))))
set_option maxRecDepth 100000 in
set_option maxHeartbeats 4000000 in
theorem bX2_takeBack_0 {a1 : Int32} (hC : CallFix p m c cX2_takeBack 2 s args lw_good RX2) (hret : meth.sig.returnType = (some .boolean)) (hlk : meth.locks = false) (hU : gU 0 D cA ad s)  {r : Int32} {st' : gS}   {st : gS} {H : Heap} {locs : List Loc} {ls : Array Slot} (hf : fX2_takeBack a1 st = some (r, st')) (hH : gP0 0 D cA ad st H) (hS : va_S (gA 0 ad) s.heap H locs) (hl : lv_has ls 2 [(0, .ref (ad 169)), (1, .int a1)]) : W p l e (gRm 1) s m args below meth c H locs 0 0 (MQ below (gQc 0 D cA ad st' (some (.int r))) args s 0 0 (gA 0 ad)) (F0 m 0 ls []) := by
  obtain ⟨hx, hb, hml, hown, hts⟩ := id hC
  unfold fX2_takeBack at hf
  refine lv_iload_n (pc := 0) hx hb dX2_takeBack_0 rfl (lv_at hl 1 rfl) ?_
  refine lv_if_lt (tgt := 22) (pc := 1) hx hb dX2_takeBack_1 (by decide) (fun hc => ?_) (fun hc => ?_)
  · have hf := gif_p hc hf
    refine lv_iconst (v := 0) (pc := 22) hx hb dX2_takeBack_22 (by decide) ?_
    exact g_zret (pc := 23) hC hret hlk hH hS (by decide) hf dX2_takeBack_23
  · have hf := gif_n hc hf
    refine lv_iload_n (pc := 4) hx hb dX2_takeBack_4 rfl (lv_at hl 1 rfl) ?_
    refine lv_aload_n (pc := 5) hx hb dX2_takeBack_5 rfl (lv_at hl 0 rfl) ?_
    refine g_get (pc := 6) (v := .int (st.1 169 10)) hC hU hH gk0_169 g_cl2 10 (by decide) kf_X2_45 rfl dX2_takeBack_6 ?_
    refine lv_icmp_ge (tgt := 22) (pc := 9) hx hb dX2_takeBack_9 (by decide) (fun hc => ?_) (fun hc => ?_)
    · have hf := gif_p hc hf
      refine lv_iconst (v := 0) (pc := 22) hx hb dX2_takeBack_22 (by decide) ?_
      exact g_zret (pc := 23) hC hret hlk hH hS (by decide) hf dX2_takeBack_23
    · have hf := gif_n hc hf
      refine lv_aload_n (pc := 12) hx hb dX2_takeBack_12 rfl (lv_at hl 0 rfl) ?_
      refine g_get (pc := 13) (v := .ref (ad 175)) hC hU hH gk0_169 g_cl2 5 (by decide) kf_X2_28 rfl dX2_takeBack_13 ?_
      refine lv_iload_n (pc := 16) hx hb dX2_takeBack_16 rfl (lv_at hl 1 rfl) ?_
      obtain ⟨h0_1, hf⟩ := gc_s hf
      refine g_iald (pc := 17) hC hU hH gk0_175 gn0_175 h0_1 dX2_takeBack_17 ?_
      refine lv_iconst (v := (-1)) (pc := 18) hx hb dX2_takeBack_18 (by decide) ?_
      refine lv_icmp_eq (tgt := 24) (pc := 19) hx hb dX2_takeBack_19 (by decide) (fun hc => ?_) (fun hc => ?_)
      · have hf := gif_p hc hf
        refine lv_aload_n (pc := 24) hx hb dX2_takeBack_24 rfl (lv_at hl 0 rfl) ?_
        refine g_get (pc := 25) (v := .ref (ad 175)) hC hU hH gk0_169 g_cl2 5 (by decide) kf_X2_28 rfl dX2_takeBack_25 ?_
        refine lv_iload_n (pc := 28) hx hb dX2_takeBack_28 rfl (lv_at hl 1 rfl) ?_
        refine lv_aload_n (pc := 29) hx hb dX2_takeBack_29 rfl (lv_at hl 0 rfl) ?_
        refine g_get (pc := 30) (v := .int (st.1 169 11)) hC hU hH gk0_169 g_cl2 11 (by decide) kf_X2_49 rfl dX2_takeBack_30 ?_
        obtain ⟨h0_2, hf⟩ := gc_s hf
        refine g_iast (pc := 33) hC hU hH hS gk0_175 gn0_175 h0_2 dX2_takeBack_33 (fun H locs hH hS => ?_)
        refine lv_iconst (v := 1) (pc := 34) hx hb dX2_takeBack_34 (by decide) ?_
        exact g_zret (pc := 35) hC hret hlk hH hS (by decide) hf dX2_takeBack_35
      · have hf := gif_n hc hf
        refine lv_iconst (v := 0) (pc := 22) hx hb dX2_takeBack_22 (by decide) ?_
        exact g_zret (pc := 23) hC hret hlk hH hS (by decide) hf dX2_takeBack_23
set_option maxRecDepth 100000 in
set_option maxHeartbeats 4000000 in
theorem mX2_takeBack {l : Launch} {D : va_G} {cA : Nat → ClassId} {ad : Nat → Nat} {a1 : Int32}  {r : Int32} {st st' : gS} (hf : fX2_takeBack a1 st = some (r, st')) : gM l yX2_takeBack cX2_takeBack 2 (some .boolean) 1 0 D cA ad st [.ref (ad 169), .int a1] (some (.int r)) st' := by
  refine g_met (by decide) (Nat.le_of_ble_eq_true rfl) ?_
  intro p e s m args below meth c ls hC hret hlk hU hH hl
  exact bX2_takeBack_0 hC hret hlk hU hf hH va_S.rf hl
def fX10_untell (a1 : Int32)   (st : gS) : Option (Int32 × gS) :=
  (fX2_takeBack a1 st).bind fun q0_1 => (gc (gB q0_1.1) (some (q0_1.1, q0_1.2)))
set_option maxRecDepth 100000 in
set_option maxHeartbeats 4000000 in
theorem bX10_untell_0 {a1 : Int32} (hC : CallFix p m c cX10_untell 2 s args lw_good RX10) (hret : meth.sig.returnType = (some .boolean)) (hlk : meth.locks = false) (hU : gU 0 D cA ad s)  {r : Int32} {st' : gS}   {st : gS} {H : Heap} {locs : List Loc} {ls : Array Slot} (hf : fX10_untell a1 st = some (r, st')) (hH : gP0 0 D cA ad st H) (hS : va_S (gA 0 ad) s.heap H locs) (hl : lv_has ls 2 [(0, .ref (ad 0)), (1, .int a1)]) : W p l e (gRm 2) s m args below meth c H locs 0 0 (MQ below (gQc 0 D cA ad st' (some (.int r))) args s 0 0 (gA 0 ad)) (F0 m 0 ls []) := by
  obtain ⟨hx, hb, hml, hown, hts⟩ := id hC
  unfold fX10_untell at hf
  refine lv_aload_n (pc := 0) hx hb dX10_untell_0 rfl (lv_at hl 0 rfl) ?_
  refine g_get (pc := 1) (v := .ref (ad 169)) hC hU hH gk0_0 g_cl10 8 (by decide) kf_X10_64 rfl dX10_untell_1 ?_
  refine lv_iload_n (pc := 4) hx hb dX10_untell_4 rfl (lv_at hl 1 rfl) ?_
  obtain ⟨q0_1, hq0_1, hf⟩ := gbd hf
  refine g_callVi (pc := 5) (rest := []) hC hU hH hS hl.1 gk0_169 rfl (by decide) (mX2_takeBack  hq0_1) ky_X2_takeBack km_X10_304 ⟨Nat.le_of_ble_eq_true rfl, Nat.le_of_ble_eq_true rfl⟩ ⟨Nat.zero_le _, Nat.zero_le _⟩ rfl (Nat.le_of_ble_eq_true rfl) dX10_untell_5 rfl (fun H locs hH hS => ?_)
  obtain ⟨h0_1, hf⟩ := gc_s hf
  exact g_zret (pc := 8) hC hret hlk hH hS h0_1 hf dX10_untell_8
set_option maxRecDepth 100000 in
set_option maxHeartbeats 4000000 in
theorem mX10_untell {l : Launch} {D : va_G} {cA : Nat → ClassId} {ad : Nat → Nat} {a1 : Int32}  {r : Int32} {st st' : gS} (hf : fX10_untell a1 st = some (r, st')) : gM l yX10_untell cX10_untell 2 (some .boolean) 2 0 D cA ad st [.ref (ad 0), .int a1] (some (.int r)) st' := by
  refine g_met (by decide) (Nat.le_of_ble_eq_true rfl) ?_
  intro p e s m args below meth c ls hC hret hlk hU hH hl
  exact bX10_untell_0 hC hret hlk hU hf hH va_S.rf hl
def fX2_goOn (a1 : Int32)   (st : gS) : Option (Int32 × gS) :=
  if a1 < 0 then (some (0, st)) else (if 1000 < a1 then (some (0, st)) else (if a1 ≤ (100000 - (st.1 169 11)) then (some (1, wi st 169 11 ((st.1 169 11) + a1))) else (some (0, st))))
set_option maxRecDepth 100000 in
set_option maxHeartbeats 4000000 in
theorem bX2_goOn_0 {a1 : Int32} (hC : CallFix p m c cX2_goOn 2 s args lw_good RX2) (hret : meth.sig.returnType = (some .boolean)) (hlk : meth.locks = false) (hU : gU 0 D cA ad s)  {r : Int32} {st' : gS}   {st : gS} {H : Heap} {locs : List Loc} {ls : Array Slot} (hf : fX2_goOn a1 st = some (r, st')) (hH : gP0 0 D cA ad st H) (hS : va_S (gA 0 ad) s.heap H locs) (hl : lv_has ls 2 [(0, .ref (ad 169)), (1, .int a1)]) : W p l e (gRm 1) s m args below meth c H locs 0 0 (MQ below (gQc 0 D cA ad st' (some (.int r))) args s 0 0 (gA 0 ad)) (F0 m 0 ls []) := by
  obtain ⟨hx, hb, hml, hown, hts⟩ := id hC
  unfold fX2_goOn at hf
  refine lv_iload_n (pc := 0) hx hb dX2_goOn_0 rfl (lv_at hl 1 rfl) ?_
  refine lv_if_lt (tgt := 22) (pc := 1) hx hb dX2_goOn_1 (by decide) (fun hc => ?_) (fun hc => ?_)
  · have hf := gif_p hc hf
    refine lv_iconst (v := 0) (pc := 22) hx hb dX2_goOn_22 (by decide) ?_
    exact g_zret (pc := 23) hC hret hlk hH hS (by decide) hf dX2_goOn_23
  · have hf := gif_n hc hf
    refine lv_iload_n (pc := 4) hx hb dX2_goOn_4 rfl (lv_at hl 1 rfl) ?_
    refine lv_sipush (v := 1000) (pc := 5) hx hb dX2_goOn_5 (by decide) ?_
    refine lv_icmp_gt (tgt := 22) (pc := 8) hx hb dX2_goOn_8 (by decide) (fun hc => ?_) (fun hc => ?_)
    · have hf := gif_p hc hf
      refine lv_iconst (v := 0) (pc := 22) hx hb dX2_goOn_22 (by decide) ?_
      exact g_zret (pc := 23) hC hret hlk hH hS (by decide) hf dX2_goOn_23
    · have hf := gif_n hc hf
      refine lv_iload_n (pc := 11) hx hb dX2_goOn_11 rfl (lv_at hl 1 rfl) ?_
      refine lv_ldc (pc := 12) hx hb hown (hts _ kc_X2_52) dX2_goOn_12 ?_
      refine lv_aload_n (pc := 14) hx hb dX2_goOn_14 rfl (lv_at hl 0 rfl) ?_
      refine g_get (pc := 15) (v := .int (st.1 169 11)) hC hU hH gk0_169 g_cl2 11 (by decide) kf_X2_49 rfl dX2_goOn_15 ?_
      refine lv_isub (pc := 18) hx hb dX2_goOn_18 ?_
      refine lv_icmp_le (tgt := 24) (pc := 19) hx hb dX2_goOn_19 (by decide) (fun hc => ?_) (fun hc => ?_)
      · have hf := gif_p hc hf
        refine lv_aload_n (pc := 24) hx hb dX2_goOn_24 rfl (lv_at hl 0 rfl) ?_
        refine lv_dup (pc := 25) hx hb dX2_goOn_25 rfl ?_
        refine g_get (pc := 26) (v := .int (st.1 169 11)) hC hU hH gk0_169 g_cl2 11 (by decide) kf_X2_49 rfl dX2_goOn_26 ?_
        refine lv_iload_n (pc := 29) hx hb dX2_goOn_29 rfl (lv_at hl 1 rfl) ?_
        refine lv_iadd (pc := 30) hx hb dX2_goOn_30 ?_
        refine g_puti (pc := 31) hC hU hH hS gk0_169 g_cl2 11 (by decide) kf_X2_49 rfl rfl rfl rfl dX2_goOn_31 (fun H locs hH hS => ?_)
        refine lv_iconst (v := 1) (pc := 34) hx hb dX2_goOn_34 (by decide) ?_
        exact g_zret (pc := 35) hC hret hlk hH hS (by decide) hf dX2_goOn_35
      · have hf := gif_n hc hf
        refine lv_iconst (v := 0) (pc := 22) hx hb dX2_goOn_22 (by decide) ?_
        exact g_zret (pc := 23) hC hret hlk hH hS (by decide) hf dX2_goOn_23
set_option maxRecDepth 100000 in
set_option maxHeartbeats 4000000 in
theorem mX2_goOn {l : Launch} {D : va_G} {cA : Nat → ClassId} {ad : Nat → Nat} {a1 : Int32}  {r : Int32} {st st' : gS} (hf : fX2_goOn a1 st = some (r, st')) : gM l yX2_goOn cX2_goOn 2 (some .boolean) 1 0 D cA ad st [.ref (ad 169), .int a1] (some (.int r)) st' := by
  refine g_met (by decide) (Nat.le_of_ble_eq_true rfl) ?_
  intro p e s m args below meth c ls hC hret hlk hU hH hl
  exact bX2_goOn_0 hC hret hlk hU hf hH va_S.rf hl
def fX10_later (a1 : Int32)   (st : gS) : Option (Int32 × gS) :=
  (fX2_goOn a1 st).bind fun q0_1 => (if q0_1.1 = 0 then (some ((-1), q0_1.2)) else (some (q0_1.2.1 169 11, q0_1.2)))
set_option maxRecDepth 100000 in
set_option maxHeartbeats 4000000 in
theorem bX10_later_0 {a1 : Int32} (hC : CallFix p m c cX10_later 2 s args lw_good RX10) (hret : meth.sig.returnType = (some .int)) (hlk : meth.locks = false) (hU : gU 0 D cA ad s)  {r : Int32} {st' : gS}   {st : gS} {H : Heap} {locs : List Loc} {ls : Array Slot} (hf : fX10_later a1 st = some (r, st')) (hH : gP0 0 D cA ad st H) (hS : va_S (gA 0 ad) s.heap H locs) (hl : lv_has ls 2 [(0, .ref (ad 0)), (1, .int a1)]) : W p l e (gRm 2) s m args below meth c H locs 0 0 (MQ below (gQc 0 D cA ad st' (some (.int r))) args s 0 0 (gA 0 ad)) (F0 m 0 ls []) := by
  obtain ⟨hx, hb, hml, hown, hts⟩ := id hC
  unfold fX10_later at hf
  refine lv_aload_n (pc := 0) hx hb dX10_later_0 rfl (lv_at hl 0 rfl) ?_
  refine g_get (pc := 1) (v := .ref (ad 169)) hC hU hH gk0_0 g_cl10 8 (by decide) kf_X10_64 rfl dX10_later_1 ?_
  refine lv_iload_n (pc := 4) hx hb dX10_later_4 rfl (lv_at hl 1 rfl) ?_
  obtain ⟨q0_1, hq0_1, hf⟩ := gbd hf
  refine g_callVi (pc := 5) (rest := []) hC hU hH hS hl.1 gk0_169 rfl (by decide) (mX2_goOn  hq0_1) ky_X2_goOn km_X10_307 ⟨Nat.le_of_ble_eq_true rfl, Nat.le_of_ble_eq_true rfl⟩ ⟨Nat.zero_le _, Nat.zero_le _⟩ rfl (Nat.le_of_ble_eq_true rfl) dX10_later_5 rfl (fun H locs hH hS => ?_)
  refine lv_if_eq (tgt := 21) (pc := 8) hx hb dX10_later_8 (by decide) (fun hc => ?_) (fun hc => ?_)
  · have hf := gif_p hc hf
    refine lv_iconst (v := (-1)) (pc := 21) hx hb dX10_later_21 (by decide) ?_
    exact g_iret (pc := 22) hC hret hlk hH hS hf dX10_later_22
  · have hf := gif_n hc hf
    refine lv_aload_n (pc := 11) hx hb dX10_later_11 rfl (lv_at hl 0 rfl) ?_
    refine g_get (pc := 12) (v := .ref (ad 169)) hC hU hH gk0_0 g_cl10 8 (by decide) kf_X10_64 rfl dX10_later_12 ?_
    refine g_get (pc := 15) (v := .int (q0_1.2.1 169 11)) hC hU hH gk0_169 g_cl2 11 (by decide) kf_X10_310 rfl dX10_later_15 ?_
    refine lv_goto (tgt := 22) (pc := 18) hx hb dX10_later_18 (by decide) ?_
    exact g_iret (pc := 22) hC hret hlk hH hS hf dX10_later_22
set_option maxRecDepth 100000 in
set_option maxHeartbeats 4000000 in
theorem mX10_later {l : Launch} {D : va_G} {cA : Nat → ClassId} {ad : Nat → Nat} {a1 : Int32}  {r : Int32} {st st' : gS} (hf : fX10_later a1 st = some (r, st')) : gM l yX10_later cX10_later 2 (some .int) 2 0 D cA ad st [.ref (ad 0), .int a1] (some (.int r)) st' := by
  refine g_met (by decide) (Nat.le_of_ble_eq_true rfl) ?_
  intro p e s m args below meth c ls hC hret hlk hU hH hl
  exact bX10_later_0 hC hret hlk hU hf hH va_S.rf hl
def fX2_counts (a1 : Int32) (a2 : Int32)   (st : gS) : Option (Int32 × gS) :=
  gc (gI a1 30) (if a2 < (st.1 174 a1.toNatClampNeg) then (some (0, st)) else (gc (gI a1 30) (if (st.1 175 a1.toNatClampNeg) = (-1) then (some (1, st)) else (gc (gI a1 30) (if (st.1 175 a1.toNatClampNeg) ≤ a2 then (some (0, st)) else (some (1, st)))))))
set_option maxRecDepth 100000 in
set_option maxHeartbeats 4000000 in
theorem bX2_counts_0 {a1 : Int32} {a2 : Int32} (hC : CallFix p m c cX2_counts 3 s args lw_good RX2) (hret : meth.sig.returnType = (some .boolean)) (hlk : meth.locks = false) (hU : gU 0 D cA ad s)  {r : Int32} {st' : gS}   {st : gS} {H : Heap} {locs : List Loc} {ls : Array Slot} (hf : fX2_counts a1 a2 st = some (r, st')) (hH : gP0 0 D cA ad st H) (hS : va_S (gA 0 ad) s.heap H locs) (hl : lv_has ls 3 [(0, .ref (ad 169)), (1, .int a1), (2, .int a2)]) : W p l e (gRm 1) s m args below meth c H locs 0 0 (MQ below (gQc 0 D cA ad st' (some (.int r))) args s 0 0 (gA 0 ad)) (F0 m 0 ls []) := by
  obtain ⟨hx, hb, hml, hown, hts⟩ := id hC
  unfold fX2_counts at hf
  refine lv_aload_n (pc := 0) hx hb dX2_counts_0 rfl (lv_at hl 0 rfl) ?_
  refine g_get (pc := 1) (v := .ref (ad 174)) hC hU hH gk0_169 g_cl2 4 (by decide) kf_X2_25 rfl dX2_counts_1 ?_
  refine lv_iload_n (pc := 4) hx hb dX2_counts_4 rfl (lv_at hl 1 rfl) ?_
  obtain ⟨h0_1, hf⟩ := gc_s hf
  refine g_iald (pc := 5) hC hU hH gk0_174 gn0_174 h0_1 dX2_counts_5 ?_
  refine lv_iload_n (pc := 6) hx hb dX2_counts_6 rfl (lv_at hl 2 rfl) ?_
  refine lv_icmp_gt (tgt := 34) (pc := 7) hx hb dX2_counts_7 (by decide) (fun hc => ?_) (fun hc => ?_)
  · have hf := gif_p hc hf
    refine lv_iconst (v := 0) (pc := 34) hx hb dX2_counts_34 (by decide) ?_
    exact g_zret (pc := 35) hC hret hlk hH hS (by decide) hf dX2_counts_35
  · have hf := gif_n hc hf
    refine lv_aload_n (pc := 10) hx hb dX2_counts_10 rfl (lv_at hl 0 rfl) ?_
    refine g_get (pc := 11) (v := .ref (ad 175)) hC hU hH gk0_169 g_cl2 5 (by decide) kf_X2_28 rfl dX2_counts_11 ?_
    refine lv_iload_n (pc := 14) hx hb dX2_counts_14 rfl (lv_at hl 1 rfl) ?_
    obtain ⟨h0_2, hf⟩ := gc_s hf
    refine g_iald (pc := 15) hC hU hH gk0_175 gn0_175 h0_2 dX2_counts_15 ?_
    refine lv_iconst (v := (-1)) (pc := 16) hx hb dX2_counts_16 (by decide) ?_
    refine lv_icmp_eq (tgt := 30) (pc := 17) hx hb dX2_counts_17 (by decide) (fun hc => ?_) (fun hc => ?_)
    · have hf := gif_p hc hf
      refine lv_iconst (v := 1) (pc := 30) hx hb dX2_counts_30 (by decide) ?_
      refine lv_goto (tgt := 35) (pc := 31) hx hb dX2_counts_31 (by decide) ?_
      exact g_zret (pc := 35) hC hret hlk hH hS (by decide) hf dX2_counts_35
    · have hf := gif_n hc hf
      refine lv_aload_n (pc := 20) hx hb dX2_counts_20 rfl (lv_at hl 0 rfl) ?_
      refine g_get (pc := 21) (v := .ref (ad 175)) hC hU hH gk0_169 g_cl2 5 (by decide) kf_X2_28 rfl dX2_counts_21 ?_
      refine lv_iload_n (pc := 24) hx hb dX2_counts_24 rfl (lv_at hl 1 rfl) ?_
      obtain ⟨h0_3, hf⟩ := gc_s hf
      refine g_iald (pc := 25) hC hU hH gk0_175 gn0_175 h0_3 dX2_counts_25 ?_
      refine lv_iload_n (pc := 26) hx hb dX2_counts_26 rfl (lv_at hl 2 rfl) ?_
      refine lv_icmp_le (tgt := 34) (pc := 27) hx hb dX2_counts_27 (by decide) (fun hc => ?_) (fun hc => ?_)
      · have hf := gif_p hc hf
        refine lv_iconst (v := 0) (pc := 34) hx hb dX2_counts_34 (by decide) ?_
        exact g_zret (pc := 35) hC hret hlk hH hS (by decide) hf dX2_counts_35
      · have hf := gif_n hc hf
        refine lv_iconst (v := 1) (pc := 30) hx hb dX2_counts_30 (by decide) ?_
        refine lv_goto (tgt := 35) (pc := 31) hx hb dX2_counts_31 (by decide) ?_
        exact g_zret (pc := 35) hC hret hlk hH hS (by decide) hf dX2_counts_35
set_option maxRecDepth 100000 in
set_option maxHeartbeats 4000000 in
theorem mX2_counts {l : Launch} {D : va_G} {cA : Nat → ClassId} {ad : Nat → Nat} {a1 : Int32} {a2 : Int32}  {r : Int32} {st st' : gS} (hf : fX2_counts a1 a2 st = some (r, st')) : gM l yX2_counts cX2_counts 3 (some .boolean) 1 0 D cA ad st [.ref (ad 169), .int a1, .int a2] (some (.int r)) st' := by
  refine g_met (by decide) (Nat.le_of_ble_eq_true rfl) ?_
  intro p e s m args below meth c ls hC hret hlk hU hH hl
  exact bX2_counts_0 hC hret hlk hU hf hH va_S.rf hl
def fX2_gather_62 (a1 : Int32) (k18 : Int32 → gS → Option (gS)) (l2 : Int32) (s0 : Int32) (st : gS) : Option (gS) :=
  (fX2_counts l2 a1 st).bind fun q62_1 => (if q62_1.1 = 0 then (k18 (l2 + 1) q62_1.2) else (gc (gI l2 30) ((fX2_hasNumber (q62_1.2.1 172 l2.toNatClampNeg) q62_1.2).bind fun q62_2 => (if q62_2.1 = 0 then (k18 (l2 + 1) q62_2.2) else (gc (gI l2 30) (if (q62_2.2.1 170 l2.toNatClampNeg) = 0 then (gc (gI l2 30) (gc (gI (q62_2.2.1 172 l2.toNatClampNeg) 7) (gc (gI (q62_2.2.1 172 l2.toNatClampNeg) 7) (k18 (l2 + 1) (wi q62_2.2 176 (q62_2.2.1 172 l2.toNatClampNeg).toNatClampNeg ((q62_2.2.1 176 (q62_2.2.1 172 l2.toNatClampNeg).toNatClampNeg) &&& s0)))))) else (gc (gI l2 30) (gc (gI (q62_2.2.1 172 l2.toNatClampNeg) 7) (gc (gI (q62_2.2.1 172 l2.toNatClampNeg) 7) (k18 (l2 + 1) (wi q62_2.2 177 (q62_2.2.1 172 l2.toNatClampNeg).toNatClampNeg ((q62_2.2.1 177 (q62_2.2.1 172 l2.toNatClampNeg).toNatClampNeg) &&& s0))))))))))))
set_option maxRecDepth 100000 in
set_option maxHeartbeats 4000000 in
theorem bX2_gather_62 {a1 : Int32} (hC : CallFix p m c cX2_gather 4 s args lw_good RX2) (hret : meth.sig.returnType = none) (hlk : meth.locks = false) (hU : gU 0 D cA ad s)  {st' : gS} {k18 : Int32 → gS → Option (gS)} (hk18 : ∀ {l2 : Int32} {st : gS} {H : Heap} {locs : List Loc} {ls : Array Slot}, k18 l2 st = some st' → gP0 0 D cA ad st H → va_S (gA 0 ad) s.heap H locs → lv_has ls 4 [(0, .ref (ad 169)), (1, .int a1), (2, .int l2)] → W p l e (gRm 2) s m args below meth c H locs 0 0 (MQ below (gQc 0 D cA ad st' none) args s 0 0 (gA 0 ad)) (F0 m 18 ls [])) {l2 : Int32} {s0 : Int32} {st : gS} {H : Heap} {locs : List Loc} {ls : Array Slot} (hf : fX2_gather_62 a1 k18 l2 s0 st = some st') (hH : gP0 0 D cA ad st H) (hS : va_S (gA 0 ad) s.heap H locs) (hl : lv_has ls 4 [(0, .ref (ad 169)), (1, .int a1), (2, .int l2)]) : W p l e (gRm 2) s m args below meth c H locs 0 0 (MQ below (gQc 0 D cA ad st' none) args s 0 0 (gA 0 ad)) (F0 m 62 ls [.int s0]) := by
  obtain ⟨hx, hb, hml, hown, hts⟩ := id hC
  unfold fX2_gather_62 at hf
  refine lv_istore_n (lv' := [(3, .int s0), (0, .ref (ad 169)), (1, .int a1), (2, .int l2)]) (pc := 62) hx hb dX2_gather_62 rfl hl (by decide) rfl (fun ls hl => ?_)
  refine lv_aload_n (pc := 63) hx hb dX2_gather_63 rfl (lv_at hl 1 rfl) ?_
  refine lv_iload_n (pc := 64) hx hb dX2_gather_64 rfl (lv_at hl 3 rfl) ?_
  refine lv_iload_n (pc := 65) hx hb dX2_gather_65 rfl (lv_at hl 2 rfl) ?_
  obtain ⟨q62_1, hq62_1, hf⟩ := gbd hf
  refine g_callVi (pc := 66) (rest := []) hC hU hH hS hl.1 gk0_169 rfl (by decide) (mX2_counts  hq62_1) ky_X2_counts km_X2_70 ⟨Nat.le_of_ble_eq_true rfl, Nat.le_of_ble_eq_true rfl⟩ ⟨Nat.zero_le _, Nat.zero_le _⟩ rfl (Nat.le_of_ble_eq_true rfl) dX2_gather_66 rfl (fun H locs hH hS => ?_)
  refine lv_if_eq (tgt := 129) (pc := 69) hx hb dX2_gather_69 (by decide) (fun hc => ?_) (fun hc => ?_)
  · have hf := gif_p hc hf
    refine lv_iinc (v := l2 + 1) (lv' := [(2, .int (l2 + 1)), (3, .int s0), (0, .ref (ad 169)), (1, .int a1)]) (k := 3) (pc := 129) hx hb dX2_gather_129 hl rfl rfl (by decide) rfl (fun ls hl => ?_)
    refine lv_goto (tgt := 18) (pc := 132) hx hb dX2_gather_132 (by decide) ?_
    exact hk18 hf hH hS (lv_sub hl [2, 3, 0] rfl)
  · have hf := gif_n hc hf
    refine lv_aload_n (pc := 72) hx hb dX2_gather_72 rfl (lv_at hl 1 rfl) ?_
    refine g_get (pc := 73) (v := .ref (ad 172)) hC hU hH gk0_169 g_cl2 2 (by decide) kf_X2_18 rfl dX2_gather_73 ?_
    refine lv_iload_n (pc := 76) hx hb dX2_gather_76 rfl (lv_at hl 3 rfl) ?_
    obtain ⟨h62_1, hf⟩ := gc_s hf
    refine g_iald (pc := 77) hC hU hH gk0_172 gn0_172 h62_1 dX2_gather_77 ?_
    obtain ⟨q62_2, hq62_2, hf⟩ := gbd hf
    refine g_callSi (pc := 78) (rest := []) hC hU hH hS hl.1 (mX2_hasNumber  hq62_2) ky_X2_hasNumber km_X2_74 ⟨Nat.le_of_ble_eq_true rfl, Nat.le_of_ble_eq_true rfl⟩ ⟨Nat.zero_le _, Nat.zero_le _⟩ rfl (Nat.le_of_ble_eq_true rfl) dX2_gather_78 rfl (fun H locs hH hS => ?_)
    refine lv_if_ne (tgt := 87) (pc := 81) hx hb dX2_gather_81 (by decide) (fun hc => ?_) (fun hc => ?_)
    · have hf := gif_n hc hf
      refine lv_aload_n (pc := 87) hx hb dX2_gather_87 rfl (lv_at hl 1 rfl) ?_
      refine g_get (pc := 88) (v := .ref (ad 170)) hC hU hH gk0_169 g_cl2 0 (by decide) kf_X2_11 rfl dX2_gather_88 ?_
      refine lv_iload_n (pc := 91) hx hb dX2_gather_91 rfl (lv_at hl 3 rfl) ?_
      obtain ⟨h62_2, hf⟩ := gc_s hf
      refine g_zald (pc := 92) hC hU hH gk0_170 gn0_170 h62_2 dX2_gather_92 ?_
      refine lv_if_eq (tgt := 114) (pc := 93) hx hb dX2_gather_93 (by decide) (fun hc => ?_) (fun hc => ?_)
      · have hf := gif_p hc hf
        refine lv_aload_n (pc := 114) hx hb dX2_gather_114 rfl (lv_at hl 1 rfl) ?_
        refine g_get (pc := 115) (v := .ref (ad 176)) hC hU hH gk0_169 g_cl2 6 (by decide) kf_X2_31 rfl dX2_gather_115 ?_
        refine lv_aload_n (pc := 118) hx hb dX2_gather_118 rfl (lv_at hl 1 rfl) ?_
        refine g_get (pc := 119) (v := .ref (ad 172)) hC hU hH gk0_169 g_cl2 2 (by decide) kf_X2_18 rfl dX2_gather_119 ?_
        refine lv_iload_n (pc := 122) hx hb dX2_gather_122 rfl (lv_at hl 3 rfl) ?_
        obtain ⟨h62_3, hf⟩ := gc_s hf
        refine g_iald (pc := 123) hC hU hH gk0_172 gn0_172 h62_3 dX2_gather_123 ?_
        refine lv_dup2_11 (pc := 124) hx hb dX2_gather_124 rfl rfl ?_
        obtain ⟨h62_4, hf⟩ := gc_s hf
        refine g_iald (pc := 125) hC hU hH gk0_176 gn0_176 h62_4 dX2_gather_125 ?_
        refine lv_iload_n (pc := 126) hx hb dX2_gather_126 rfl (lv_at hl 0 rfl) ?_
        refine lv_iand (pc := 127) hx hb dX2_gather_127 ?_
        obtain ⟨h62_5, hf⟩ := gc_s hf
        refine g_iast (pc := 128) hC hU hH hS gk0_176 gn0_176 h62_5 dX2_gather_128 (fun H locs hH hS => ?_)
        refine lv_iinc (v := l2 + 1) (lv' := [(2, .int (l2 + 1)), (3, .int s0), (0, .ref (ad 169)), (1, .int a1)]) (k := 3) (pc := 129) hx hb dX2_gather_129 hl rfl rfl (by decide) rfl (fun ls hl => ?_)
        refine lv_goto (tgt := 18) (pc := 132) hx hb dX2_gather_132 (by decide) ?_
        exact hk18 hf hH hS (lv_sub hl [2, 3, 0] rfl)
      · have hf := gif_n hc hf
        refine lv_aload_n (pc := 96) hx hb dX2_gather_96 rfl (lv_at hl 1 rfl) ?_
        refine g_get (pc := 97) (v := .ref (ad 177)) hC hU hH gk0_169 g_cl2 7 (by decide) kf_X2_34 rfl dX2_gather_97 ?_
        refine lv_aload_n (pc := 100) hx hb dX2_gather_100 rfl (lv_at hl 1 rfl) ?_
        refine g_get (pc := 101) (v := .ref (ad 172)) hC hU hH gk0_169 g_cl2 2 (by decide) kf_X2_18 rfl dX2_gather_101 ?_
        refine lv_iload_n (pc := 104) hx hb dX2_gather_104 rfl (lv_at hl 3 rfl) ?_
        obtain ⟨h62_6, hf⟩ := gc_s hf
        refine g_iald (pc := 105) hC hU hH gk0_172 gn0_172 h62_6 dX2_gather_105 ?_
        refine lv_dup2_11 (pc := 106) hx hb dX2_gather_106 rfl rfl ?_
        obtain ⟨h62_7, hf⟩ := gc_s hf
        refine g_iald (pc := 107) hC hU hH gk0_177 gn0_177 h62_7 dX2_gather_107 ?_
        refine lv_iload_n (pc := 108) hx hb dX2_gather_108 rfl (lv_at hl 0 rfl) ?_
        refine lv_iand (pc := 109) hx hb dX2_gather_109 ?_
        obtain ⟨h62_8, hf⟩ := gc_s hf
        refine g_iast (pc := 110) hC hU hH hS gk0_177 gn0_177 h62_8 dX2_gather_110 (fun H locs hH hS => ?_)
        refine lv_goto (tgt := 129) (pc := 111) hx hb dX2_gather_111 (by decide) ?_
        refine lv_iinc (v := l2 + 1) (lv' := [(2, .int (l2 + 1)), (3, .int s0), (0, .ref (ad 169)), (1, .int a1)]) (k := 3) (pc := 129) hx hb dX2_gather_129 hl rfl rfl (by decide) rfl (fun ls hl => ?_)
        refine lv_goto (tgt := 18) (pc := 132) hx hb dX2_gather_132 (by decide) ?_
        exact hk18 hf hH hS (lv_sub hl [2, 3, 0] rfl)
    · have hf := gif_p hc hf
      refine lv_goto (tgt := 129) (pc := 84) hx hb dX2_gather_84 (by decide) ?_
      refine lv_iinc (v := l2 + 1) (lv' := [(2, .int (l2 + 1)), (3, .int s0), (0, .ref (ad 169)), (1, .int a1)]) (k := 3) (pc := 129) hx hb dX2_gather_129 hl rfl rfl (by decide) rfl (fun ls hl => ?_)
      refine lv_goto (tgt := 18) (pc := 132) hx hb dX2_gather_132 (by decide) ?_
      exact hk18 hf hH hS (lv_sub hl [2, 3, 0] rfl)
def fX2_gather_18 (a1 : Int32) (k18 : Int32 → gS → Option (gS)) (l2 : Int32) (st : gS) : Option (gS) :=
  if (st.1 169 10) ≤ l2 then (some st) else (if 30 ≤ l2 then (some st) else (gc (gI l2 30) (if (st.1 171 l2.toNatClampNeg) = 0 then (gc (gI l2 30) (fX2_gather_62 a1 k18 l2 ((1 <<< ((st.1 173 l2.toNatClampNeg) &&& 31)) ^^^ (-1)) st)) else (gc (gI l2 30) (fX2_gather_62 a1 k18 l2 (1 <<< ((st.1 173 l2.toNatClampNeg) &&& 31)) st)))))
set_option maxRecDepth 100000 in
set_option maxHeartbeats 4000000 in
theorem bX2_gather_18 {a1 : Int32} (hC : CallFix p m c cX2_gather 4 s args lw_good RX2) (hret : meth.sig.returnType = none) (hlk : meth.locks = false) (hU : gU 0 D cA ad s)  {st' : gS} {k18 : Int32 → gS → Option (gS)} (hk18 : ∀ {l2 : Int32} {st : gS} {H : Heap} {locs : List Loc} {ls : Array Slot}, k18 l2 st = some st' → gP0 0 D cA ad st H → va_S (gA 0 ad) s.heap H locs → lv_has ls 4 [(0, .ref (ad 169)), (1, .int a1), (2, .int l2)] → W p l e (gRm 2) s m args below meth c H locs 0 0 (MQ below (gQc 0 D cA ad st' none) args s 0 0 (gA 0 ad)) (F0 m 18 ls [])) {l2 : Int32} {st : gS} {H : Heap} {locs : List Loc} {ls : Array Slot} (hf : fX2_gather_18 a1 k18 l2 st = some st') (hH : gP0 0 D cA ad st H) (hS : va_S (gA 0 ad) s.heap H locs) (hl : lv_has ls 4 [(0, .ref (ad 169)), (1, .int a1), (2, .int l2)]) : W p l e (gRm 2) s m args below meth c H locs 0 0 (MQ below (gQc 0 D cA ad st' none) args s 0 0 (gA 0 ad)) (F0 m 18 ls []) := by
  obtain ⟨hx, hb, hml, hown, hts⟩ := id hC
  unfold fX2_gather_18 at hf
  refine lv_iload_n (pc := 18) hx hb dX2_gather_18 rfl (lv_at hl 2 rfl) ?_
  refine lv_aload_n (pc := 19) hx hb dX2_gather_19 rfl (lv_at hl 0 rfl) ?_
  refine g_get (pc := 20) (v := .int (st.1 169 10)) hC hU hH gk0_169 g_cl2 10 (by decide) kf_X2_45 rfl dX2_gather_20 ?_
  refine lv_icmp_ge (tgt := 135) (pc := 23) hx hb dX2_gather_23 (by decide) (fun hc => ?_) (fun hc => ?_)
  · have hf := gif_p hc hf
    exact g_vret (pc := 135) hC hret hlk hH hS hf dX2_gather_135
  · have hf := gif_n hc hf
    refine lv_iload_n (pc := 26) hx hb dX2_gather_26 rfl (lv_at hl 2 rfl) ?_
    refine lv_bipush (v := 30) (pc := 27) hx hb dX2_gather_27 (by decide) ?_
    refine lv_icmp_ge (tgt := 135) (pc := 29) hx hb dX2_gather_29 (by decide) (fun hc => ?_) (fun hc => ?_)
    · have hf := gif_p hc hf
      exact g_vret (pc := 135) hC hret hlk hH hS hf dX2_gather_135
    · have hf := gif_n hc hf
      refine lv_aload_n (pc := 32) hx hb dX2_gather_32 rfl (lv_at hl 0 rfl) ?_
      refine g_get (pc := 33) (v := .ref (ad 171)) hC hU hH gk0_169 g_cl2 1 (by decide) kf_X2_15 rfl dX2_gather_33 ?_
      refine lv_iload_n (pc := 36) hx hb dX2_gather_36 rfl (lv_at hl 2 rfl) ?_
      obtain ⟨h18_1, hf⟩ := gc_s hf
      refine g_zald (pc := 37) hC hU hH gk0_171 gn0_171 h18_1 dX2_gather_37 ?_
      refine lv_if_eq (tgt := 52) (pc := 38) hx hb dX2_gather_38 (by decide) (fun hc => ?_) (fun hc => ?_)
      · have hf := gif_p hc hf
        refine lv_iconst (v := 1) (pc := 52) hx hb dX2_gather_52 (by decide) ?_
        refine lv_aload_n (pc := 53) hx hb dX2_gather_53 rfl (lv_at hl 0 rfl) ?_
        refine g_get (pc := 54) (v := .ref (ad 173)) hC hU hH gk0_169 g_cl2 3 (by decide) kf_X2_22 rfl dX2_gather_54 ?_
        refine lv_iload_n (pc := 57) hx hb dX2_gather_57 rfl (lv_at hl 2 rfl) ?_
        obtain ⟨h18_2, hf⟩ := gc_s hf
        refine g_iald (pc := 58) hC hU hH gk0_173 gn0_173 h18_2 dX2_gather_58 ?_
        refine lv_ishl (pc := 59) hx hb dX2_gather_59 ?_
        refine lv_iconst (v := (-1)) (pc := 60) hx hb dX2_gather_60 (by decide) ?_
        refine lv_ixor (pc := 61) hx hb dX2_gather_61 ?_
        exact bX2_gather_62 hC hret hlk hU hk18 hf hH hS (lv_sub hl [0, 1, 2] rfl)
      · have hf := gif_n hc hf
        refine lv_iconst (v := 1) (pc := 41) hx hb dX2_gather_41 (by decide) ?_
        refine lv_aload_n (pc := 42) hx hb dX2_gather_42 rfl (lv_at hl 0 rfl) ?_
        refine g_get (pc := 43) (v := .ref (ad 173)) hC hU hH gk0_169 g_cl2 3 (by decide) kf_X2_22 rfl dX2_gather_43 ?_
        refine lv_iload_n (pc := 46) hx hb dX2_gather_46 rfl (lv_at hl 2 rfl) ?_
        obtain ⟨h18_3, hf⟩ := gc_s hf
        refine g_iald (pc := 47) hC hU hH gk0_173 gn0_173 h18_3 dX2_gather_47 ?_
        refine lv_ishl (pc := 48) hx hb dX2_gather_48 ?_
        refine lv_goto (tgt := 62) (pc := 49) hx hb dX2_gather_49 (by decide) ?_
        exact bX2_gather_62 hC hret hlk hU hk18 hf hH hS (lv_sub hl [0, 1, 2] rfl)
def hX2_gather_18 (a1 : Int32)  : Nat → Int32 → gS → Option (gS)
  | 0 => fun _ _ => none
  | n + 1 => fun l2 st => fX2_gather_18 a1 (hX2_gather_18 a1 n) l2 st
set_option maxRecDepth 100000 in
set_option maxHeartbeats 4000000 in
theorem wX2_gather_18 {a1 : Int32} (hC : CallFix p m c cX2_gather 4 s args lw_good RX2) (hret : meth.sig.returnType = none) (hlk : meth.locks = false) (hU : gU 0 D cA ad s)  {st' : gS}  : ∀ (n : Nat) {l2 : Int32} {st : gS} {H : Heap} {locs : List Loc} {ls : Array Slot}, hX2_gather_18 a1 n l2 st = some st' → gP0 0 D cA ad st H → va_S (gA 0 ad) s.heap H locs → lv_has ls 4 [(0, .ref (ad 169)), (1, .int a1), (2, .int l2)] → W p l e (gRm 2) s m args below meth c H locs 0 0 (MQ below (gQc 0 D cA ad st' none) args s 0 0 (gA 0 ad)) (F0 m 18 ls []) := by
  intro n
  induction n with
  | zero => intro l2 st H locs ls hf hH hS hl; cases hf
  | succ n ih =>
    intro l2 st H locs ls hf hH hS hl
    exact bX2_gather_18 (a1 := a1) hC hret hlk hU (fun hf hH hS hl => ih hf hH hS hl) hf hH hS hl
def fX2_gather (a1 : Int32)   (st : gS) : Option (gS) :=
  (fJ7_fill_53178 176 (-1) st).bind fun q0_1 => ((fJ7_fill_53178 177 (-1) q0_1).bind fun q0_2 => (hX2_gather_18 a1 FU 0 q0_2))
set_option maxRecDepth 100000 in
set_option maxHeartbeats 4000000 in
theorem bX2_gather_0 {a1 : Int32} (hC : CallFix p m c cX2_gather 4 s args lw_good RX2) (hret : meth.sig.returnType = none) (hlk : meth.locks = false) (hU : gU 0 D cA ad s)  {st' : gS}   {st : gS} {H : Heap} {locs : List Loc} {ls : Array Slot} (hf : fX2_gather a1 st = some st') (hH : gP0 0 D cA ad st H) (hS : va_S (gA 0 ad) s.heap H locs) (hl : lv_has ls 4 [(0, .ref (ad 169)), (1, .int a1)]) : W p l e (gRm 2) s m args below meth c H locs 0 0 (MQ below (gQc 0 D cA ad st' none) args s 0 0 (gA 0 ad)) (F0 m 0 ls []) := by
  obtain ⟨hx, hb, hml, hown, hts⟩ := id hC
  unfold fX2_gather at hf
  refine lv_aload_n (pc := 0) hx hb dX2_gather_0 rfl (lv_at hl 0 rfl) ?_
  refine g_get (pc := 1) (v := .ref (ad 176)) hC hU hH gk0_169 g_cl2 6 (by decide) kf_X2_31 rfl dX2_gather_1 ?_
  refine lv_iconst (v := (-1)) (pc := 4) hx hb dX2_gather_4 (by decide) ?_
  obtain ⟨q0_1, hq0_1, hf⟩ := gbd hf
  refine g_callSv (pc := 5) (rest := []) hC hU hH hS hl.1 (mJ7_fill_53178 gk0_176 hq0_1) ky_J7_fill_53178 km_X2_64 ⟨Nat.le_of_ble_eq_true rfl, Nat.le_of_ble_eq_true rfl⟩ ⟨Nat.zero_le _, Nat.zero_le _⟩ rfl (Nat.le_of_ble_eq_true rfl) dX2_gather_5 rfl (fun H locs hH hS => ?_)
  refine lv_aload_n (pc := 8) hx hb dX2_gather_8 rfl (lv_at hl 0 rfl) ?_
  refine g_get (pc := 9) (v := .ref (ad 177)) hC hU hH gk0_169 g_cl2 7 (by decide) kf_X2_34 rfl dX2_gather_9 ?_
  refine lv_iconst (v := (-1)) (pc := 12) hx hb dX2_gather_12 (by decide) ?_
  obtain ⟨q0_2, hq0_2, hf⟩ := gbd hf
  refine g_callSv (pc := 13) (rest := []) hC hU hH hS hl.1 (mJ7_fill_53178 gk0_177 hq0_2) ky_J7_fill_53178 km_X2_64 ⟨Nat.le_of_ble_eq_true rfl, Nat.le_of_ble_eq_true rfl⟩ ⟨Nat.zero_le _, Nat.zero_le _⟩ rfl (Nat.le_of_ble_eq_true rfl) dX2_gather_13 rfl (fun H locs hH hS => ?_)
  refine lv_iconst (v := 0) (pc := 16) hx hb dX2_gather_16 (by decide) ?_
  refine lv_istore_n (lv' := [(2, .int 0), (0, .ref (ad 169)), (1, .int a1)]) (pc := 17) hx hb dX2_gather_17 rfl hl (by decide) rfl (fun ls hl => ?_)
  exact wX2_gather_18 hC hret hlk hU FU hf hH hS (lv_sub hl [1, 2, 0] rfl)
set_option maxRecDepth 100000 in
set_option maxHeartbeats 4000000 in
theorem mX2_gather {l : Launch} {D : va_G} {cA : Nat → ClassId} {ad : Nat → Nat} {a1 : Int32}  {st st' : gS} (hf : fX2_gather a1 st = some st') : gM l yX2_gather cX2_gather 4 none 2 0 D cA ad st [.ref (ad 169), .int a1] none st' := by
  refine g_met (by decide) (Nat.le_of_ble_eq_true rfl) ?_
  intro p e s m args below meth c ls hC hret hlk hU hH hl
  exact bX2_gather_0 hC hret hlk hU hf hH va_S.rf hl
def fX2_fits (r1 : Nat) (a2 : Int32) (a3 : Int32)   (st : gS) : Option (Int32 × gS) :=
  gc (gI a2 7) (gc (gI a3 16) (if (((st.1 177 a2.toNatClampNeg) >>> ((st.1 (r1 + 1 + 8) a3.toNatClampNeg) &&& 31)) &&& 1) = 0 then (some (0, st)) else (gc (gI a2 7) (gc (gI a3 16) (if (((st.1 176 a2.toNatClampNeg) >>> ((st.1 (r1 + 1 + 7) a3.toNatClampNeg) &&& 31)) &&& 1) = 0 then (some (0, st)) else (some (1, st)))))))
set_option maxRecDepth 100000 in
set_option maxHeartbeats 4000000 in
theorem bX2_fits_0 {r1 : Nat} {a2 : Int32} {a3 : Int32} (hC : CallFix p m c cX2_fits 4 s args lw_good RX2) (hret : meth.sig.returnType = (some .boolean)) (hlk : meth.locks = false) (hU : gU 0 D cA ad s) (hr1 : gK 0 r1 = 8) {r : Int32} {st' : gS}   {st : gS} {H : Heap} {locs : List Loc} {ls : Array Slot} (hf : fX2_fits r1 a2 a3 st = some (r, st')) (hH : gP0 0 D cA ad st H) (hS : va_S (gA 0 ad) s.heap H locs) (hl : lv_has ls 4 [(0, .ref (ad 169)), (1, .ref (ad r1)), (2, .int a2), (3, .int a3)]) : W p l e (gRm 1) s m args below meth c H locs 0 0 (MQ below (gQc 0 D cA ad st' (some (.int r))) args s 0 0 (gA 0 ad)) (F0 m 0 ls []) := by
  obtain ⟨hx, hb, hml, hown, hts⟩ := id hC
  unfold fX2_fits at hf
  refine lv_aload_n (pc := 0) hx hb dX2_fits_0 rfl (lv_at hl 0 rfl) ?_
  refine g_get (pc := 1) (v := .ref (ad 177)) hC hU hH gk0_169 g_cl2 7 (by decide) kf_X2_34 rfl dX2_fits_1 ?_
  refine lv_iload_n (pc := 4) hx hb dX2_fits_4 rfl (lv_at hl 2 rfl) ?_
  obtain ⟨h0_1, hf⟩ := gc_s hf
  refine g_iald (pc := 5) hC hU hH gk0_177 gn0_177 h0_1 dX2_fits_5 ?_
  refine lv_aload_n (pc := 6) hx hb dX2_fits_6 rfl (lv_at hl 1 rfl) ?_
  refine g_get (pc := 7) (v := .ref (ad (r1 + 1 + 8))) hC hU hH hr1 g_cl8 8 (by decide) kf_X2_96 rfl dX2_fits_7 ?_
  refine lv_iload_n (pc := 10) hx hb dX2_fits_10 rfl (lv_at hl 3 rfl) ?_
  obtain ⟨h0_2, hf⟩ := gc_s hf
  refine g_iald (pc := 11) hC hU hH (gk_8_8 hr1) (gn_8_8 hr1) h0_2 dX2_fits_11 ?_
  refine lv_ishr (pc := 12) hx hb dX2_fits_12 ?_
  refine lv_iconst (v := 1) (pc := 13) hx hb dX2_fits_13 (by decide) ?_
  refine lv_iand (pc := 14) hx hb dX2_fits_14 ?_
  refine lv_if_eq (tgt := 40) (pc := 15) hx hb dX2_fits_15 (by decide) (fun hc => ?_) (fun hc => ?_)
  · have hf := gif_p hc hf
    refine lv_iconst (v := 0) (pc := 40) hx hb dX2_fits_40 (by decide) ?_
    exact g_zret (pc := 41) hC hret hlk hH hS (by decide) hf dX2_fits_41
  · have hf := gif_n hc hf
    refine lv_aload_n (pc := 18) hx hb dX2_fits_18 rfl (lv_at hl 0 rfl) ?_
    refine g_get (pc := 19) (v := .ref (ad 176)) hC hU hH gk0_169 g_cl2 6 (by decide) kf_X2_31 rfl dX2_fits_19 ?_
    refine lv_iload_n (pc := 22) hx hb dX2_fits_22 rfl (lv_at hl 2 rfl) ?_
    obtain ⟨h0_3, hf⟩ := gc_s hf
    refine g_iald (pc := 23) hC hU hH gk0_176 gn0_176 h0_3 dX2_fits_23 ?_
    refine lv_aload_n (pc := 24) hx hb dX2_fits_24 rfl (lv_at hl 1 rfl) ?_
    refine g_get (pc := 25) (v := .ref (ad (r1 + 1 + 7))) hC hU hH hr1 g_cl8 7 (by decide) kf_X2_90 rfl dX2_fits_25 ?_
    refine lv_iload_n (pc := 28) hx hb dX2_fits_28 rfl (lv_at hl 3 rfl) ?_
    obtain ⟨h0_4, hf⟩ := gc_s hf
    refine g_iald (pc := 29) hC hU hH (gk_8_7 hr1) (gn_8_7 hr1) h0_4 dX2_fits_29 ?_
    refine lv_ishr (pc := 30) hx hb dX2_fits_30 ?_
    refine lv_iconst (v := 1) (pc := 31) hx hb dX2_fits_31 (by decide) ?_
    refine lv_iand (pc := 32) hx hb dX2_fits_32 ?_
    refine lv_if_eq (tgt := 40) (pc := 33) hx hb dX2_fits_33 (by decide) (fun hc => ?_) (fun hc => ?_)
    · have hf := gif_p hc hf
      refine lv_iconst (v := 0) (pc := 40) hx hb dX2_fits_40 (by decide) ?_
      exact g_zret (pc := 41) hC hret hlk hH hS (by decide) hf dX2_fits_41
    · have hf := gif_n hc hf
      refine lv_iconst (v := 1) (pc := 36) hx hb dX2_fits_36 (by decide) ?_
      refine lv_goto (tgt := 41) (pc := 37) hx hb dX2_fits_37 (by decide) ?_
      exact g_zret (pc := 41) hC hret hlk hH hS (by decide) hf dX2_fits_41
set_option maxRecDepth 100000 in
set_option maxHeartbeats 4000000 in
theorem mX2_fits {l : Launch} {D : va_G} {cA : Nat → ClassId} {ad : Nat → Nat} {r1 : Nat} {a2 : Int32} {a3 : Int32} (hr1 : gK 0 r1 = 8) {r : Int32} {st st' : gS} (hf : fX2_fits r1 a2 a3 st = some (r, st')) : gM l yX2_fits cX2_fits 4 (some .boolean) 1 0 D cA ad st [.ref (ad 169), .ref (ad r1), .int a2, .int a3] (some (.int r)) st' := by
  refine g_met (by decide) (Nat.le_of_ble_eq_true rfl) ?_
  intro p e s m args below meth c ls hC hret hlk hU hH hl
  exact bX2_fits_0 hC hret hlk hU hr1 hf hH va_S.rf hl
def fX2_walkOn_53 (r1 : Nat) (k35 : Int32 → gS → Option (gS)) (k53 : Int32 → Int32 → gS → Option (gS)) (l2 : Int32) (l3 : Int32) (st : gS) : Option (gS) :=
  if (st.1 r1 14) ≤ l3 then (k35 (l2 + 1) st) else ((fX2_fits r1 l2 l3 st).bind fun q53_1 => (if q53_1.1 = 0 then (k53 l2 (l3 + 1) q53_1.2) else (gc (gI l2 7) (gc (gI l3 16) (gc (gI (q53_1.2.1 (r1 + 1 + 7) l3.toNatClampNeg) 8) (gc (gI (l2 - 1) 7) (gc (gI l3 16) (gc (gI (q53_1.2.1 (r1 + 1 + 6) l3.toNatClampNeg) 8) (gc (gI (q53_1.2.1 (r1 + 1 + 7) l3.toNatClampNeg) 8) (k53 l2 (l3 + 1) (wi q53_1.2 (178 + 1 + l2.toNatClampNeg) (q53_1.2.1 (r1 + 1 + 7) l3.toNatClampNeg).toNatClampNeg ((q53_1.2.1 (178 + 1 + l2.toNatClampNeg) (q53_1.2.1 (r1 + 1 + 7) l3.toNatClampNeg).toNatClampNeg) + (q53_1.2.1 (178 + 1 + (l2 - 1).toNatClampNeg) (q53_1.2.1 (r1 + 1 + 6) l3.toNatClampNeg).toNatClampNeg)))))))))))))
set_option maxRecDepth 100000 in
set_option maxHeartbeats 4000000 in
theorem bX2_walkOn_53 {r1 : Nat} (hC : CallFix p m c cX2_walkOn 4 s args lw_good RX2) (hret : meth.sig.returnType = none) (hlk : meth.locks = false) (hU : gU 0 D cA ad s) (hr1 : gK 0 r1 = 8) {st' : gS} {k35 : Int32 → gS → Option (gS)} (hk35 : ∀ {l2 : Int32} {st : gS} {H : Heap} {locs : List Loc} {ls : Array Slot}, k35 l2 st = some st' → gP0 0 D cA ad st H → va_S (gA 0 ad) s.heap H locs → lv_has ls 4 [(0, .ref (ad 169)), (1, .ref (ad r1)), (2, .int l2)] → W p l e (gRm 2) s m args below meth c H locs 0 0 (MQ below (gQc 0 D cA ad st' none) args s 0 0 (gA 0 ad)) (F0 m 35 ls [])) {k53 : Int32 → Int32 → gS → Option (gS)} (hk53 : ∀ {l2 : Int32} {l3 : Int32} {st : gS} {H : Heap} {locs : List Loc} {ls : Array Slot}, k53 l2 l3 st = some st' → gP0 0 D cA ad st H → va_S (gA 0 ad) s.heap H locs → lv_has ls 4 [(0, .ref (ad 169)), (1, .ref (ad r1)), (2, .int l2), (3, .int l3)] → W p l e (gRm 2) s m args below meth c H locs 0 0 (MQ below (gQc 0 D cA ad st' none) args s 0 0 (gA 0 ad)) (F0 m 53 ls [])) {l2 : Int32} {l3 : Int32} {st : gS} {H : Heap} {locs : List Loc} {ls : Array Slot} (hf : fX2_walkOn_53 r1 k35 k53 l2 l3 st = some st') (hH : gP0 0 D cA ad st H) (hS : va_S (gA 0 ad) s.heap H locs) (hl : lv_has ls 4 [(0, .ref (ad 169)), (1, .ref (ad r1)), (2, .int l2), (3, .int l3)]) : W p l e (gRm 2) s m args below meth c H locs 0 0 (MQ below (gQc 0 D cA ad st' none) args s 0 0 (gA 0 ad)) (F0 m 53 ls []) := by
  obtain ⟨hx, hb, hml, hown, hts⟩ := id hC
  unfold fX2_walkOn_53 at hf
  refine lv_iload_n (pc := 53) hx hb dX2_walkOn_53 rfl (lv_at hl 3 rfl) ?_
  refine lv_aload_n (pc := 54) hx hb dX2_walkOn_54 rfl (lv_at hl 1 rfl) ?_
  refine g_get (pc := 55) (v := .int (st.1 r1 14)) hC hU hH hr1 g_cl8 14 (by decide) kf_X2_83 rfl dX2_walkOn_55 ?_
  refine lv_icmp_ge (tgt := 108) (pc := 58) hx hb dX2_walkOn_58 (by decide) (fun hc => ?_) (fun hc => ?_)
  · have hf := gif_p hc hf
    refine lv_iinc (v := l2 + 1) (lv' := [(2, .int (l2 + 1)), (0, .ref (ad 169)), (1, .ref (ad r1)), (3, .int l3)]) (k := 2) (pc := 108) hx hb dX2_walkOn_108 hl rfl rfl (by decide) rfl (fun ls hl => ?_)
    refine lv_goto (tgt := 35) (pc := 111) hx hb dX2_walkOn_111 (by decide) ?_
    exact hk35 hf hH hS (lv_sub hl [1, 2, 0] rfl)
  · have hf := gif_n hc hf
    refine lv_aload_n (pc := 61) hx hb dX2_walkOn_61 rfl (lv_at hl 0 rfl) ?_
    refine lv_aload_n (pc := 62) hx hb dX2_walkOn_62 rfl (lv_at hl 1 rfl) ?_
    refine lv_iload_n (pc := 63) hx hb dX2_walkOn_63 rfl (lv_at hl 2 rfl) ?_
    refine lv_iload_n (pc := 64) hx hb dX2_walkOn_64 rfl (lv_at hl 3 rfl) ?_
    obtain ⟨q53_1, hq53_1, hf⟩ := gbd hf
    refine g_callVi (pc := 65) (rest := []) hC hU hH hS hl.1 gk0_169 rfl (by decide) (mX2_fits hr1 hq53_1) ky_X2_fits km_X2_86 ⟨Nat.le_of_ble_eq_true rfl, Nat.le_of_ble_eq_true rfl⟩ ⟨Nat.zero_le _, Nat.zero_le _⟩ rfl (Nat.le_of_ble_eq_true rfl) dX2_walkOn_65 rfl (fun H locs hH hS => ?_)
    refine lv_if_eq (tgt := 102) (pc := 68) hx hb dX2_walkOn_68 (by decide) (fun hc => ?_) (fun hc => ?_)
    · have hf := gif_p hc hf
      refine lv_iinc (v := l3 + 1) (lv' := [(3, .int (l3 + 1)), (0, .ref (ad 169)), (1, .ref (ad r1)), (2, .int l2)]) (k := 3) (pc := 102) hx hb dX2_walkOn_102 hl rfl rfl (by decide) rfl (fun ls hl => ?_)
      refine lv_goto (tgt := 53) (pc := 105) hx hb dX2_walkOn_105 (by decide) ?_
      exact hk53 hf hH hS (lv_sub hl [1, 2, 3, 0] rfl)
    · have hf := gif_n hc hf
      refine lv_aload_n (pc := 71) hx hb dX2_walkOn_71 rfl (lv_at hl 0 rfl) ?_
      refine g_get (pc := 72) (v := .ref (ad 178)) hC hU hH gk0_169 g_cl2 8 (by decide) kf_X2_39 rfl dX2_walkOn_72 ?_
      refine lv_iload_n (pc := 75) hx hb dX2_walkOn_75 rfl (lv_at hl 2 rfl) ?_
      obtain ⟨h53_1, hf⟩ := gc_s hf
      refine g_gald (pc := 76) hC hU hH gk0_178 gn0_178 h53_1 dX2_walkOn_76 ?_
      refine lv_aload_n (pc := 77) hx hb dX2_walkOn_77 rfl (lv_at hl 1 rfl) ?_
      refine g_get (pc := 78) (v := .ref (ad (r1 + 1 + 7))) hC hU hH hr1 g_cl8 7 (by decide) kf_X2_90 rfl dX2_walkOn_78 ?_
      refine lv_iload_n (pc := 81) hx hb dX2_walkOn_81 rfl (lv_at hl 3 rfl) ?_
      obtain ⟨h53_2, hf⟩ := gc_s hf
      refine g_iald (pc := 82) hC hU hH (gk_8_7 hr1) (gn_8_7 hr1) h53_2 dX2_walkOn_82 ?_
      refine lv_dup2_11 (pc := 83) hx hb dX2_walkOn_83 rfl rfl ?_
      obtain ⟨h53_3, hf⟩ := gc_s hf
      refine g_iald (pc := 84) hC hU hH (gg_178 h53_1).1 (gg_178 h53_1).2 h53_3 dX2_walkOn_84 ?_
      refine lv_aload_n (pc := 85) hx hb dX2_walkOn_85 rfl (lv_at hl 0 rfl) ?_
      refine g_get (pc := 86) (v := .ref (ad 178)) hC hU hH gk0_169 g_cl2 8 (by decide) kf_X2_39 rfl dX2_walkOn_86 ?_
      refine lv_iload_n (pc := 89) hx hb dX2_walkOn_89 rfl (lv_at hl 2 rfl) ?_
      refine lv_iconst (v := 1) (pc := 90) hx hb dX2_walkOn_90 (by decide) ?_
      refine lv_isub (pc := 91) hx hb dX2_walkOn_91 ?_
      obtain ⟨h53_4, hf⟩ := gc_s hf
      refine g_gald (pc := 92) hC hU hH gk0_178 gn0_178 h53_4 dX2_walkOn_92 ?_
      refine lv_aload_n (pc := 93) hx hb dX2_walkOn_93 rfl (lv_at hl 1 rfl) ?_
      refine g_get (pc := 94) (v := .ref (ad (r1 + 1 + 6))) hC hU hH hr1 g_cl8 6 (by decide) kf_X2_93 rfl dX2_walkOn_94 ?_
      refine lv_iload_n (pc := 97) hx hb dX2_walkOn_97 rfl (lv_at hl 3 rfl) ?_
      obtain ⟨h53_5, hf⟩ := gc_s hf
      refine g_iald (pc := 98) hC hU hH (gk_8_6 hr1) (gn_8_6 hr1) h53_5 dX2_walkOn_98 ?_
      obtain ⟨h53_6, hf⟩ := gc_s hf
      refine g_iald (pc := 99) hC hU hH (gg_178 h53_4).1 (gg_178 h53_4).2 h53_6 dX2_walkOn_99 ?_
      refine lv_iadd (pc := 100) hx hb dX2_walkOn_100 ?_
      obtain ⟨h53_7, hf⟩ := gc_s hf
      refine g_iast (pc := 101) hC hU hH hS (gg_178 h53_1).1 (gg_178 h53_1).2 h53_7 dX2_walkOn_101 (fun H locs hH hS => ?_)
      refine lv_iinc (v := l3 + 1) (lv' := [(3, .int (l3 + 1)), (0, .ref (ad 169)), (1, .ref (ad r1)), (2, .int l2)]) (k := 3) (pc := 102) hx hb dX2_walkOn_102 hl rfl rfl (by decide) rfl (fun ls hl => ?_)
      refine lv_goto (tgt := 53) (pc := 105) hx hb dX2_walkOn_105 (by decide) ?_
      exact hk53 hf hH hS (lv_sub hl [1, 2, 3, 0] rfl)
def hX2_walkOn_53 (r1 : Nat) (k35 : Int32 → gS → Option (gS)) : Nat → Int32 → Int32 → gS → Option (gS)
  | 0 => fun _ _ _ => none
  | n + 1 => fun l2 l3 st => fX2_walkOn_53 r1 k35 (hX2_walkOn_53 r1 k35 n) l2 l3 st
set_option maxRecDepth 100000 in
set_option maxHeartbeats 4000000 in
theorem wX2_walkOn_53 {r1 : Nat} (hC : CallFix p m c cX2_walkOn 4 s args lw_good RX2) (hret : meth.sig.returnType = none) (hlk : meth.locks = false) (hU : gU 0 D cA ad s) (hr1 : gK 0 r1 = 8) {st' : gS} {k35 : Int32 → gS → Option (gS)} (hk35 : ∀ {l2 : Int32} {st : gS} {H : Heap} {locs : List Loc} {ls : Array Slot}, k35 l2 st = some st' → gP0 0 D cA ad st H → va_S (gA 0 ad) s.heap H locs → lv_has ls 4 [(0, .ref (ad 169)), (1, .ref (ad r1)), (2, .int l2)] → W p l e (gRm 2) s m args below meth c H locs 0 0 (MQ below (gQc 0 D cA ad st' none) args s 0 0 (gA 0 ad)) (F0 m 35 ls [])) : ∀ (n : Nat) {l2 : Int32} {l3 : Int32} {st : gS} {H : Heap} {locs : List Loc} {ls : Array Slot}, hX2_walkOn_53 r1 k35 n l2 l3 st = some st' → gP0 0 D cA ad st H → va_S (gA 0 ad) s.heap H locs → lv_has ls 4 [(0, .ref (ad 169)), (1, .ref (ad r1)), (2, .int l2), (3, .int l3)] → W p l e (gRm 2) s m args below meth c H locs 0 0 (MQ below (gQc 0 D cA ad st' none) args s 0 0 (gA 0 ad)) (F0 m 53 ls []) := by
  intro n
  induction n with
  | zero => intro l2 l3 st H locs ls hf hH hS hl; cases hf
  | succ n ih =>
    intro l2 l3 st H locs ls hf hH hS hl
    exact bX2_walkOn_53 (r1 := r1) hC hret hlk hU hr1 hk35 (fun hf hH hS hl => ih hf hH hS hl) hf hH hS hl
def fX2_walkOn_35 (r1 : Nat) (k35 : Int32 → gS → Option (gS)) (l2 : Int32) (st : gS) : Option (gS) :=
  if 6 < l2 then (some st) else (gc (gI l2 7) ((fJ7_fill_53178 (178 + 1 + l2.toNatClampNeg) 0 st).bind fun q35_1 => (hX2_walkOn_53 r1 k35 FU l2 0 q35_1)))
set_option maxRecDepth 100000 in
set_option maxHeartbeats 4000000 in
theorem bX2_walkOn_35 {r1 : Nat} (hC : CallFix p m c cX2_walkOn 4 s args lw_good RX2) (hret : meth.sig.returnType = none) (hlk : meth.locks = false) (hU : gU 0 D cA ad s) (hr1 : gK 0 r1 = 8) {st' : gS} {k35 : Int32 → gS → Option (gS)} (hk35 : ∀ {l2 : Int32} {st : gS} {H : Heap} {locs : List Loc} {ls : Array Slot}, k35 l2 st = some st' → gP0 0 D cA ad st H → va_S (gA 0 ad) s.heap H locs → lv_has ls 4 [(0, .ref (ad 169)), (1, .ref (ad r1)), (2, .int l2)] → W p l e (gRm 2) s m args below meth c H locs 0 0 (MQ below (gQc 0 D cA ad st' none) args s 0 0 (gA 0 ad)) (F0 m 35 ls [])) {l2 : Int32} {st : gS} {H : Heap} {locs : List Loc} {ls : Array Slot} (hf : fX2_walkOn_35 r1 k35 l2 st = some st') (hH : gP0 0 D cA ad st H) (hS : va_S (gA 0 ad) s.heap H locs) (hl : lv_has ls 4 [(0, .ref (ad 169)), (1, .ref (ad r1)), (2, .int l2)]) : W p l e (gRm 2) s m args below meth c H locs 0 0 (MQ below (gQc 0 D cA ad st' none) args s 0 0 (gA 0 ad)) (F0 m 35 ls []) := by
  obtain ⟨hx, hb, hml, hown, hts⟩ := id hC
  unfold fX2_walkOn_35 at hf
  refine lv_iload_n (pc := 35) hx hb dX2_walkOn_35 rfl (lv_at hl 2 rfl) ?_
  refine lv_bipush (v := 6) (pc := 36) hx hb dX2_walkOn_36 (by decide) ?_
  refine lv_icmp_gt (tgt := 114) (pc := 38) hx hb dX2_walkOn_38 (by decide) (fun hc => ?_) (fun hc => ?_)
  · have hf := gif_p hc hf
    exact g_vret (pc := 114) hC hret hlk hH hS hf dX2_walkOn_114
  · have hf := gif_n hc hf
    refine lv_aload_n (pc := 41) hx hb dX2_walkOn_41 rfl (lv_at hl 0 rfl) ?_
    refine g_get (pc := 42) (v := .ref (ad 178)) hC hU hH gk0_169 g_cl2 8 (by decide) kf_X2_39 rfl dX2_walkOn_42 ?_
    refine lv_iload_n (pc := 45) hx hb dX2_walkOn_45 rfl (lv_at hl 2 rfl) ?_
    obtain ⟨h35_1, hf⟩ := gc_s hf
    refine g_gald (pc := 46) hC hU hH gk0_178 gn0_178 h35_1 dX2_walkOn_46 ?_
    refine lv_iconst (v := 0) (pc := 47) hx hb dX2_walkOn_47 (by decide) ?_
    obtain ⟨q35_1, hq35_1, hf⟩ := gbd hf
    refine g_callSv (pc := 48) (rest := []) hC hU hH hS hl.1 (mJ7_fill_53178 (gg_178 h35_1).1 hq35_1) ky_J7_fill_53178 km_X2_64 ⟨Nat.le_of_ble_eq_true rfl, Nat.le_of_ble_eq_true rfl⟩ ⟨Nat.zero_le _, Nat.zero_le _⟩ rfl (Nat.le_of_ble_eq_true rfl) dX2_walkOn_48 rfl (fun H locs hH hS => ?_)
    refine lv_iconst (v := 0) (pc := 51) hx hb dX2_walkOn_51 (by decide) ?_
    refine lv_istore_n (lv' := [(3, .int 0), (0, .ref (ad 169)), (1, .ref (ad r1)), (2, .int l2)]) (pc := 52) hx hb dX2_walkOn_52 rfl hl (by decide) rfl (fun ls hl => ?_)
    exact wX2_walkOn_53 hC hret hlk hU hr1 hk35 FU hf hH hS (lv_sub hl [1, 2, 3, 0] rfl)
def hX2_walkOn_35 (r1 : Nat)  : Nat → Int32 → gS → Option (gS)
  | 0 => fun _ _ => none
  | n + 1 => fun l2 st => fX2_walkOn_35 r1 (hX2_walkOn_35 r1 n) l2 st
set_option maxRecDepth 100000 in
set_option maxHeartbeats 4000000 in
theorem wX2_walkOn_35 {r1 : Nat} (hC : CallFix p m c cX2_walkOn 4 s args lw_good RX2) (hret : meth.sig.returnType = none) (hlk : meth.locks = false) (hU : gU 0 D cA ad s) (hr1 : gK 0 r1 = 8) {st' : gS}  : ∀ (n : Nat) {l2 : Int32} {st : gS} {H : Heap} {locs : List Loc} {ls : Array Slot}, hX2_walkOn_35 r1 n l2 st = some st' → gP0 0 D cA ad st H → va_S (gA 0 ad) s.heap H locs → lv_has ls 4 [(0, .ref (ad 169)), (1, .ref (ad r1)), (2, .int l2)] → W p l e (gRm 2) s m args below meth c H locs 0 0 (MQ below (gQc 0 D cA ad st' none) args s 0 0 (gA 0 ad)) (F0 m 35 ls []) := by
  intro n
  induction n with
  | zero => intro l2 st H locs ls hf hH hS hl; cases hf
  | succ n ih =>
    intro l2 st H locs ls hf hH hS hl
    exact bX2_walkOn_35 (r1 := r1) hC hret hlk hU hr1 (fun hf hH hS hl => ih hf hH hS hl) hf hH hS hl
def fX2_walkOn (r1 : Nat)   (st : gS) : Option (gS) :=
  gc (gI 0 7) ((fJ7_fill_53178 (178 + 1 + (0 : Int32).toNatClampNeg) 0 st).bind fun q0_1 => (if (q0_1.1 r1 12) ≤ 0 then (hX2_walkOn_35 r1 FU 1 q0_1) else (gc (gI 0 7) (gc (gI 0 7) (gc (gI 0 8) (hX2_walkOn_35 r1 FU 1 (wi q0_1 (178 + 1 + (0 : Int32).toNatClampNeg) (0 : Int32).toNatClampNeg ((q0_1.1 176 (0 : Int32).toNatClampNeg) &&& 1))))))))
set_option maxRecDepth 100000 in
set_option maxHeartbeats 4000000 in
theorem bX2_walkOn_0 {r1 : Nat} (hC : CallFix p m c cX2_walkOn 4 s args lw_good RX2) (hret : meth.sig.returnType = none) (hlk : meth.locks = false) (hU : gU 0 D cA ad s) (hr1 : gK 0 r1 = 8) {st' : gS}   {st : gS} {H : Heap} {locs : List Loc} {ls : Array Slot} (hf : fX2_walkOn r1 st = some st') (hH : gP0 0 D cA ad st H) (hS : va_S (gA 0 ad) s.heap H locs) (hl : lv_has ls 4 [(0, .ref (ad 169)), (1, .ref (ad r1))]) : W p l e (gRm 2) s m args below meth c H locs 0 0 (MQ below (gQc 0 D cA ad st' none) args s 0 0 (gA 0 ad)) (F0 m 0 ls []) := by
  obtain ⟨hx, hb, hml, hown, hts⟩ := id hC
  unfold fX2_walkOn at hf
  refine lv_aload_n (pc := 0) hx hb dX2_walkOn_0 rfl (lv_at hl 0 rfl) ?_
  refine g_get (pc := 1) (v := .ref (ad 178)) hC hU hH gk0_169 g_cl2 8 (by decide) kf_X2_39 rfl dX2_walkOn_1 ?_
  refine lv_iconst (v := 0) (pc := 4) hx hb dX2_walkOn_4 (by decide) ?_
  obtain ⟨h0_1, hf⟩ := gc_s hf
  refine g_gald (pc := 5) hC hU hH gk0_178 gn0_178 h0_1 dX2_walkOn_5 ?_
  refine lv_iconst (v := 0) (pc := 6) hx hb dX2_walkOn_6 (by decide) ?_
  obtain ⟨q0_1, hq0_1, hf⟩ := gbd hf
  refine g_callSv (pc := 7) (rest := []) hC hU hH hS hl.1 (mJ7_fill_53178 (gg_178 h0_1).1 hq0_1) ky_J7_fill_53178 km_X2_64 ⟨Nat.le_of_ble_eq_true rfl, Nat.le_of_ble_eq_true rfl⟩ ⟨Nat.zero_le _, Nat.zero_le _⟩ rfl (Nat.le_of_ble_eq_true rfl) dX2_walkOn_7 rfl (fun H locs hH hS => ?_)
  refine lv_aload_n (pc := 10) hx hb dX2_walkOn_10 rfl (lv_at hl 1 rfl) ?_
  refine g_get (pc := 11) (v := .int (q0_1.1 r1 12)) hC hU hH hr1 g_cl8 12 (by decide) kf_X2_78 rfl dX2_walkOn_11 ?_
  refine lv_if_le (tgt := 33) (pc := 14) hx hb dX2_walkOn_14 (by decide) (fun hc => ?_) (fun hc => ?_)
  · have hf := gif_p hc hf
    refine lv_iconst (v := 1) (pc := 33) hx hb dX2_walkOn_33 (by decide) ?_
    refine lv_istore_n (lv' := [(2, .int 1), (0, .ref (ad 169)), (1, .ref (ad r1))]) (pc := 34) hx hb dX2_walkOn_34 rfl hl (by decide) rfl (fun ls hl => ?_)
    exact wX2_walkOn_35 hC hret hlk hU hr1 FU hf hH hS (lv_sub hl [1, 2, 0] rfl)
  · have hf := gif_n hc hf
    refine lv_aload_n (pc := 17) hx hb dX2_walkOn_17 rfl (lv_at hl 0 rfl) ?_
    refine g_get (pc := 18) (v := .ref (ad 178)) hC hU hH gk0_169 g_cl2 8 (by decide) kf_X2_39 rfl dX2_walkOn_18 ?_
    refine lv_iconst (v := 0) (pc := 21) hx hb dX2_walkOn_21 (by decide) ?_
    obtain ⟨h0_2, hf⟩ := gc_s hf
    refine g_gald (pc := 22) hC hU hH gk0_178 gn0_178 h0_2 dX2_walkOn_22 ?_
    refine lv_iconst (v := 0) (pc := 23) hx hb dX2_walkOn_23 (by decide) ?_
    refine lv_aload_n (pc := 24) hx hb dX2_walkOn_24 rfl (lv_at hl 0 rfl) ?_
    refine g_get (pc := 25) (v := .ref (ad 176)) hC hU hH gk0_169 g_cl2 6 (by decide) kf_X2_31 rfl dX2_walkOn_25 ?_
    refine lv_iconst (v := 0) (pc := 28) hx hb dX2_walkOn_28 (by decide) ?_
    obtain ⟨h0_3, hf⟩ := gc_s hf
    refine g_iald (pc := 29) hC hU hH gk0_176 gn0_176 h0_3 dX2_walkOn_29 ?_
    refine lv_iconst (v := 1) (pc := 30) hx hb dX2_walkOn_30 (by decide) ?_
    refine lv_iand (pc := 31) hx hb dX2_walkOn_31 ?_
    obtain ⟨h0_4, hf⟩ := gc_s hf
    refine g_iast (pc := 32) hC hU hH hS (gg_178 h0_2).1 (gg_178 h0_2).2 h0_4 dX2_walkOn_32 (fun H locs hH hS => ?_)
    refine lv_iconst (v := 1) (pc := 33) hx hb dX2_walkOn_33 (by decide) ?_
    refine lv_istore_n (lv' := [(2, .int 1), (0, .ref (ad 169)), (1, .ref (ad r1))]) (pc := 34) hx hb dX2_walkOn_34 rfl hl (by decide) rfl (fun ls hl => ?_)
    exact wX2_walkOn_35 hC hret hlk hU hr1 FU hf hH hS (lv_sub hl [1, 2, 0] rfl)
set_option maxRecDepth 100000 in
set_option maxHeartbeats 4000000 in
theorem mX2_walkOn {l : Launch} {D : va_G} {cA : Nat → ClassId} {ad : Nat → Nat} {r1 : Nat} (hr1 : gK 0 r1 = 8) {st st' : gS} (hf : fX2_walkOn r1 st = some st') : gM l yX2_walkOn cX2_walkOn 4 none 2 0 D cA ad st [.ref (ad 169), .ref (ad r1)] none st' := by
  refine g_met (by decide) (Nat.le_of_ble_eq_true rfl) ?_
  intro p e s m args below meth c ls hC hret hlk hU hH hl
  exact bX2_walkOn_0 hC hret hlk hU hr1 hf hH va_S.rf hl
def fX2_walkBack_33 (r1 : Nat) (k14 : Int32 → gS → Option (gS)) (k33 : Int32 → Int32 → gS → Option (gS)) (l2 : Int32) (l3 : Int32) (st : gS) : Option (gS) :=
  if (st.1 r1 14) ≤ l3 then (k14 (l2 + (-1)) st) else ((fX2_fits r1 l2 l3 st).bind fun q33_1 => (if q33_1.1 = 0 then (k33 l2 (l3 + 1) q33_1.2) else (gc (gI (l2 - 1) 7) (gc (gI l3 16) (gc (gI (q33_1.2.1 (r1 + 1 + 6) l3.toNatClampNeg) 8) (gc (gI l2 7) (gc (gI l3 16) (gc (gI (q33_1.2.1 (r1 + 1 + 7) l3.toNatClampNeg) 8) (gc (gI (q33_1.2.1 (r1 + 1 + 6) l3.toNatClampNeg) 8) (k33 l2 (l3 + 1) (wi q33_1.2 (186 + 1 + (l2 - 1).toNatClampNeg) (q33_1.2.1 (r1 + 1 + 6) l3.toNatClampNeg).toNatClampNeg ((q33_1.2.1 (186 + 1 + (l2 - 1).toNatClampNeg) (q33_1.2.1 (r1 + 1 + 6) l3.toNatClampNeg).toNatClampNeg) + (q33_1.2.1 (186 + 1 + l2.toNatClampNeg) (q33_1.2.1 (r1 + 1 + 7) l3.toNatClampNeg).toNatClampNeg)))))))))))))
set_option maxRecDepth 100000 in
set_option maxHeartbeats 4000000 in
theorem bX2_walkBack_33 {r1 : Nat} (hC : CallFix p m c cX2_walkBack 4 s args lw_good RX2) (hret : meth.sig.returnType = none) (hlk : meth.locks = false) (hU : gU 0 D cA ad s) (hr1 : gK 0 r1 = 8) {st' : gS} {k14 : Int32 → gS → Option (gS)} (hk14 : ∀ {l2 : Int32} {st : gS} {H : Heap} {locs : List Loc} {ls : Array Slot}, k14 l2 st = some st' → gP0 0 D cA ad st H → va_S (gA 0 ad) s.heap H locs → lv_has ls 4 [(0, .ref (ad 169)), (1, .ref (ad r1)), (2, .int l2)] → W p l e (gRm 2) s m args below meth c H locs 0 0 (MQ below (gQc 0 D cA ad st' none) args s 0 0 (gA 0 ad)) (F0 m 14 ls [])) {k33 : Int32 → Int32 → gS → Option (gS)} (hk33 : ∀ {l2 : Int32} {l3 : Int32} {st : gS} {H : Heap} {locs : List Loc} {ls : Array Slot}, k33 l2 l3 st = some st' → gP0 0 D cA ad st H → va_S (gA 0 ad) s.heap H locs → lv_has ls 4 [(0, .ref (ad 169)), (1, .ref (ad r1)), (2, .int l2), (3, .int l3)] → W p l e (gRm 2) s m args below meth c H locs 0 0 (MQ below (gQc 0 D cA ad st' none) args s 0 0 (gA 0 ad)) (F0 m 33 ls [])) {l2 : Int32} {l3 : Int32} {st : gS} {H : Heap} {locs : List Loc} {ls : Array Slot} (hf : fX2_walkBack_33 r1 k14 k33 l2 l3 st = some st') (hH : gP0 0 D cA ad st H) (hS : va_S (gA 0 ad) s.heap H locs) (hl : lv_has ls 4 [(0, .ref (ad 169)), (1, .ref (ad r1)), (2, .int l2), (3, .int l3)]) : W p l e (gRm 2) s m args below meth c H locs 0 0 (MQ below (gQc 0 D cA ad st' none) args s 0 0 (gA 0 ad)) (F0 m 33 ls []) := by
  obtain ⟨hx, hb, hml, hown, hts⟩ := id hC
  unfold fX2_walkBack_33 at hf
  refine lv_iload_n (pc := 33) hx hb dX2_walkBack_33 rfl (lv_at hl 3 rfl) ?_
  refine lv_aload_n (pc := 34) hx hb dX2_walkBack_34 rfl (lv_at hl 1 rfl) ?_
  refine g_get (pc := 35) (v := .int (st.1 r1 14)) hC hU hH hr1 g_cl8 14 (by decide) kf_X2_83 rfl dX2_walkBack_35 ?_
  refine lv_icmp_ge (tgt := 88) (pc := 38) hx hb dX2_walkBack_38 (by decide) (fun hc => ?_) (fun hc => ?_)
  · have hf := gif_p hc hf
    refine lv_iinc (v := l2 + (-1)) (lv' := [(2, .int (l2 + (-1))), (0, .ref (ad 169)), (1, .ref (ad r1)), (3, .int l3)]) (k := 2) (pc := 88) hx hb dX2_walkBack_88 hl rfl rfl (by decide) rfl (fun ls hl => ?_)
    refine lv_goto (tgt := 14) (pc := 91) hx hb dX2_walkBack_91 (by decide) ?_
    exact hk14 hf hH hS (lv_sub hl [1, 2, 0] rfl)
  · have hf := gif_n hc hf
    refine lv_aload_n (pc := 41) hx hb dX2_walkBack_41 rfl (lv_at hl 0 rfl) ?_
    refine lv_aload_n (pc := 42) hx hb dX2_walkBack_42 rfl (lv_at hl 1 rfl) ?_
    refine lv_iload_n (pc := 43) hx hb dX2_walkBack_43 rfl (lv_at hl 2 rfl) ?_
    refine lv_iload_n (pc := 44) hx hb dX2_walkBack_44 rfl (lv_at hl 3 rfl) ?_
    obtain ⟨q33_1, hq33_1, hf⟩ := gbd hf
    refine g_callVi (pc := 45) (rest := []) hC hU hH hS hl.1 gk0_169 rfl (by decide) (mX2_fits hr1 hq33_1) ky_X2_fits km_X2_86 ⟨Nat.le_of_ble_eq_true rfl, Nat.le_of_ble_eq_true rfl⟩ ⟨Nat.zero_le _, Nat.zero_le _⟩ rfl (Nat.le_of_ble_eq_true rfl) dX2_walkBack_45 rfl (fun H locs hH hS => ?_)
    refine lv_if_eq (tgt := 82) (pc := 48) hx hb dX2_walkBack_48 (by decide) (fun hc => ?_) (fun hc => ?_)
    · have hf := gif_p hc hf
      refine lv_iinc (v := l3 + 1) (lv' := [(3, .int (l3 + 1)), (0, .ref (ad 169)), (1, .ref (ad r1)), (2, .int l2)]) (k := 3) (pc := 82) hx hb dX2_walkBack_82 hl rfl rfl (by decide) rfl (fun ls hl => ?_)
      refine lv_goto (tgt := 33) (pc := 85) hx hb dX2_walkBack_85 (by decide) ?_
      exact hk33 hf hH hS (lv_sub hl [1, 2, 3, 0] rfl)
    · have hf := gif_n hc hf
      refine lv_aload_n (pc := 51) hx hb dX2_walkBack_51 rfl (lv_at hl 0 rfl) ?_
      refine g_get (pc := 52) (v := .ref (ad 186)) hC hU hH gk0_169 g_cl2 9 (by decide) kf_X2_42 rfl dX2_walkBack_52 ?_
      refine lv_iload_n (pc := 55) hx hb dX2_walkBack_55 rfl (lv_at hl 2 rfl) ?_
      refine lv_iconst (v := 1) (pc := 56) hx hb dX2_walkBack_56 (by decide) ?_
      refine lv_isub (pc := 57) hx hb dX2_walkBack_57 ?_
      obtain ⟨h33_1, hf⟩ := gc_s hf
      refine g_gald (pc := 58) hC hU hH gk0_186 gn0_186 h33_1 dX2_walkBack_58 ?_
      refine lv_aload_n (pc := 59) hx hb dX2_walkBack_59 rfl (lv_at hl 1 rfl) ?_
      refine g_get (pc := 60) (v := .ref (ad (r1 + 1 + 6))) hC hU hH hr1 g_cl8 6 (by decide) kf_X2_93 rfl dX2_walkBack_60 ?_
      refine lv_iload_n (pc := 63) hx hb dX2_walkBack_63 rfl (lv_at hl 3 rfl) ?_
      obtain ⟨h33_2, hf⟩ := gc_s hf
      refine g_iald (pc := 64) hC hU hH (gk_8_6 hr1) (gn_8_6 hr1) h33_2 dX2_walkBack_64 ?_
      refine lv_dup2_11 (pc := 65) hx hb dX2_walkBack_65 rfl rfl ?_
      obtain ⟨h33_3, hf⟩ := gc_s hf
      refine g_iald (pc := 66) hC hU hH (gg_186 h33_1).1 (gg_186 h33_1).2 h33_3 dX2_walkBack_66 ?_
      refine lv_aload_n (pc := 67) hx hb dX2_walkBack_67 rfl (lv_at hl 0 rfl) ?_
      refine g_get (pc := 68) (v := .ref (ad 186)) hC hU hH gk0_169 g_cl2 9 (by decide) kf_X2_42 rfl dX2_walkBack_68 ?_
      refine lv_iload_n (pc := 71) hx hb dX2_walkBack_71 rfl (lv_at hl 2 rfl) ?_
      obtain ⟨h33_4, hf⟩ := gc_s hf
      refine g_gald (pc := 72) hC hU hH gk0_186 gn0_186 h33_4 dX2_walkBack_72 ?_
      refine lv_aload_n (pc := 73) hx hb dX2_walkBack_73 rfl (lv_at hl 1 rfl) ?_
      refine g_get (pc := 74) (v := .ref (ad (r1 + 1 + 7))) hC hU hH hr1 g_cl8 7 (by decide) kf_X2_90 rfl dX2_walkBack_74 ?_
      refine lv_iload_n (pc := 77) hx hb dX2_walkBack_77 rfl (lv_at hl 3 rfl) ?_
      obtain ⟨h33_5, hf⟩ := gc_s hf
      refine g_iald (pc := 78) hC hU hH (gk_8_7 hr1) (gn_8_7 hr1) h33_5 dX2_walkBack_78 ?_
      obtain ⟨h33_6, hf⟩ := gc_s hf
      refine g_iald (pc := 79) hC hU hH (gg_186 h33_4).1 (gg_186 h33_4).2 h33_6 dX2_walkBack_79 ?_
      refine lv_iadd (pc := 80) hx hb dX2_walkBack_80 ?_
      obtain ⟨h33_7, hf⟩ := gc_s hf
      refine g_iast (pc := 81) hC hU hH hS (gg_186 h33_1).1 (gg_186 h33_1).2 h33_7 dX2_walkBack_81 (fun H locs hH hS => ?_)
      refine lv_iinc (v := l3 + 1) (lv' := [(3, .int (l3 + 1)), (0, .ref (ad 169)), (1, .ref (ad r1)), (2, .int l2)]) (k := 3) (pc := 82) hx hb dX2_walkBack_82 hl rfl rfl (by decide) rfl (fun ls hl => ?_)
      refine lv_goto (tgt := 33) (pc := 85) hx hb dX2_walkBack_85 (by decide) ?_
      exact hk33 hf hH hS (lv_sub hl [1, 2, 3, 0] rfl)
def hX2_walkBack_33 (r1 : Nat) (k14 : Int32 → gS → Option (gS)) : Nat → Int32 → Int32 → gS → Option (gS)
  | 0 => fun _ _ _ => none
  | n + 1 => fun l2 l3 st => fX2_walkBack_33 r1 k14 (hX2_walkBack_33 r1 k14 n) l2 l3 st
set_option maxRecDepth 100000 in
set_option maxHeartbeats 4000000 in
theorem wX2_walkBack_33 {r1 : Nat} (hC : CallFix p m c cX2_walkBack 4 s args lw_good RX2) (hret : meth.sig.returnType = none) (hlk : meth.locks = false) (hU : gU 0 D cA ad s) (hr1 : gK 0 r1 = 8) {st' : gS} {k14 : Int32 → gS → Option (gS)} (hk14 : ∀ {l2 : Int32} {st : gS} {H : Heap} {locs : List Loc} {ls : Array Slot}, k14 l2 st = some st' → gP0 0 D cA ad st H → va_S (gA 0 ad) s.heap H locs → lv_has ls 4 [(0, .ref (ad 169)), (1, .ref (ad r1)), (2, .int l2)] → W p l e (gRm 2) s m args below meth c H locs 0 0 (MQ below (gQc 0 D cA ad st' none) args s 0 0 (gA 0 ad)) (F0 m 14 ls [])) : ∀ (n : Nat) {l2 : Int32} {l3 : Int32} {st : gS} {H : Heap} {locs : List Loc} {ls : Array Slot}, hX2_walkBack_33 r1 k14 n l2 l3 st = some st' → gP0 0 D cA ad st H → va_S (gA 0 ad) s.heap H locs → lv_has ls 4 [(0, .ref (ad 169)), (1, .ref (ad r1)), (2, .int l2), (3, .int l3)] → W p l e (gRm 2) s m args below meth c H locs 0 0 (MQ below (gQc 0 D cA ad st' none) args s 0 0 (gA 0 ad)) (F0 m 33 ls []) := by
  intro n
  induction n with
  | zero => intro l2 l3 st H locs ls hf hH hS hl; cases hf
  | succ n ih =>
    intro l2 l3 st H locs ls hf hH hS hl
    exact bX2_walkBack_33 (r1 := r1) hC hret hlk hU hr1 hk14 (fun hf hH hS hl => ih hf hH hS hl) hf hH hS hl
def fX2_walkBack_14 (r1 : Nat) (k14 : Int32 → gS → Option (gS)) (l2 : Int32) (st : gS) : Option (gS) :=
  if l2 < 1 then (some st) else (gc (gI (l2 - 1) 7) ((fJ7_fill_53178 (186 + 1 + (l2 - 1).toNatClampNeg) 0 st).bind fun q14_1 => (hX2_walkBack_33 r1 k14 FU l2 0 q14_1)))
set_option maxRecDepth 100000 in
set_option maxHeartbeats 4000000 in
theorem bX2_walkBack_14 {r1 : Nat} (hC : CallFix p m c cX2_walkBack 4 s args lw_good RX2) (hret : meth.sig.returnType = none) (hlk : meth.locks = false) (hU : gU 0 D cA ad s) (hr1 : gK 0 r1 = 8) {st' : gS} {k14 : Int32 → gS → Option (gS)} (hk14 : ∀ {l2 : Int32} {st : gS} {H : Heap} {locs : List Loc} {ls : Array Slot}, k14 l2 st = some st' → gP0 0 D cA ad st H → va_S (gA 0 ad) s.heap H locs → lv_has ls 4 [(0, .ref (ad 169)), (1, .ref (ad r1)), (2, .int l2)] → W p l e (gRm 2) s m args below meth c H locs 0 0 (MQ below (gQc 0 D cA ad st' none) args s 0 0 (gA 0 ad)) (F0 m 14 ls [])) {l2 : Int32} {st : gS} {H : Heap} {locs : List Loc} {ls : Array Slot} (hf : fX2_walkBack_14 r1 k14 l2 st = some st') (hH : gP0 0 D cA ad st H) (hS : va_S (gA 0 ad) s.heap H locs) (hl : lv_has ls 4 [(0, .ref (ad 169)), (1, .ref (ad r1)), (2, .int l2)]) : W p l e (gRm 2) s m args below meth c H locs 0 0 (MQ below (gQc 0 D cA ad st' none) args s 0 0 (gA 0 ad)) (F0 m 14 ls []) := by
  obtain ⟨hx, hb, hml, hown, hts⟩ := id hC
  unfold fX2_walkBack_14 at hf
  refine lv_iload_n (pc := 14) hx hb dX2_walkBack_14 rfl (lv_at hl 2 rfl) ?_
  refine lv_iconst (v := 1) (pc := 15) hx hb dX2_walkBack_15 (by decide) ?_
  refine lv_icmp_lt (tgt := 94) (pc := 16) hx hb dX2_walkBack_16 (by decide) (fun hc => ?_) (fun hc => ?_)
  · have hf := gif_p hc hf
    exact g_vret (pc := 94) hC hret hlk hH hS hf dX2_walkBack_94
  · have hf := gif_n hc hf
    refine lv_aload_n (pc := 19) hx hb dX2_walkBack_19 rfl (lv_at hl 0 rfl) ?_
    refine g_get (pc := 20) (v := .ref (ad 186)) hC hU hH gk0_169 g_cl2 9 (by decide) kf_X2_42 rfl dX2_walkBack_20 ?_
    refine lv_iload_n (pc := 23) hx hb dX2_walkBack_23 rfl (lv_at hl 2 rfl) ?_
    refine lv_iconst (v := 1) (pc := 24) hx hb dX2_walkBack_24 (by decide) ?_
    refine lv_isub (pc := 25) hx hb dX2_walkBack_25 ?_
    obtain ⟨h14_1, hf⟩ := gc_s hf
    refine g_gald (pc := 26) hC hU hH gk0_186 gn0_186 h14_1 dX2_walkBack_26 ?_
    refine lv_iconst (v := 0) (pc := 27) hx hb dX2_walkBack_27 (by decide) ?_
    obtain ⟨q14_1, hq14_1, hf⟩ := gbd hf
    refine g_callSv (pc := 28) (rest := []) hC hU hH hS hl.1 (mJ7_fill_53178 (gg_186 h14_1).1 hq14_1) ky_J7_fill_53178 km_X2_64 ⟨Nat.le_of_ble_eq_true rfl, Nat.le_of_ble_eq_true rfl⟩ ⟨Nat.zero_le _, Nat.zero_le _⟩ rfl (Nat.le_of_ble_eq_true rfl) dX2_walkBack_28 rfl (fun H locs hH hS => ?_)
    refine lv_iconst (v := 0) (pc := 31) hx hb dX2_walkBack_31 (by decide) ?_
    refine lv_istore_n (lv' := [(3, .int 0), (0, .ref (ad 169)), (1, .ref (ad r1)), (2, .int l2)]) (pc := 32) hx hb dX2_walkBack_32 rfl hl (by decide) rfl (fun ls hl => ?_)
    exact wX2_walkBack_33 hC hret hlk hU hr1 hk14 FU hf hH hS (lv_sub hl [1, 2, 3, 0] rfl)
def hX2_walkBack_14 (r1 : Nat)  : Nat → Int32 → gS → Option (gS)
  | 0 => fun _ _ => none
  | n + 1 => fun l2 st => fX2_walkBack_14 r1 (hX2_walkBack_14 r1 n) l2 st
set_option maxRecDepth 100000 in
set_option maxHeartbeats 4000000 in
theorem wX2_walkBack_14 {r1 : Nat} (hC : CallFix p m c cX2_walkBack 4 s args lw_good RX2) (hret : meth.sig.returnType = none) (hlk : meth.locks = false) (hU : gU 0 D cA ad s) (hr1 : gK 0 r1 = 8) {st' : gS}  : ∀ (n : Nat) {l2 : Int32} {st : gS} {H : Heap} {locs : List Loc} {ls : Array Slot}, hX2_walkBack_14 r1 n l2 st = some st' → gP0 0 D cA ad st H → va_S (gA 0 ad) s.heap H locs → lv_has ls 4 [(0, .ref (ad 169)), (1, .ref (ad r1)), (2, .int l2)] → W p l e (gRm 2) s m args below meth c H locs 0 0 (MQ below (gQc 0 D cA ad st' none) args s 0 0 (gA 0 ad)) (F0 m 14 ls []) := by
  intro n
  induction n with
  | zero => intro l2 st H locs ls hf hH hS hl; cases hf
  | succ n ih =>
    intro l2 st H locs ls hf hH hS hl
    exact bX2_walkBack_14 (r1 := r1) hC hret hlk hU hr1 (fun hf hH hS hl => ih hf hH hS hl) hf hH hS hl
def fX2_walkBack (r1 : Nat)   (st : gS) : Option (gS) :=
  gc (gI 6 7) ((fJ7_fill_53178 (186 + 1 + (6 : Int32).toNatClampNeg) 1 st).bind fun q0_1 => (hX2_walkBack_14 r1 FU 6 q0_1))
set_option maxRecDepth 100000 in
set_option maxHeartbeats 4000000 in
theorem bX2_walkBack_0 {r1 : Nat} (hC : CallFix p m c cX2_walkBack 4 s args lw_good RX2) (hret : meth.sig.returnType = none) (hlk : meth.locks = false) (hU : gU 0 D cA ad s) (hr1 : gK 0 r1 = 8) {st' : gS}   {st : gS} {H : Heap} {locs : List Loc} {ls : Array Slot} (hf : fX2_walkBack r1 st = some st') (hH : gP0 0 D cA ad st H) (hS : va_S (gA 0 ad) s.heap H locs) (hl : lv_has ls 4 [(0, .ref (ad 169)), (1, .ref (ad r1))]) : W p l e (gRm 2) s m args below meth c H locs 0 0 (MQ below (gQc 0 D cA ad st' none) args s 0 0 (gA 0 ad)) (F0 m 0 ls []) := by
  obtain ⟨hx, hb, hml, hown, hts⟩ := id hC
  unfold fX2_walkBack at hf
  refine lv_aload_n (pc := 0) hx hb dX2_walkBack_0 rfl (lv_at hl 0 rfl) ?_
  refine g_get (pc := 1) (v := .ref (ad 186)) hC hU hH gk0_169 g_cl2 9 (by decide) kf_X2_42 rfl dX2_walkBack_1 ?_
  refine lv_bipush (v := 6) (pc := 4) hx hb dX2_walkBack_4 (by decide) ?_
  obtain ⟨h0_1, hf⟩ := gc_s hf
  refine g_gald (pc := 6) hC hU hH gk0_186 gn0_186 h0_1 dX2_walkBack_6 ?_
  refine lv_iconst (v := 1) (pc := 7) hx hb dX2_walkBack_7 (by decide) ?_
  obtain ⟨q0_1, hq0_1, hf⟩ := gbd hf
  refine g_callSv (pc := 8) (rest := []) hC hU hH hS hl.1 (mJ7_fill_53178 (gg_186 h0_1).1 hq0_1) ky_J7_fill_53178 km_X2_64 ⟨Nat.le_of_ble_eq_true rfl, Nat.le_of_ble_eq_true rfl⟩ ⟨Nat.zero_le _, Nat.zero_le _⟩ rfl (Nat.le_of_ble_eq_true rfl) dX2_walkBack_8 rfl (fun H locs hH hS => ?_)
  refine lv_bipush (v := 6) (pc := 11) hx hb dX2_walkBack_11 (by decide) ?_
  refine lv_istore_n (lv' := [(2, .int 6), (0, .ref (ad 169)), (1, .ref (ad r1))]) (pc := 13) hx hb dX2_walkBack_13 rfl hl (by decide) rfl (fun ls hl => ?_)
  exact wX2_walkBack_14 hC hret hlk hU hr1 FU hf hH hS (lv_sub hl [1, 2, 0] rfl)
set_option maxRecDepth 100000 in
set_option maxHeartbeats 4000000 in
theorem mX2_walkBack {l : Launch} {D : va_G} {cA : Nat → ClassId} {ad : Nat → Nat} {r1 : Nat} (hr1 : gK 0 r1 = 8) {st st' : gS} (hf : fX2_walkBack r1 st = some st') : gM l yX2_walkBack cX2_walkBack 4 none 2 0 D cA ad st [.ref (ad 169), .ref (ad r1)] none st' := by
  refine g_met (by decide) (Nat.le_of_ble_eq_true rfl) ?_
  intro p e s m args below meth c ls hC hret hlk hU hH hl
  exact bX2_walkBack_0 hC hret hlk hU hr1 hf hH va_S.rf hl
def fX2_count_20 (r1 : Nat) (a2 : Int32) (k20 : Int32 → Int32 → gS → Option (Int32 × gS)) (l3 : Int32) (l4 : Int32) (st : gS) : Option (Int32 × gS) :=
  if 8 ≤ l4 then (some (l3, st)) else (gc (gI 6 7) (gc (gI l4 8) (gl (l3 + (st.1 (178 + 1 + (6 : Int32).toNatClampNeg) l4.toNatClampNeg)) fun x39 => (k20 x39 (l4 + 1) st))))
set_option maxRecDepth 100000 in
set_option maxHeartbeats 4000000 in
theorem bX2_count_20 {r1 : Nat} {a2 : Int32} (hC : CallFix p m c cX2_count 5 s args lw_good RX2) (hret : meth.sig.returnType = (some .int)) (hlk : meth.locks = false) (hU : gU 0 D cA ad s) (hr1 : gK 0 r1 = 8) {r : Int32} {st' : gS} {k20 : Int32 → Int32 → gS → Option (Int32 × gS)} (hk20 : ∀ {l3 : Int32} {l4 : Int32} {st : gS} {H : Heap} {locs : List Loc} {ls : Array Slot}, k20 l3 l4 st = some (r, st') → gP0 0 D cA ad st H → va_S (gA 0 ad) s.heap H locs → lv_has ls 5 [(0, .ref (ad 169)), (3, .int l3), (4, .int l4)] → W p l e (gRm 3) s m args below meth c H locs 0 0 (MQ below (gQc 0 D cA ad st' (some (.int r))) args s 0 0 (gA 0 ad)) (F0 m 20 ls [])) {l3 : Int32} {l4 : Int32} {st : gS} {H : Heap} {locs : List Loc} {ls : Array Slot} (hf : fX2_count_20 r1 a2 k20 l3 l4 st = some (r, st')) (hH : gP0 0 D cA ad st H) (hS : va_S (gA 0 ad) s.heap H locs) (hl : lv_has ls 5 [(0, .ref (ad 169)), (3, .int l3), (4, .int l4)]) : W p l e (gRm 3) s m args below meth c H locs 0 0 (MQ below (gQc 0 D cA ad st' (some (.int r))) args s 0 0 (gA 0 ad)) (F0 m 20 ls []) := by
  obtain ⟨hx, hb, hml, hown, hts⟩ := id hC
  unfold fX2_count_20 at hf
  refine lv_iload (pc := 20) hx hb dX2_count_20 (lv_at hl 2 rfl) ?_
  refine lv_bipush (v := 8) (pc := 22) hx hb dX2_count_22 (by decide) ?_
  refine lv_icmp_ge (tgt := 46) (pc := 24) hx hb dX2_count_24 (by decide) (fun hc => ?_) (fun hc => ?_)
  · have hf := gif_p hc hf
    refine lv_iload_n (pc := 46) hx hb dX2_count_46 rfl (lv_at hl 1 rfl) ?_
    exact g_iret (pc := 47) hC hret hlk hH hS hf dX2_count_47
  · have hf := gif_n hc hf
    refine lv_iload_n (pc := 27) hx hb dX2_count_27 rfl (lv_at hl 1 rfl) ?_
    refine lv_aload_n (pc := 28) hx hb dX2_count_28 rfl (lv_at hl 0 rfl) ?_
    refine g_get (pc := 29) (v := .ref (ad 178)) hC hU hH gk0_169 g_cl2 8 (by decide) kf_X2_39 rfl dX2_count_29 ?_
    refine lv_bipush (v := 6) (pc := 32) hx hb dX2_count_32 (by decide) ?_
    obtain ⟨h20_1, hf⟩ := gc_s hf
    refine g_gald (pc := 34) hC hU hH gk0_178 gn0_178 h20_1 dX2_count_34 ?_
    refine lv_iload (pc := 35) hx hb dX2_count_35 (lv_at hl 2 rfl) ?_
    obtain ⟨h20_2, hf⟩ := gc_s hf
    refine g_iald (pc := 37) hC hU hH (gg_178 h20_1).1 (gg_178 h20_1).2 h20_2 dX2_count_37 ?_
    refine lv_iadd (pc := 38) hx hb dX2_count_38 ?_
    refine lv_topi (pc := 39) (fun x39 ex39 => ?_)
    have hf := gl_s ex39 hf
    refine lv_istore_n (lv' := [(3, .int x39), (0, .ref (ad 169)), (4, .int l4)]) (pc := 39) hx hb dX2_count_39 rfl hl (by decide) rfl (fun ls hl => ?_)
    refine lv_iinc (v := l4 + 1) (lv' := [(4, .int (l4 + 1)), (3, .int x39), (0, .ref (ad 169))]) (k := 2) (pc := 40) hx hb dX2_count_40 hl rfl rfl (by decide) rfl (fun ls hl => ?_)
    refine lv_goto (tgt := 20) (pc := 43) hx hb dX2_count_43 (by decide) ?_
    exact hk20 hf hH hS (lv_sub hl [2, 1, 0] rfl)
def hX2_count_20 (r1 : Nat) (a2 : Int32)  : Nat → Int32 → Int32 → gS → Option (Int32 × gS)
  | 0 => fun _ _ _ => none
  | n + 1 => fun l3 l4 st => fX2_count_20 r1 a2 (hX2_count_20 r1 a2 n) l3 l4 st
set_option maxRecDepth 100000 in
set_option maxHeartbeats 4000000 in
theorem wX2_count_20 {r1 : Nat} {a2 : Int32} (hC : CallFix p m c cX2_count 5 s args lw_good RX2) (hret : meth.sig.returnType = (some .int)) (hlk : meth.locks = false) (hU : gU 0 D cA ad s) (hr1 : gK 0 r1 = 8) {r : Int32} {st' : gS}  : ∀ (n : Nat) {l3 : Int32} {l4 : Int32} {st : gS} {H : Heap} {locs : List Loc} {ls : Array Slot}, hX2_count_20 r1 a2 n l3 l4 st = some (r, st') → gP0 0 D cA ad st H → va_S (gA 0 ad) s.heap H locs → lv_has ls 5 [(0, .ref (ad 169)), (3, .int l3), (4, .int l4)] → W p l e (gRm 3) s m args below meth c H locs 0 0 (MQ below (gQc 0 D cA ad st' (some (.int r))) args s 0 0 (gA 0 ad)) (F0 m 20 ls []) := by
  intro n
  induction n with
  | zero => intro l3 l4 st H locs ls hf hH hS hl; cases hf
  | succ n ih =>
    intro l3 l4 st H locs ls hf hH hS hl
    exact bX2_count_20 (r1 := r1) (a2 := a2) hC hret hlk hU hr1 (fun hf hH hS hl => ih hf hH hS hl) hf hH hS hl
def fX2_count (r1 : Nat) (a2 : Int32)   (st : gS) : Option (Int32 × gS) :=
  (fX2_gather a2 st).bind fun q0_1 => ((fX2_walkOn r1 q0_1).bind fun q0_2 => ((fX2_walkBack r1 q0_2).bind fun q0_3 => (hX2_count_20 r1 a2 FU 0 0 q0_3)))
set_option maxRecDepth 100000 in
set_option maxHeartbeats 4000000 in
theorem bX2_count_0 {r1 : Nat} {a2 : Int32} (hC : CallFix p m c cX2_count 5 s args lw_good RX2) (hret : meth.sig.returnType = (some .int)) (hlk : meth.locks = false) (hU : gU 0 D cA ad s) (hr1 : gK 0 r1 = 8) {r : Int32} {st' : gS}   {st : gS} {H : Heap} {locs : List Loc} {ls : Array Slot} (hf : fX2_count r1 a2 st = some (r, st')) (hH : gP0 0 D cA ad st H) (hS : va_S (gA 0 ad) s.heap H locs) (hl : lv_has ls 5 [(0, .ref (ad 169)), (1, .ref (ad r1)), (2, .int a2)]) : W p l e (gRm 3) s m args below meth c H locs 0 0 (MQ below (gQc 0 D cA ad st' (some (.int r))) args s 0 0 (gA 0 ad)) (F0 m 0 ls []) := by
  obtain ⟨hx, hb, hml, hown, hts⟩ := id hC
  unfold fX2_count at hf
  refine lv_aload_n (pc := 0) hx hb dX2_count_0 rfl (lv_at hl 0 rfl) ?_
  refine lv_iload_n (pc := 1) hx hb dX2_count_1 rfl (lv_at hl 2 rfl) ?_
  obtain ⟨q0_1, hq0_1, hf⟩ := gbd hf
  refine g_callVv (pc := 2) (rest := []) hC hU hH hS hl.1 gk0_169 rfl (by decide) (mX2_gather  hq0_1) ky_X2_gather km_X2_53 ⟨Nat.le_of_ble_eq_true rfl, Nat.le_of_ble_eq_true rfl⟩ ⟨Nat.zero_le _, Nat.zero_le _⟩ rfl (Nat.le_of_ble_eq_true rfl) dX2_count_2 rfl (fun H locs hH hS => ?_)
  refine lv_aload_n (pc := 5) hx hb dX2_count_5 rfl (lv_at hl 0 rfl) ?_
  refine lv_aload_n (pc := 6) hx hb dX2_count_6 rfl (lv_at hl 1 rfl) ?_
  obtain ⟨q0_2, hq0_2, hf⟩ := gbd hf
  refine g_callVv (pc := 7) (rest := []) hC hU hH hS hl.1 gk0_169 rfl (by decide) (mX2_walkOn hr1 hq0_2) ky_X2_walkOn km_X2_57 ⟨Nat.le_of_ble_eq_true rfl, Nat.le_of_ble_eq_true rfl⟩ ⟨Nat.zero_le _, Nat.zero_le _⟩ rfl (Nat.le_of_ble_eq_true rfl) dX2_count_7 rfl (fun H locs hH hS => ?_)
  refine lv_aload_n (pc := 10) hx hb dX2_count_10 rfl (lv_at hl 0 rfl) ?_
  refine lv_aload_n (pc := 11) hx hb dX2_count_11 rfl (lv_at hl 1 rfl) ?_
  obtain ⟨q0_3, hq0_3, hf⟩ := gbd hf
  refine g_callVv (pc := 12) (rest := []) hC hU hH hS hl.1 gk0_169 rfl (by decide) (mX2_walkBack hr1 hq0_3) ky_X2_walkBack km_X2_61 ⟨Nat.le_of_ble_eq_true rfl, Nat.le_of_ble_eq_true rfl⟩ ⟨Nat.zero_le _, Nat.zero_le _⟩ rfl (Nat.le_of_ble_eq_true rfl) dX2_count_12 rfl (fun H locs hH hS => ?_)
  refine lv_iconst (v := 0) (pc := 15) hx hb dX2_count_15 (by decide) ?_
  refine lv_istore_n (lv' := [(3, .int 0), (0, .ref (ad 169)), (1, .ref (ad r1)), (2, .int a2)]) (pc := 16) hx hb dX2_count_16 rfl hl (by decide) rfl (fun ls hl => ?_)
  refine lv_iconst (v := 0) (pc := 17) hx hb dX2_count_17 (by decide) ?_
  refine lv_istore (lv' := [(4, .int 0), (3, .int 0), (0, .ref (ad 169)), (1, .ref (ad r1)), (2, .int a2)]) (pc := 18) hx hb dX2_count_18 hl (by decide) rfl (fun ls hl => ?_)
  exact wX2_count_20 hC hret hlk hU hr1 FU hf hH hS (lv_sub hl [2, 1, 0] rfl)
set_option maxRecDepth 100000 in
set_option maxHeartbeats 4000000 in
theorem mX2_count {l : Launch} {D : va_G} {cA : Nat → ClassId} {ad : Nat → Nat} {r1 : Nat} {a2 : Int32} (hr1 : gK 0 r1 = 8) {r : Int32} {st st' : gS} (hf : fX2_count r1 a2 st = some (r, st')) : gM l yX2_count cX2_count 5 (some .int) 3 0 D cA ad st [.ref (ad 169), .ref (ad r1), .int a2] (some (.int r)) st' := by
  refine g_met (by decide) (Nat.le_of_ble_eq_true rfl) ?_
  intro p e s m args below meth c ls hC hret hlk hU hH hl
  exact bX2_count_0 hC hret hlk hU hr1 hf hH va_S.rf hl
def fX10_rows (a1 : Int32)   (st : gS) : Option (Int32 × gS) :=
  gc (gK 0 (st.2.2 0 9) = 8) ((fX2_count (st.2.2 0 9) a1 st).bind fun q0_1 => (some (q0_1.1, q0_1.2)))
set_option maxRecDepth 100000 in
set_option maxHeartbeats 4000000 in
theorem bX10_rows_0 {a1 : Int32} (hC : CallFix p m c cX10_rows 2 s args lw_good RX10) (hret : meth.sig.returnType = (some .int)) (hlk : meth.locks = false) (hU : gU 0 D cA ad s)  {r : Int32} {st' : gS}   {st : gS} {H : Heap} {locs : List Loc} {ls : Array Slot} (hf : fX10_rows a1 st = some (r, st')) (hH : gP0 0 D cA ad st H) (hS : va_S (gA 0 ad) s.heap H locs) (hl : lv_has ls 2 [(0, .ref (ad 0)), (1, .int a1)]) : W p l e (gRm 4) s m args below meth c H locs 0 0 (MQ below (gQc 0 D cA ad st' (some (.int r))) args s 0 0 (gA 0 ad)) (F0 m 0 ls []) := by
  obtain ⟨hx, hb, hml, hown, hts⟩ := id hC
  unfold fX10_rows at hf
  refine lv_aload_n (pc := 0) hx hb dX10_rows_0 rfl (lv_at hl 0 rfl) ?_
  refine g_get (pc := 1) (v := .ref (ad 169)) hC hU hH gk0_0 g_cl10 8 (by decide) kf_X10_64 rfl dX10_rows_1 ?_
  refine lv_aload_n (pc := 4) hx hb dX10_rows_4 rfl (lv_at hl 0 rfl) ?_
  refine g_get (pc := 5) (v := .ref (ad (st.2.2 0 9))) hC hU hH gk0_0 g_cl10 9 (by decide) kf_X10_71 rfl dX10_rows_5 ?_
  refine lv_iload_n (pc := 8) hx hb dX10_rows_8 rfl (lv_at hl 1 rfl) ?_
  obtain ⟨h0_1, hf⟩ := gc_s hf
  obtain ⟨q0_1, hq0_1, hf⟩ := gbd hf
  refine g_callVi (pc := 9) (rest := []) hC hU hH hS hl.1 gk0_169 rfl (by decide) (mX2_count h0_1 hq0_1) ky_X2_count km_X10_313 ⟨Nat.le_of_ble_eq_true rfl, Nat.le_of_ble_eq_true rfl⟩ ⟨Nat.zero_le _, Nat.zero_le _⟩ rfl (Nat.le_of_ble_eq_true rfl) dX10_rows_9 rfl (fun H locs hH hS => ?_)
  exact g_iret (pc := 12) hC hret hlk hH hS hf dX10_rows_12
set_option maxRecDepth 100000 in
set_option maxHeartbeats 4000000 in
theorem mX10_rows {l : Launch} {D : va_G} {cA : Nat → ClassId} {ad : Nat → Nat} {a1 : Int32}  {r : Int32} {st st' : gS} (hf : fX10_rows a1 st = some (r, st')) : gM l yX10_rows cX10_rows 2 (some .int) 4 0 D cA ad st [.ref (ad 0), .int a1] (some (.int r)) st' := by
  refine g_met (by decide) (Nat.le_of_ble_eq_true rfl) ?_
  intro p e s m args below meth c ls hC hret hlk hU hH hl
  exact bX10_rows_0 hC hret hlk hU hf hH va_S.rf hl
def fX2_through (a1 : Int32) (a2 : Int32)   (st : gS) : Option (Int32 × gS) :=
  gc (gI a1 7) (gc (gI a2 8) (gc (gI a1 7) (gc (gI a2 8) (some ((st.1 (178 + 1 + a1.toNatClampNeg) a2.toNatClampNeg) * (st.1 (186 + 1 + a1.toNatClampNeg) a2.toNatClampNeg), st)))))
set_option maxRecDepth 100000 in
set_option maxHeartbeats 4000000 in
theorem bX2_through_0 {a1 : Int32} {a2 : Int32} (hC : CallFix p m c cX2_through 3 s args lw_good RX2) (hret : meth.sig.returnType = (some .int)) (hlk : meth.locks = false) (hU : gU 0 D cA ad s)  {r : Int32} {st' : gS}   {st : gS} {H : Heap} {locs : List Loc} {ls : Array Slot} (hf : fX2_through a1 a2 st = some (r, st')) (hH : gP0 0 D cA ad st H) (hS : va_S (gA 0 ad) s.heap H locs) (hl : lv_has ls 3 [(0, .ref (ad 169)), (1, .int a1), (2, .int a2)]) : W p l e (gRm 1) s m args below meth c H locs 0 0 (MQ below (gQc 0 D cA ad st' (some (.int r))) args s 0 0 (gA 0 ad)) (F0 m 0 ls []) := by
  obtain ⟨hx, hb, hml, hown, hts⟩ := id hC
  unfold fX2_through at hf
  refine lv_aload_n (pc := 0) hx hb dX2_through_0 rfl (lv_at hl 0 rfl) ?_
  refine g_get (pc := 1) (v := .ref (ad 178)) hC hU hH gk0_169 g_cl2 8 (by decide) kf_X2_39 rfl dX2_through_1 ?_
  refine lv_iload_n (pc := 4) hx hb dX2_through_4 rfl (lv_at hl 1 rfl) ?_
  obtain ⟨h0_1, hf⟩ := gc_s hf
  refine g_gald (pc := 5) hC hU hH gk0_178 gn0_178 h0_1 dX2_through_5 ?_
  refine lv_iload_n (pc := 6) hx hb dX2_through_6 rfl (lv_at hl 2 rfl) ?_
  obtain ⟨h0_2, hf⟩ := gc_s hf
  refine g_iald (pc := 7) hC hU hH (gg_178 h0_1).1 (gg_178 h0_1).2 h0_2 dX2_through_7 ?_
  refine lv_aload_n (pc := 8) hx hb dX2_through_8 rfl (lv_at hl 0 rfl) ?_
  refine g_get (pc := 9) (v := .ref (ad 186)) hC hU hH gk0_169 g_cl2 9 (by decide) kf_X2_42 rfl dX2_through_9 ?_
  refine lv_iload_n (pc := 12) hx hb dX2_through_12 rfl (lv_at hl 1 rfl) ?_
  obtain ⟨h0_3, hf⟩ := gc_s hf
  refine g_gald (pc := 13) hC hU hH gk0_186 gn0_186 h0_3 dX2_through_13 ?_
  refine lv_iload_n (pc := 14) hx hb dX2_through_14 rfl (lv_at hl 2 rfl) ?_
  obtain ⟨h0_4, hf⟩ := gc_s hf
  refine g_iald (pc := 15) hC hU hH (gg_186 h0_3).1 (gg_186 h0_3).2 h0_4 dX2_through_15 ?_
  refine lv_imul (pc := 16) hx hb dX2_through_16 ?_
  exact g_iret (pc := 17) hC hret hlk hH hS hf dX2_through_17
set_option maxRecDepth 100000 in
set_option maxHeartbeats 4000000 in
theorem mX2_through {l : Launch} {D : va_G} {cA : Nat → ClassId} {ad : Nat → Nat} {a1 : Int32} {a2 : Int32}  {r : Int32} {st st' : gS} (hf : fX2_through a1 a2 st = some (r, st')) : gM l yX2_through cX2_through 3 (some .int) 1 0 D cA ad st [.ref (ad 169), .int a1, .int a2] (some (.int r)) st' := by
  refine g_met (by decide) (Nat.le_of_ble_eq_true rfl) ?_
  intro p e s m args below meth c ls hC hret hlk hU hH hl
  exact bX2_through_0 hC hret hlk hU hf hH va_S.rf hl
def fX2_onlyFigure_4 (a1 : Int32) (k4 : Int32 → Int32 → gS → Option (Int32 × gS)) (l2 : Int32) (l3 : Int32) (st : gS) : Option (Int32 × gS) :=
  if 8 ≤ l3 then (some (l2, st)) else ((fX2_hasNumber a1 st).bind fun q4_1 => (if q4_1.1 = 0 then (k4 l2 (l3 + 1) q4_1.2) else ((fX2_through a1 l3 q4_1.2).bind fun q4_2 => (if q4_2.1 = 0 then (k4 l2 (l3 + 1) q4_2.2) else (if l2 = (-1) then (k4 l3 (l3 + 1) q4_2.2) else (some ((-2), q4_2.2)))))))
set_option maxRecDepth 100000 in
set_option maxHeartbeats 4000000 in
theorem bX2_onlyFigure_4 {a1 : Int32} (hC : CallFix p m c cX2_onlyFigure 4 s args lw_good RX2) (hret : meth.sig.returnType = (some .int)) (hlk : meth.locks = false) (hU : gU 0 D cA ad s)  {r : Int32} {st' : gS} {k4 : Int32 → Int32 → gS → Option (Int32 × gS)} (hk4 : ∀ {l2 : Int32} {l3 : Int32} {st : gS} {H : Heap} {locs : List Loc} {ls : Array Slot}, k4 l2 l3 st = some (r, st') → gP0 0 D cA ad st H → va_S (gA 0 ad) s.heap H locs → lv_has ls 4 [(0, .ref (ad 169)), (1, .int a1), (2, .int l2), (3, .int l3)] → W p l e (gRm 2) s m args below meth c H locs 0 0 (MQ below (gQc 0 D cA ad st' (some (.int r))) args s 0 0 (gA 0 ad)) (F0 m 4 ls [])) {l2 : Int32} {l3 : Int32} {st : gS} {H : Heap} {locs : List Loc} {ls : Array Slot} (hf : fX2_onlyFigure_4 a1 k4 l2 l3 st = some (r, st')) (hH : gP0 0 D cA ad st H) (hS : va_S (gA 0 ad) s.heap H locs) (hl : lv_has ls 4 [(0, .ref (ad 169)), (1, .int a1), (2, .int l2), (3, .int l3)]) : W p l e (gRm 2) s m args below meth c H locs 0 0 (MQ below (gQc 0 D cA ad st' (some (.int r))) args s 0 0 (gA 0 ad)) (F0 m 4 ls []) := by
  obtain ⟨hx, hb, hml, hown, hts⟩ := id hC
  unfold fX2_onlyFigure_4 at hf
  refine lv_iload_n (pc := 4) hx hb dX2_onlyFigure_4 rfl (lv_at hl 3 rfl) ?_
  refine lv_bipush (v := 8) (pc := 5) hx hb dX2_onlyFigure_5 (by decide) ?_
  refine lv_icmp_ge (tgt := 42) (pc := 7) hx hb dX2_onlyFigure_7 (by decide) (fun hc => ?_) (fun hc => ?_)
  · have hf := gif_p hc hf
    refine lv_iload_n (pc := 42) hx hb dX2_onlyFigure_42 rfl (lv_at hl 2 rfl) ?_
    exact g_iret (pc := 43) hC hret hlk hH hS hf dX2_onlyFigure_43
  · have hf := gif_n hc hf
    refine lv_iload_n (pc := 10) hx hb dX2_onlyFigure_10 rfl (lv_at hl 1 rfl) ?_
    obtain ⟨q4_1, hq4_1, hf⟩ := gbd hf
    refine g_callSi (pc := 11) (rest := []) hC hU hH hS hl.1 (mX2_hasNumber  hq4_1) ky_X2_hasNumber km_X2_74 ⟨Nat.le_of_ble_eq_true rfl, Nat.le_of_ble_eq_true rfl⟩ ⟨Nat.zero_le _, Nat.zero_le _⟩ rfl (Nat.le_of_ble_eq_true rfl) dX2_onlyFigure_11 rfl (fun H locs hH hS => ?_)
    refine lv_if_eq (tgt := 36) (pc := 14) hx hb dX2_onlyFigure_14 (by decide) (fun hc => ?_) (fun hc => ?_)
    · have hf := gif_p hc hf
      refine lv_iinc (v := l3 + 1) (lv' := [(3, .int (l3 + 1)), (0, .ref (ad 169)), (1, .int a1), (2, .int l2)]) (k := 3) (pc := 36) hx hb dX2_onlyFigure_36 hl rfl rfl (by decide) rfl (fun ls hl => ?_)
      refine lv_goto (tgt := 4) (pc := 39) hx hb dX2_onlyFigure_39 (by decide) ?_
      exact hk4 hf hH hS (lv_sub hl [1, 2, 3, 0] rfl)
    · have hf := gif_n hc hf
      refine lv_aload_n (pc := 17) hx hb dX2_onlyFigure_17 rfl (lv_at hl 0 rfl) ?_
      refine lv_iload_n (pc := 18) hx hb dX2_onlyFigure_18 rfl (lv_at hl 1 rfl) ?_
      refine lv_iload_n (pc := 19) hx hb dX2_onlyFigure_19 rfl (lv_at hl 3 rfl) ?_
      obtain ⟨q4_2, hq4_2, hf⟩ := gbd hf
      refine g_callVi (pc := 20) (rest := []) hC hU hH hS hl.1 gk0_169 rfl (by decide) (mX2_through  hq4_2) ky_X2_through km_X2_99 ⟨Nat.le_of_ble_eq_true rfl, Nat.le_of_ble_eq_true rfl⟩ ⟨Nat.zero_le _, Nat.zero_le _⟩ rfl (Nat.le_of_ble_eq_true rfl) dX2_onlyFigure_20 rfl (fun H locs hH hS => ?_)
      refine lv_if_eq (tgt := 36) (pc := 23) hx hb dX2_onlyFigure_23 (by decide) (fun hc => ?_) (fun hc => ?_)
      · have hf := gif_p hc hf
        refine lv_iinc (v := l3 + 1) (lv' := [(3, .int (l3 + 1)), (0, .ref (ad 169)), (1, .int a1), (2, .int l2)]) (k := 3) (pc := 36) hx hb dX2_onlyFigure_36 hl rfl rfl (by decide) rfl (fun ls hl => ?_)
        refine lv_goto (tgt := 4) (pc := 39) hx hb dX2_onlyFigure_39 (by decide) ?_
        exact hk4 hf hH hS (lv_sub hl [1, 2, 3, 0] rfl)
      · have hf := gif_n hc hf
        refine lv_iload_n (pc := 26) hx hb dX2_onlyFigure_26 rfl (lv_at hl 2 rfl) ?_
        refine lv_iconst (v := (-1)) (pc := 27) hx hb dX2_onlyFigure_27 (by decide) ?_
        refine lv_icmp_eq (tgt := 34) (pc := 28) hx hb dX2_onlyFigure_28 (by decide) (fun hc => ?_) (fun hc => ?_)
        · have hf := gif_p hc hf
          refine lv_iload_n (pc := 34) hx hb dX2_onlyFigure_34 rfl (lv_at hl 3 rfl) ?_
          refine lv_istore_n (lv' := [(2, .int l3), (0, .ref (ad 169)), (1, .int a1), (3, .int l3)]) (pc := 35) hx hb dX2_onlyFigure_35 rfl hl (by decide) rfl (fun ls hl => ?_)
          refine lv_iinc (v := l3 + 1) (lv' := [(3, .int (l3 + 1)), (2, .int l3), (0, .ref (ad 169)), (1, .int a1)]) (k := 3) (pc := 36) hx hb dX2_onlyFigure_36 hl rfl rfl (by decide) rfl (fun ls hl => ?_)
          refine lv_goto (tgt := 4) (pc := 39) hx hb dX2_onlyFigure_39 (by decide) ?_
          exact hk4 hf hH hS (lv_sub hl [2, 3, 1, 0] rfl)
        · have hf := gif_n hc hf
          refine lv_bipush (v := (-2)) (pc := 31) hx hb dX2_onlyFigure_31 (by decide) ?_
          exact g_iret (pc := 33) hC hret hlk hH hS hf dX2_onlyFigure_33
def hX2_onlyFigure_4 (a1 : Int32)  : Nat → Int32 → Int32 → gS → Option (Int32 × gS)
  | 0 => fun _ _ _ => none
  | n + 1 => fun l2 l3 st => fX2_onlyFigure_4 a1 (hX2_onlyFigure_4 a1 n) l2 l3 st
set_option maxRecDepth 100000 in
set_option maxHeartbeats 4000000 in
theorem wX2_onlyFigure_4 {a1 : Int32} (hC : CallFix p m c cX2_onlyFigure 4 s args lw_good RX2) (hret : meth.sig.returnType = (some .int)) (hlk : meth.locks = false) (hU : gU 0 D cA ad s)  {r : Int32} {st' : gS}  : ∀ (n : Nat) {l2 : Int32} {l3 : Int32} {st : gS} {H : Heap} {locs : List Loc} {ls : Array Slot}, hX2_onlyFigure_4 a1 n l2 l3 st = some (r, st') → gP0 0 D cA ad st H → va_S (gA 0 ad) s.heap H locs → lv_has ls 4 [(0, .ref (ad 169)), (1, .int a1), (2, .int l2), (3, .int l3)] → W p l e (gRm 2) s m args below meth c H locs 0 0 (MQ below (gQc 0 D cA ad st' (some (.int r))) args s 0 0 (gA 0 ad)) (F0 m 4 ls []) := by
  intro n
  induction n with
  | zero => intro l2 l3 st H locs ls hf hH hS hl; cases hf
  | succ n ih =>
    intro l2 l3 st H locs ls hf hH hS hl
    exact bX2_onlyFigure_4 (a1 := a1) hC hret hlk hU (fun hf hH hS hl => ih hf hH hS hl) hf hH hS hl
def fX2_onlyFigure (a1 : Int32)   (st : gS) : Option (Int32 × gS) :=
  hX2_onlyFigure_4 a1 FU (-1) 0 st
set_option maxRecDepth 100000 in
set_option maxHeartbeats 4000000 in
theorem bX2_onlyFigure_0 {a1 : Int32} (hC : CallFix p m c cX2_onlyFigure 4 s args lw_good RX2) (hret : meth.sig.returnType = (some .int)) (hlk : meth.locks = false) (hU : gU 0 D cA ad s)  {r : Int32} {st' : gS}   {st : gS} {H : Heap} {locs : List Loc} {ls : Array Slot} (hf : fX2_onlyFigure a1 st = some (r, st')) (hH : gP0 0 D cA ad st H) (hS : va_S (gA 0 ad) s.heap H locs) (hl : lv_has ls 4 [(0, .ref (ad 169)), (1, .int a1)]) : W p l e (gRm 2) s m args below meth c H locs 0 0 (MQ below (gQc 0 D cA ad st' (some (.int r))) args s 0 0 (gA 0 ad)) (F0 m 0 ls []) := by
  obtain ⟨hx, hb, hml, hown, hts⟩ := id hC
  unfold fX2_onlyFigure at hf
  refine lv_iconst (v := (-1)) (pc := 0) hx hb dX2_onlyFigure_0 (by decide) ?_
  refine lv_istore_n (lv' := [(2, .int (-1)), (0, .ref (ad 169)), (1, .int a1)]) (pc := 1) hx hb dX2_onlyFigure_1 rfl hl (by decide) rfl (fun ls hl => ?_)
  refine lv_iconst (v := 0) (pc := 2) hx hb dX2_onlyFigure_2 (by decide) ?_
  refine lv_istore_n (lv' := [(3, .int 0), (2, .int (-1)), (0, .ref (ad 169)), (1, .int a1)]) (pc := 3) hx hb dX2_onlyFigure_3 rfl hl (by decide) rfl (fun ls hl => ?_)
  exact wX2_onlyFigure_4 hC hret hlk hU FU hf hH hS (lv_sub hl [2, 3, 1, 0] rfl)
set_option maxRecDepth 100000 in
set_option maxHeartbeats 4000000 in
theorem mX2_onlyFigure {l : Launch} {D : va_G} {cA : Nat → ClassId} {ad : Nat → Nat} {a1 : Int32}  {r : Int32} {st st' : gS} (hf : fX2_onlyFigure a1 st = some (r, st')) : gM l yX2_onlyFigure cX2_onlyFigure 4 (some .int) 2 0 D cA ad st [.ref (ad 169), .int a1] (some (.int r)) st' := by
  refine g_met (by decide) (Nat.le_of_ble_eq_true rfl) ?_
  intro p e s m args below meth c ls hC hret hlk hU hH hl
  exact bX2_onlyFigure_0 hC hret hlk hU hf hH va_S.rf hl
def fX10_sure (a1 : Int32) (a2 : Int32)   (st : gS) : Option (Int32 × gS) :=
  (fX2_hasNumber a1 st).bind fun q0_1 => (if q0_1.1 = 0 then (some ((-1), q0_1.2)) else (gc (gK 0 (q0_1.2.2.2 0 9) = 8) ((fX2_count (q0_1.2.2.2 0 9) a2 q0_1.2).bind fun q0_2 => (if q0_2.1 = 0 then (some ((-1), q0_2.2)) else ((fX2_onlyFigure a1 q0_2.2).bind fun q0_3 => (some (q0_3.1, q0_3.2)))))))
set_option maxRecDepth 100000 in
set_option maxHeartbeats 4000000 in
theorem bX10_sure_0 {a1 : Int32} {a2 : Int32} (hC : CallFix p m c cX10_sure 3 s args lw_good RX10) (hret : meth.sig.returnType = (some .int)) (hlk : meth.locks = false) (hU : gU 0 D cA ad s)  {r : Int32} {st' : gS}   {st : gS} {H : Heap} {locs : List Loc} {ls : Array Slot} (hf : fX10_sure a1 a2 st = some (r, st')) (hH : gP0 0 D cA ad st H) (hS : va_S (gA 0 ad) s.heap H locs) (hl : lv_has ls 3 [(0, .ref (ad 0)), (1, .int a1), (2, .int a2)]) : W p l e (gRm 4) s m args below meth c H locs 0 0 (MQ below (gQc 0 D cA ad st' (some (.int r))) args s 0 0 (gA 0 ad)) (F0 m 0 ls []) := by
  obtain ⟨hx, hb, hml, hown, hts⟩ := id hC
  unfold fX10_sure at hf
  refine lv_iload_n (pc := 0) hx hb dX10_sure_0 rfl (lv_at hl 1 rfl) ?_
  obtain ⟨q0_1, hq0_1, hf⟩ := gbd hf
  refine g_callSi (pc := 1) (rest := []) hC hU hH hS hl.1 (mX2_hasNumber  hq0_1) ky_X2_hasNumber km_X10_297 ⟨Nat.le_of_ble_eq_true rfl, Nat.le_of_ble_eq_true rfl⟩ ⟨Nat.zero_le _, Nat.zero_le _⟩ rfl (Nat.le_of_ble_eq_true rfl) dX10_sure_1 rfl (fun H locs hH hS => ?_)
  refine lv_if_eq (tgt := 22) (pc := 4) hx hb dX10_sure_4 (by decide) (fun hc => ?_) (fun hc => ?_)
  · have hf := gif_p hc hf
    refine lv_iconst (v := (-1)) (pc := 22) hx hb dX10_sure_22 (by decide) ?_
    exact g_iret (pc := 23) hC hret hlk hH hS hf dX10_sure_23
  · have hf := gif_n hc hf
    refine lv_aload_n (pc := 7) hx hb dX10_sure_7 rfl (lv_at hl 0 rfl) ?_
    refine g_get (pc := 8) (v := .ref (ad 169)) hC hU hH gk0_0 g_cl10 8 (by decide) kf_X10_64 rfl dX10_sure_8 ?_
    refine lv_aload_n (pc := 11) hx hb dX10_sure_11 rfl (lv_at hl 0 rfl) ?_
    refine g_get (pc := 12) (v := .ref (ad (q0_1.2.2.2 0 9))) hC hU hH gk0_0 g_cl10 9 (by decide) kf_X10_71 rfl dX10_sure_12 ?_
    refine lv_iload_n (pc := 15) hx hb dX10_sure_15 rfl (lv_at hl 2 rfl) ?_
    obtain ⟨h0_1, hf⟩ := gc_s hf
    obtain ⟨q0_2, hq0_2, hf⟩ := gbd hf
    refine g_callVi (pc := 16) (rest := []) hC hU hH hS hl.1 gk0_169 rfl (by decide) (mX2_count h0_1 hq0_2) ky_X2_count km_X10_313 ⟨Nat.le_of_ble_eq_true rfl, Nat.le_of_ble_eq_true rfl⟩ ⟨Nat.zero_le _, Nat.zero_le _⟩ rfl (Nat.le_of_ble_eq_true rfl) dX10_sure_16 rfl (fun H locs hH hS => ?_)
    refine lv_if_ne (tgt := 24) (pc := 19) hx hb dX10_sure_19 (by decide) (fun hc => ?_) (fun hc => ?_)
    · have hf := gif_n hc hf
      refine lv_aload_n (pc := 24) hx hb dX10_sure_24 rfl (lv_at hl 0 rfl) ?_
      refine g_get (pc := 25) (v := .ref (ad 169)) hC hU hH gk0_0 g_cl10 8 (by decide) kf_X10_64 rfl dX10_sure_25 ?_
      refine lv_iload_n (pc := 28) hx hb dX10_sure_28 rfl (lv_at hl 1 rfl) ?_
      obtain ⟨q0_3, hq0_3, hf⟩ := gbd hf
      refine g_callVi (pc := 29) (rest := []) hC hU hH hS hl.1 gk0_169 rfl (by decide) (mX2_onlyFigure  hq0_3) ky_X2_onlyFigure km_X10_317 ⟨Nat.le_of_ble_eq_true rfl, Nat.le_of_ble_eq_true rfl⟩ ⟨Nat.zero_le _, Nat.zero_le _⟩ rfl (Nat.le_of_ble_eq_true rfl) dX10_sure_29 rfl (fun H locs hH hS => ?_)
      exact g_iret (pc := 32) hC hret hlk hH hS hf dX10_sure_32
    · have hf := gif_p hc hf
      refine lv_iconst (v := (-1)) (pc := 22) hx hb dX10_sure_22 (by decide) ?_
      exact g_iret (pc := 23) hC hret hlk hH hS hf dX10_sure_23
set_option maxRecDepth 100000 in
set_option maxHeartbeats 4000000 in
theorem mX10_sure {l : Launch} {D : va_G} {cA : Nat → ClassId} {ad : Nat → Nat} {a1 : Int32} {a2 : Int32}  {r : Int32} {st st' : gS} (hf : fX10_sure a1 a2 st = some (r, st')) : gM l yX10_sure cX10_sure 3 (some .int) 4 0 D cA ad st [.ref (ad 0), .int a1, .int a2] (some (.int r)) st' := by
  refine g_met (by decide) (Nat.le_of_ble_eq_true rfl) ?_
  intro p e s m args below meth c ls hC hret hlk hU hH hl
  exact bX10_sure_0 hC hret hlk hU hf hH va_S.rf hl
def fX2_mostLeft_4 (a1 : Int32) (k4 : Int32 → Int32 → gS → Option (Int32 × gS)) (l2 : Int32) (l3 : Int32) (st : gS) : Option (Int32 × gS) :=
  if 8 ≤ l3 then (some (l2, st)) else ((fX2_hasNumber a1 st).bind fun q4_1 => (if q4_1.1 = 0 then (k4 l2 (l3 + 1) q4_1.2) else ((fX2_through a1 l3 q4_1.2).bind fun q4_2 => (gl (if l2 < q4_2.1 then q4_2.1 else l2) fun x27 => (k4 x27 (l3 + 1) q4_2.2)))))
set_option maxRecDepth 100000 in
set_option maxHeartbeats 4000000 in
theorem bX2_mostLeft_4 {a1 : Int32} (hC : CallFix p m c cX2_mostLeft 4 s args lw_good RX2) (hret : meth.sig.returnType = (some .int)) (hlk : meth.locks = false) (hU : gU 0 D cA ad s)  {r : Int32} {st' : gS} {k4 : Int32 → Int32 → gS → Option (Int32 × gS)} (hk4 : ∀ {l2 : Int32} {l3 : Int32} {st : gS} {H : Heap} {locs : List Loc} {ls : Array Slot}, k4 l2 l3 st = some (r, st') → gP0 0 D cA ad st H → va_S (gA 0 ad) s.heap H locs → lv_has ls 4 [(0, .ref (ad 169)), (1, .int a1), (2, .int l2), (3, .int l3)] → W p l e (gRm 2) s m args below meth c H locs 0 0 (MQ below (gQc 0 D cA ad st' (some (.int r))) args s 0 0 (gA 0 ad)) (F0 m 4 ls [])) {l2 : Int32} {l3 : Int32} {st : gS} {H : Heap} {locs : List Loc} {ls : Array Slot} (hf : fX2_mostLeft_4 a1 k4 l2 l3 st = some (r, st')) (hH : gP0 0 D cA ad st H) (hS : va_S (gA 0 ad) s.heap H locs) (hl : lv_has ls 4 [(0, .ref (ad 169)), (1, .int a1), (2, .int l2), (3, .int l3)]) : W p l e (gRm 2) s m args below meth c H locs 0 0 (MQ below (gQc 0 D cA ad st' (some (.int r))) args s 0 0 (gA 0 ad)) (F0 m 4 ls []) := by
  obtain ⟨hx, hb, hml, hown, hts⟩ := id hC
  unfold fX2_mostLeft_4 at hf
  refine lv_iload_n (pc := 4) hx hb dX2_mostLeft_4 rfl (lv_at hl 3 rfl) ?_
  refine lv_bipush (v := 8) (pc := 5) hx hb dX2_mostLeft_5 (by decide) ?_
  refine lv_icmp_ge (tgt := 34) (pc := 7) hx hb dX2_mostLeft_7 (by decide) (fun hc => ?_) (fun hc => ?_)
  · have hf := gif_p hc hf
    refine lv_iload_n (pc := 34) hx hb dX2_mostLeft_34 rfl (lv_at hl 2 rfl) ?_
    exact g_iret (pc := 35) hC hret hlk hH hS hf dX2_mostLeft_35
  · have hf := gif_n hc hf
    refine lv_iload_n (pc := 10) hx hb dX2_mostLeft_10 rfl (lv_at hl 1 rfl) ?_
    obtain ⟨q4_1, hq4_1, hf⟩ := gbd hf
    refine g_callSi (pc := 11) (rest := []) hC hU hH hS hl.1 (mX2_hasNumber  hq4_1) ky_X2_hasNumber km_X2_74 ⟨Nat.le_of_ble_eq_true rfl, Nat.le_of_ble_eq_true rfl⟩ ⟨Nat.zero_le _, Nat.zero_le _⟩ rfl (Nat.le_of_ble_eq_true rfl) dX2_mostLeft_11 rfl (fun H locs hH hS => ?_)
    refine lv_if_eq (tgt := 28) (pc := 14) hx hb dX2_mostLeft_14 (by decide) (fun hc => ?_) (fun hc => ?_)
    · have hf := gif_p hc hf
      refine lv_iinc (v := l3 + 1) (lv' := [(3, .int (l3 + 1)), (0, .ref (ad 169)), (1, .int a1), (2, .int l2)]) (k := 3) (pc := 28) hx hb dX2_mostLeft_28 hl rfl rfl (by decide) rfl (fun ls hl => ?_)
      refine lv_goto (tgt := 4) (pc := 31) hx hb dX2_mostLeft_31 (by decide) ?_
      exact hk4 hf hH hS (lv_sub hl [1, 2, 3, 0] rfl)
    · have hf := gif_n hc hf
      refine lv_iload_n (pc := 17) hx hb dX2_mostLeft_17 rfl (lv_at hl 2 rfl) ?_
      refine lv_aload_n (pc := 18) hx hb dX2_mostLeft_18 rfl (lv_at hl 0 rfl) ?_
      refine lv_iload_n (pc := 19) hx hb dX2_mostLeft_19 rfl (lv_at hl 1 rfl) ?_
      refine lv_iload_n (pc := 20) hx hb dX2_mostLeft_20 rfl (lv_at hl 3 rfl) ?_
      obtain ⟨q4_2, hq4_2, hf⟩ := gbd hf
      refine g_callVi (pc := 21) (rest := [.int l2]) hC hU hH hS hl.1 gk0_169 rfl (by decide) (mX2_through  hq4_2) ky_X2_through km_X2_99 ⟨Nat.le_of_ble_eq_true rfl, Nat.le_of_ble_eq_true rfl⟩ ⟨Nat.zero_le _, Nat.zero_le _⟩ rfl (Nat.le_of_ble_eq_true rfl) dX2_mostLeft_21 rfl (fun H locs hH hS => ?_)
      refine va_mmax (pc := 24) hx hb (hml.trans hl.1.symm) hown (hts _ km_X2_103) (hts _ kms_max) (hts _ kmi) (hts _ kmc_max) (Nat.le_of_ble_eq_true rfl) (Nat.le_of_ble_eq_true rfl) (Nat.zero_le _) (Nat.zero_le _) dX2_mostLeft_24 ?_
      refine lv_topi (pc := 27) (fun x27 ex27 => ?_)
      have hf := gl_s ex27 hf
      refine lv_istore_n (lv' := [(2, .int x27), (0, .ref (ad 169)), (1, .int a1), (3, .int l3)]) (pc := 27) hx hb dX2_mostLeft_27 rfl hl (by decide) rfl (fun ls hl => ?_)
      refine lv_iinc (v := l3 + 1) (lv' := [(3, .int (l3 + 1)), (2, .int x27), (0, .ref (ad 169)), (1, .int a1)]) (k := 3) (pc := 28) hx hb dX2_mostLeft_28 hl rfl rfl (by decide) rfl (fun ls hl => ?_)
      refine lv_goto (tgt := 4) (pc := 31) hx hb dX2_mostLeft_31 (by decide) ?_
      exact hk4 hf hH hS (lv_sub hl [2, 3, 1, 0] rfl)
def hX2_mostLeft_4 (a1 : Int32)  : Nat → Int32 → Int32 → gS → Option (Int32 × gS)
  | 0 => fun _ _ _ => none
  | n + 1 => fun l2 l3 st => fX2_mostLeft_4 a1 (hX2_mostLeft_4 a1 n) l2 l3 st
set_option maxRecDepth 100000 in
set_option maxHeartbeats 4000000 in
theorem wX2_mostLeft_4 {a1 : Int32} (hC : CallFix p m c cX2_mostLeft 4 s args lw_good RX2) (hret : meth.sig.returnType = (some .int)) (hlk : meth.locks = false) (hU : gU 0 D cA ad s)  {r : Int32} {st' : gS}  : ∀ (n : Nat) {l2 : Int32} {l3 : Int32} {st : gS} {H : Heap} {locs : List Loc} {ls : Array Slot}, hX2_mostLeft_4 a1 n l2 l3 st = some (r, st') → gP0 0 D cA ad st H → va_S (gA 0 ad) s.heap H locs → lv_has ls 4 [(0, .ref (ad 169)), (1, .int a1), (2, .int l2), (3, .int l3)] → W p l e (gRm 2) s m args below meth c H locs 0 0 (MQ below (gQc 0 D cA ad st' (some (.int r))) args s 0 0 (gA 0 ad)) (F0 m 4 ls []) := by
  intro n
  induction n with
  | zero => intro l2 l3 st H locs ls hf hH hS hl; cases hf
  | succ n ih =>
    intro l2 l3 st H locs ls hf hH hS hl
    exact bX2_mostLeft_4 (a1 := a1) hC hret hlk hU (fun hf hH hS hl => ih hf hH hS hl) hf hH hS hl
def fX2_mostLeft (a1 : Int32)   (st : gS) : Option (Int32 × gS) :=
  hX2_mostLeft_4 a1 FU 0 0 st
set_option maxRecDepth 100000 in
set_option maxHeartbeats 4000000 in
theorem bX2_mostLeft_0 {a1 : Int32} (hC : CallFix p m c cX2_mostLeft 4 s args lw_good RX2) (hret : meth.sig.returnType = (some .int)) (hlk : meth.locks = false) (hU : gU 0 D cA ad s)  {r : Int32} {st' : gS}   {st : gS} {H : Heap} {locs : List Loc} {ls : Array Slot} (hf : fX2_mostLeft a1 st = some (r, st')) (hH : gP0 0 D cA ad st H) (hS : va_S (gA 0 ad) s.heap H locs) (hl : lv_has ls 4 [(0, .ref (ad 169)), (1, .int a1)]) : W p l e (gRm 2) s m args below meth c H locs 0 0 (MQ below (gQc 0 D cA ad st' (some (.int r))) args s 0 0 (gA 0 ad)) (F0 m 0 ls []) := by
  obtain ⟨hx, hb, hml, hown, hts⟩ := id hC
  unfold fX2_mostLeft at hf
  refine lv_iconst (v := 0) (pc := 0) hx hb dX2_mostLeft_0 (by decide) ?_
  refine lv_istore_n (lv' := [(2, .int 0), (0, .ref (ad 169)), (1, .int a1)]) (pc := 1) hx hb dX2_mostLeft_1 rfl hl (by decide) rfl (fun ls hl => ?_)
  refine lv_iconst (v := 0) (pc := 2) hx hb dX2_mostLeft_2 (by decide) ?_
  refine lv_istore_n (lv' := [(3, .int 0), (2, .int 0), (0, .ref (ad 169)), (1, .int a1)]) (pc := 3) hx hb dX2_mostLeft_3 rfl hl (by decide) rfl (fun ls hl => ?_)
  exact wX2_mostLeft_4 hC hret hlk hU FU hf hH hS (lv_sub hl [2, 3, 1, 0] rfl)
set_option maxRecDepth 100000 in
set_option maxHeartbeats 4000000 in
theorem mX2_mostLeft {l : Launch} {D : va_G} {cA : Nat → ClassId} {ad : Nat → Nat} {a1 : Int32}  {r : Int32} {st st' : gS} (hf : fX2_mostLeft a1 st = some (r, st')) : gM l yX2_mostLeft cX2_mostLeft 4 (some .int) 2 0 D cA ad st [.ref (ad 169), .int a1] (some (.int r)) st' := by
  refine g_met (by decide) (Nat.le_of_ble_eq_true rfl) ?_
  intro p e s m args below meth c ls hC hret hlk hU hH hl
  exact bX2_mostLeft_0 hC hret hlk hU hf hH va_S.rf hl
def fX2_bestToKnow_4  (k4 : Int32 → Int32 → gS → Option (Int32 × gS)) (l1 : Int32) (l2 : Int32) (st : gS) : Option (Int32 × gS) :=
  if 6 < l2 then (some (l1, st)) else ((fX2_mostLeft l2 st).bind fun q4_1 => ((fX2_mostLeft l1 q4_1.2).bind fun q4_2 => (if q4_2.1 ≤ q4_1.1 then (k4 l1 (l2 + 1) q4_2.2) else (k4 l2 (l2 + 1) q4_2.2))))
set_option maxRecDepth 100000 in
set_option maxHeartbeats 4000000 in
theorem bX2_bestToKnow_4  (hC : CallFix p m c cX2_bestToKnow 3 s args lw_good RX2) (hret : meth.sig.returnType = (some .int)) (hlk : meth.locks = false) (hU : gU 0 D cA ad s)  {r : Int32} {st' : gS} {k4 : Int32 → Int32 → gS → Option (Int32 × gS)} (hk4 : ∀ {l1 : Int32} {l2 : Int32} {st : gS} {H : Heap} {locs : List Loc} {ls : Array Slot}, k4 l1 l2 st = some (r, st') → gP0 0 D cA ad st H → va_S (gA 0 ad) s.heap H locs → lv_has ls 3 [(0, .ref (ad 169)), (1, .int l1), (2, .int l2)] → W p l e (gRm 3) s m args below meth c H locs 0 0 (MQ below (gQc 0 D cA ad st' (some (.int r))) args s 0 0 (gA 0 ad)) (F0 m 4 ls [])) {l1 : Int32} {l2 : Int32} {st : gS} {H : Heap} {locs : List Loc} {ls : Array Slot} (hf : fX2_bestToKnow_4 k4 l1 l2 st = some (r, st')) (hH : gP0 0 D cA ad st H) (hS : va_S (gA 0 ad) s.heap H locs) (hl : lv_has ls 3 [(0, .ref (ad 169)), (1, .int l1), (2, .int l2)]) : W p l e (gRm 3) s m args below meth c H locs 0 0 (MQ below (gQc 0 D cA ad st' (some (.int r))) args s 0 0 (gA 0 ad)) (F0 m 4 ls []) := by
  obtain ⟨hx, hb, hml, hown, hts⟩ := id hC
  unfold fX2_bestToKnow_4 at hf
  refine lv_iload_n (pc := 4) hx hb dX2_bestToKnow_4 rfl (lv_at hl 2 rfl) ?_
  refine lv_bipush (v := 6) (pc := 5) hx hb dX2_bestToKnow_5 (by decide) ?_
  refine lv_icmp_gt (tgt := 31) (pc := 7) hx hb dX2_bestToKnow_7 (by decide) (fun hc => ?_) (fun hc => ?_)
  · have hf := gif_p hc hf
    refine lv_iload_n (pc := 31) hx hb dX2_bestToKnow_31 rfl (lv_at hl 1 rfl) ?_
    exact g_iret (pc := 32) hC hret hlk hH hS hf dX2_bestToKnow_32
  · have hf := gif_n hc hf
    refine lv_aload_n (pc := 10) hx hb dX2_bestToKnow_10 rfl (lv_at hl 0 rfl) ?_
    refine lv_iload_n (pc := 11) hx hb dX2_bestToKnow_11 rfl (lv_at hl 2 rfl) ?_
    obtain ⟨q4_1, hq4_1, hf⟩ := gbd hf
    refine g_callVi (pc := 12) (rest := []) hC hU hH hS hl.1 gk0_169 rfl (by decide) (mX2_mostLeft  hq4_1) ky_X2_mostLeft km_X2_108 ⟨Nat.le_of_ble_eq_true rfl, Nat.le_of_ble_eq_true rfl⟩ ⟨Nat.zero_le _, Nat.zero_le _⟩ rfl (Nat.le_of_ble_eq_true rfl) dX2_bestToKnow_12 rfl (fun H locs hH hS => ?_)
    refine lv_aload_n (pc := 15) hx hb dX2_bestToKnow_15 rfl (lv_at hl 0 rfl) ?_
    refine lv_iload_n (pc := 16) hx hb dX2_bestToKnow_16 rfl (lv_at hl 1 rfl) ?_
    obtain ⟨q4_2, hq4_2, hf⟩ := gbd hf
    refine g_callVi (pc := 17) (rest := [.int q4_1.1]) hC hU hH hS hl.1 gk0_169 rfl (by decide) (mX2_mostLeft  hq4_2) ky_X2_mostLeft km_X2_108 ⟨Nat.le_of_ble_eq_true rfl, Nat.le_of_ble_eq_true rfl⟩ ⟨Nat.zero_le _, Nat.zero_le _⟩ rfl (Nat.le_of_ble_eq_true rfl) dX2_bestToKnow_17 rfl (fun H locs hH hS => ?_)
    refine lv_icmp_ge (tgt := 25) (pc := 20) hx hb dX2_bestToKnow_20 (by decide) (fun hc => ?_) (fun hc => ?_)
    · have hf := gif_p hc hf
      refine lv_iinc (v := l2 + 1) (lv' := [(2, .int (l2 + 1)), (0, .ref (ad 169)), (1, .int l1)]) (k := 2) (pc := 25) hx hb dX2_bestToKnow_25 hl rfl rfl (by decide) rfl (fun ls hl => ?_)
      refine lv_goto (tgt := 4) (pc := 28) hx hb dX2_bestToKnow_28 (by decide) ?_
      exact hk4 hf hH hS (lv_sub hl [1, 2, 0] rfl)
    · have hf := gif_n hc hf
      refine lv_iload_n (pc := 23) hx hb dX2_bestToKnow_23 rfl (lv_at hl 2 rfl) ?_
      refine lv_istore_n (lv' := [(1, .int l2), (0, .ref (ad 169)), (2, .int l2)]) (pc := 24) hx hb dX2_bestToKnow_24 rfl hl (by decide) rfl (fun ls hl => ?_)
      refine lv_iinc (v := l2 + 1) (lv' := [(2, .int (l2 + 1)), (1, .int l2), (0, .ref (ad 169))]) (k := 2) (pc := 25) hx hb dX2_bestToKnow_25 hl rfl rfl (by decide) rfl (fun ls hl => ?_)
      refine lv_goto (tgt := 4) (pc := 28) hx hb dX2_bestToKnow_28 (by decide) ?_
      exact hk4 hf hH hS (lv_sub hl [2, 1, 0] rfl)
def hX2_bestToKnow_4   : Nat → Int32 → Int32 → gS → Option (Int32 × gS)
  | 0 => fun _ _ _ => none
  | n + 1 => fun l1 l2 st => fX2_bestToKnow_4 (hX2_bestToKnow_4  n) l1 l2 st
set_option maxRecDepth 100000 in
set_option maxHeartbeats 4000000 in
theorem wX2_bestToKnow_4  (hC : CallFix p m c cX2_bestToKnow 3 s args lw_good RX2) (hret : meth.sig.returnType = (some .int)) (hlk : meth.locks = false) (hU : gU 0 D cA ad s)  {r : Int32} {st' : gS}  : ∀ (n : Nat) {l1 : Int32} {l2 : Int32} {st : gS} {H : Heap} {locs : List Loc} {ls : Array Slot}, hX2_bestToKnow_4  n l1 l2 st = some (r, st') → gP0 0 D cA ad st H → va_S (gA 0 ad) s.heap H locs → lv_has ls 3 [(0, .ref (ad 169)), (1, .int l1), (2, .int l2)] → W p l e (gRm 3) s m args below meth c H locs 0 0 (MQ below (gQc 0 D cA ad st' (some (.int r))) args s 0 0 (gA 0 ad)) (F0 m 4 ls []) := by
  intro n
  induction n with
  | zero => intro l1 l2 st H locs ls hf hH hS hl; cases hf
  | succ n ih =>
    intro l1 l2 st H locs ls hf hH hS hl
    exact bX2_bestToKnow_4  hC hret hlk hU (fun hf hH hS hl => ih hf hH hS hl) hf hH hS hl
def fX2_bestToKnow    (st : gS) : Option (Int32 × gS) :=
  hX2_bestToKnow_4 FU 0 1 st
set_option maxRecDepth 100000 in
set_option maxHeartbeats 4000000 in
theorem bX2_bestToKnow_0  (hC : CallFix p m c cX2_bestToKnow 3 s args lw_good RX2) (hret : meth.sig.returnType = (some .int)) (hlk : meth.locks = false) (hU : gU 0 D cA ad s)  {r : Int32} {st' : gS}   {st : gS} {H : Heap} {locs : List Loc} {ls : Array Slot} (hf : fX2_bestToKnow st = some (r, st')) (hH : gP0 0 D cA ad st H) (hS : va_S (gA 0 ad) s.heap H locs) (hl : lv_has ls 3 [(0, .ref (ad 169))]) : W p l e (gRm 3) s m args below meth c H locs 0 0 (MQ below (gQc 0 D cA ad st' (some (.int r))) args s 0 0 (gA 0 ad)) (F0 m 0 ls []) := by
  obtain ⟨hx, hb, hml, hown, hts⟩ := id hC
  unfold fX2_bestToKnow at hf
  refine lv_iconst (v := 0) (pc := 0) hx hb dX2_bestToKnow_0 (by decide) ?_
  refine lv_istore_n (lv' := [(1, .int 0), (0, .ref (ad 169))]) (pc := 1) hx hb dX2_bestToKnow_1 rfl hl (by decide) rfl (fun ls hl => ?_)
  refine lv_iconst (v := 1) (pc := 2) hx hb dX2_bestToKnow_2 (by decide) ?_
  refine lv_istore_n (lv' := [(2, .int 1), (1, .int 0), (0, .ref (ad 169))]) (pc := 3) hx hb dX2_bestToKnow_3 rfl hl (by decide) rfl (fun ls hl => ?_)
  exact wX2_bestToKnow_4 hC hret hlk hU FU hf hH hS (lv_sub hl [2, 1, 0] rfl)
set_option maxRecDepth 100000 in
set_option maxHeartbeats 4000000 in
theorem mX2_bestToKnow {l : Launch} {D : va_G} {cA : Nat → ClassId} {ad : Nat → Nat}   {r : Int32} {st st' : gS} (hf : fX2_bestToKnow  st = some (r, st')) : gM l yX2_bestToKnow cX2_bestToKnow 3 (some .int) 3 0 D cA ad st [.ref (ad 169)] (some (.int r)) st' := by
  refine g_met (by decide) (Nat.le_of_ble_eq_true rfl) ?_
  intro p e s m args below meth c ls hC hret hlk hU hH hl
  exact bX2_bestToKnow_0 hC hret hlk hU hf hH va_S.rf hl
def fX10_ask (a1 : Int32) (a2 : Int32)   (st : gS) : Option (Int32 × gS) :=
  if a1 < 0 then (some ((-1), st)) else (if 1 < a1 then (some ((-1), st)) else (gc (gK 0 (st.2.2 0 9) = 8) ((fX2_count (st.2.2 0 9) a2 st).bind fun q0_1 => (if q0_1.1 = 0 then (some ((-1), q0_1.2)) else ((fX2_bestToKnow q0_1.2).bind fun q0_2 => (if a1 = 0 then (some (q0_2.1, q0_2.2)) else ((fX2_mostLeft q0_2.1 q0_2.2).bind fun q0_3 => (some (q0_3.1, q0_3.2)))))))))
set_option maxRecDepth 100000 in
set_option maxHeartbeats 4000000 in
theorem bX10_ask_0 {a1 : Int32} {a2 : Int32} (hC : CallFix p m c cX10_ask 4 s args lw_good RX10) (hret : meth.sig.returnType = (some .int)) (hlk : meth.locks = false) (hU : gU 0 D cA ad s)  {r : Int32} {st' : gS}   {st : gS} {H : Heap} {locs : List Loc} {ls : Array Slot} (hf : fX10_ask a1 a2 st = some (r, st')) (hH : gP0 0 D cA ad st H) (hS : va_S (gA 0 ad) s.heap H locs) (hl : lv_has ls 4 [(0, .ref (ad 0)), (1, .int a1), (2, .int a2)]) : W p l e (gRm 4) s m args below meth c H locs 0 0 (MQ below (gQc 0 D cA ad st' (some (.int r))) args s 0 0 (gA 0 ad)) (F0 m 0 ls []) := by
  obtain ⟨hx, hb, hml, hown, hts⟩ := id hC
  unfold fX10_ask at hf
  refine lv_iload_n (pc := 0) hx hb dX10_ask_0 rfl (lv_at hl 1 rfl) ?_
  refine lv_if_lt (tgt := 24) (pc := 1) hx hb dX10_ask_1 (by decide) (fun hc => ?_) (fun hc => ?_)
  · have hf := gif_p hc hf
    refine lv_iconst (v := (-1)) (pc := 24) hx hb dX10_ask_24 (by decide) ?_
    exact g_iret (pc := 25) hC hret hlk hH hS hf dX10_ask_25
  · have hf := gif_n hc hf
    refine lv_iload_n (pc := 4) hx hb dX10_ask_4 rfl (lv_at hl 1 rfl) ?_
    refine lv_iconst (v := 1) (pc := 5) hx hb dX10_ask_5 (by decide) ?_
    refine lv_icmp_gt (tgt := 24) (pc := 6) hx hb dX10_ask_6 (by decide) (fun hc => ?_) (fun hc => ?_)
    · have hf := gif_p hc hf
      refine lv_iconst (v := (-1)) (pc := 24) hx hb dX10_ask_24 (by decide) ?_
      exact g_iret (pc := 25) hC hret hlk hH hS hf dX10_ask_25
    · have hf := gif_n hc hf
      refine lv_aload_n (pc := 9) hx hb dX10_ask_9 rfl (lv_at hl 0 rfl) ?_
      refine g_get (pc := 10) (v := .ref (ad 169)) hC hU hH gk0_0 g_cl10 8 (by decide) kf_X10_64 rfl dX10_ask_10 ?_
      refine lv_aload_n (pc := 13) hx hb dX10_ask_13 rfl (lv_at hl 0 rfl) ?_
      refine g_get (pc := 14) (v := .ref (ad (st.2.2 0 9))) hC hU hH gk0_0 g_cl10 9 (by decide) kf_X10_71 rfl dX10_ask_14 ?_
      refine lv_iload_n (pc := 17) hx hb dX10_ask_17 rfl (lv_at hl 2 rfl) ?_
      obtain ⟨h0_1, hf⟩ := gc_s hf
      obtain ⟨q0_1, hq0_1, hf⟩ := gbd hf
      refine g_callVi (pc := 18) (rest := []) hC hU hH hS hl.1 gk0_169 rfl (by decide) (mX2_count h0_1 hq0_1) ky_X2_count km_X10_313 ⟨Nat.le_of_ble_eq_true rfl, Nat.le_of_ble_eq_true rfl⟩ ⟨Nat.zero_le _, Nat.zero_le _⟩ rfl (Nat.le_of_ble_eq_true rfl) dX10_ask_18 rfl (fun H locs hH hS => ?_)
      refine lv_if_ne (tgt := 26) (pc := 21) hx hb dX10_ask_21 (by decide) (fun hc => ?_) (fun hc => ?_)
      · have hf := gif_n hc hf
        refine lv_aload_n (pc := 26) hx hb dX10_ask_26 rfl (lv_at hl 0 rfl) ?_
        refine g_get (pc := 27) (v := .ref (ad 169)) hC hU hH gk0_0 g_cl10 8 (by decide) kf_X10_64 rfl dX10_ask_27 ?_
        obtain ⟨q0_2, hq0_2, hf⟩ := gbd hf
        refine g_callVi (pc := 30) (rest := []) hC hU hH hS hl.1 gk0_169 rfl (by decide) (mX2_bestToKnow  hq0_2) ky_X2_bestToKnow km_X10_320 ⟨Nat.le_of_ble_eq_true rfl, Nat.le_of_ble_eq_true rfl⟩ ⟨Nat.zero_le _, Nat.zero_le _⟩ rfl (Nat.le_of_ble_eq_true rfl) dX10_ask_30 rfl (fun H locs hH hS => ?_)
        refine lv_istore_n (lv' := [(3, .int q0_2.1), (0, .ref (ad 0)), (1, .int a1), (2, .int a2)]) (pc := 33) hx hb dX10_ask_33 rfl hl (by decide) rfl (fun ls hl => ?_)
        refine lv_iload_n (pc := 34) hx hb dX10_ask_34 rfl (lv_at hl 2 rfl) ?_
        refine lv_if_ne (tgt := 42) (pc := 35) hx hb dX10_ask_35 (by decide) (fun hc => ?_) (fun hc => ?_)
        · have hf := gif_n hc hf
          refine lv_aload_n (pc := 42) hx hb dX10_ask_42 rfl (lv_at hl 1 rfl) ?_
          refine g_get (pc := 43) (v := .ref (ad 169)) hC hU hH gk0_0 g_cl10 8 (by decide) kf_X10_64 rfl dX10_ask_43 ?_
          refine lv_iload_n (pc := 46) hx hb dX10_ask_46 rfl (lv_at hl 0 rfl) ?_
          obtain ⟨q0_3, hq0_3, hf⟩ := gbd hf
          refine g_callVi (pc := 47) (rest := []) hC hU hH hS hl.1 gk0_169 rfl (by decide) (mX2_mostLeft  hq0_3) ky_X2_mostLeft km_X10_323 ⟨Nat.le_of_ble_eq_true rfl, Nat.le_of_ble_eq_true rfl⟩ ⟨Nat.zero_le _, Nat.zero_le _⟩ rfl (Nat.le_of_ble_eq_true rfl) dX10_ask_47 rfl (fun H locs hH hS => ?_)
          exact g_iret (pc := 50) hC hret hlk hH hS hf dX10_ask_50
        · have hf := gif_p hc hf
          refine lv_iload_n (pc := 38) hx hb dX10_ask_38 rfl (lv_at hl 0 rfl) ?_
          refine lv_goto (tgt := 50) (pc := 39) hx hb dX10_ask_39 (by decide) ?_
          exact g_iret (pc := 50) hC hret hlk hH hS hf dX10_ask_50
      · have hf := gif_p hc hf
        refine lv_iconst (v := (-1)) (pc := 24) hx hb dX10_ask_24 (by decide) ?_
        exact g_iret (pc := 25) hC hret hlk hH hS hf dX10_ask_25
set_option maxRecDepth 100000 in
set_option maxHeartbeats 4000000 in
theorem mX10_ask {l : Launch} {D : va_G} {cA : Nat → ClassId} {ad : Nat → Nat} {a1 : Int32} {a2 : Int32}  {r : Int32} {st st' : gS} (hf : fX10_ask a1 a2 st = some (r, st')) : gM l yX10_ask cX10_ask 4 (some .int) 4 0 D cA ad st [.ref (ad 0), .int a1, .int a2] (some (.int r)) st' := by
  refine g_met (by decide) (Nat.le_of_ble_eq_true rfl) ?_
  intro p e s m args below meth c ls hC hret hlk hU hH hl
  exact bX10_ask_0 hC hret hlk hU hf hH va_S.rf hl
def fX10_image (a1 : Int32)   (st : gS) : Option (Int32 × gS) :=
  if a1 < 0 then (some ((-1), st)) else (if a1 < 3 then (gc (gI a1 3) (gc (gK 0 (st.2.2 148 a1.toNatClampNeg) = 5) ((fX5_copy (st.2.2 148 a1.toNatClampNeg) 20 st).bind fun q0_1 => (gc (gI a1 3) (some ((wi q0_1 149 a1.toNatClampNeg (vp_nar .boolean 1)).1 20 8, wi q0_1 149 a1.toNatClampNeg (vp_nar .boolean 1))))))) else (some ((-1), st)))
set_option maxRecDepth 100000 in
set_option maxHeartbeats 4000000 in
theorem bX10_image_0 {a1 : Int32} (hC : CallFix p m c cX10_image 2 s args lw_good RX10) (hret : meth.sig.returnType = (some .int)) (hlk : meth.locks = false) (hU : gU 0 D cA ad s)  {r : Int32} {st' : gS}   {st : gS} {H : Heap} {locs : List Loc} {ls : Array Slot} (hf : fX10_image a1 st = some (r, st')) (hH : gP0 0 D cA ad st H) (hS : va_S (gA 0 ad) s.heap H locs) (hl : lv_has ls 2 [(0, .ref (ad 0)), (1, .int a1)]) : W p l e (gRm 2) s m args below meth c H locs 0 0 (MQ below (gQc 0 D cA ad st' (some (.int r))) args s 0 0 (gA 0 ad)) (F0 m 0 ls []) := by
  obtain ⟨hx, hb, hml, hown, hts⟩ := id hC
  unfold fX10_image at hf
  refine lv_iload_n (pc := 0) hx hb dX10_image_0 rfl (lv_at hl 1 rfl) ?_
  refine lv_if_lt (tgt := 9) (pc := 1) hx hb dX10_image_1 (by decide) (fun hc => ?_) (fun hc => ?_)
  · have hf := gif_p hc hf
    refine lv_iconst (v := (-1)) (pc := 9) hx hb dX10_image_9 (by decide) ?_
    exact g_iret (pc := 10) hC hret hlk hH hS hf dX10_image_10
  · have hf := gif_n hc hf
    refine lv_iload_n (pc := 4) hx hb dX10_image_4 rfl (lv_at hl 1 rfl) ?_
    refine lv_iconst (v := 3) (pc := 5) hx hb dX10_image_5 (by decide) ?_
    refine lv_icmp_lt (tgt := 11) (pc := 6) hx hb dX10_image_6 (by decide) (fun hc => ?_) (fun hc => ?_)
    · have hf := gif_p hc hf
      refine lv_aload_n (pc := 11) hx hb dX10_image_11 rfl (lv_at hl 0 rfl) ?_
      refine g_get (pc := 12) (v := .ref (ad 148)) hC hU hH gk0_0 g_cl10 4 (by decide) kf_X10_39 rfl dX10_image_12 ?_
      refine lv_iload_n (pc := 15) hx hb dX10_image_15 rfl (lv_at hl 1 rfl) ?_
      obtain ⟨h0_1, hf⟩ := gc_s hf
      refine g_aald (pc := 16) hC hU hH gk0_148 gn0_148 h0_1 dX10_image_16 ?_
      refine lv_aload_n (pc := 17) hx hb dX10_image_17 rfl (lv_at hl 0 rfl) ?_
      refine g_get (pc := 18) (v := .ref (ad 20)) hC hU hH gk0_0 g_cl10 2 (by decide) kf_X10_28 rfl dX10_image_18 ?_
      obtain ⟨h0_2, hf⟩ := gc_s hf
      obtain ⟨q0_1, hq0_1, hf⟩ := gbd hf
      refine g_callVv (pc := 21) (rest := []) hC hU hH hS hl.1 h0_2 rfl (by decide) (mX5_copy h0_2 gk0_20 hq0_1) ky_X5_copy km_X10_326 ⟨Nat.le_of_ble_eq_true rfl, Nat.le_of_ble_eq_true rfl⟩ ⟨Nat.zero_le _, Nat.zero_le _⟩ rfl (Nat.le_of_ble_eq_true rfl) dX10_image_21 rfl (fun H locs hH hS => ?_)
      refine lv_aload_n (pc := 24) hx hb dX10_image_24 rfl (lv_at hl 0 rfl) ?_
      refine g_get (pc := 25) (v := .ref (ad 149)) hC hU hH gk0_0 g_cl10 5 (by decide) kf_X10_43 rfl dX10_image_25 ?_
      refine lv_iload_n (pc := 28) hx hb dX10_image_28 rfl (lv_at hl 1 rfl) ?_
      refine lv_iconst (v := 1) (pc := 29) hx hb dX10_image_29 (by decide) ?_
      obtain ⟨h0_3, hf⟩ := gc_s hf
      refine g_zast (pc := 30) hC hU hH hS gk0_149 gn0_149 h0_3 dX10_image_30 (fun H locs hH hS => ?_)
      refine lv_aload_n (pc := 31) hx hb dX10_image_31 rfl (lv_at hl 0 rfl) ?_
      refine g_get (pc := 32) (v := .ref (ad 20)) hC hU hH gk0_0 g_cl10 2 (by decide) kf_X10_28 rfl dX10_image_32 ?_
      refine g_get (pc := 35) (v := .int ((wi q0_1 149 a1.toNatClampNeg (vp_nar .boolean 1)).1 20 8)) hC hU hH gk0_20 g_cl5 8 (by decide) kf_X10_214 rfl dX10_image_35 ?_
      exact g_iret (pc := 38) hC hret hlk hH hS hf dX10_image_38
    · have hf := gif_n hc hf
      refine lv_iconst (v := (-1)) (pc := 9) hx hb dX10_image_9 (by decide) ?_
      exact g_iret (pc := 10) hC hret hlk hH hS hf dX10_image_10
set_option maxRecDepth 100000 in
set_option maxHeartbeats 4000000 in
theorem mX10_image {l : Launch} {D : va_G} {cA : Nat → ClassId} {ad : Nat → Nat} {a1 : Int32}  {r : Int32} {st st' : gS} (hf : fX10_image a1 st = some (r, st')) : gM l yX10_image cX10_image 2 (some .int) 2 0 D cA ad st [.ref (ad 0), .int a1] (some (.int r)) st' := by
  refine g_met (by decide) (Nat.le_of_ble_eq_true rfl) ?_
  intro p e s m args below meth c ls hC hret hlk hU hH hl
  exact bX10_image_0 hC hret hlk hU hf hH va_S.rf hl
def fX10_back (a1 : Int32)   (st : gS) : Option (Int32 × gS) :=
  if a1 < 0 then (some ((-1), st)) else (if 3 ≤ a1 then (some ((-1), st)) else (gc (gI a1 3) (if (st.1 149 a1.toNatClampNeg) = 0 then (some ((-1), st)) else (gc (gI a1 3) (gc (gK 0 (st.2.2 148 a1.toNatClampNeg) = 5) ((fX5_copy 20 (st.2.2 148 a1.toNatClampNeg) st).bind fun q0_1 => ((fX1_forget 20 q0_1).bind fun q0_2 => (some (q0_2.1 20 8, q0_2)))))))))
set_option maxRecDepth 100000 in
set_option maxHeartbeats 4000000 in
theorem bX10_back_0 {a1 : Int32} (hC : CallFix p m c cX10_back 2 s args lw_good RX10) (hret : meth.sig.returnType = (some .int)) (hlk : meth.locks = false) (hU : gU 0 D cA ad s)  {r : Int32} {st' : gS}   {st : gS} {H : Heap} {locs : List Loc} {ls : Array Slot} (hf : fX10_back a1 st = some (r, st')) (hH : gP0 0 D cA ad st H) (hS : va_S (gA 0 ad) s.heap H locs) (hl : lv_has ls 2 [(0, .ref (ad 0)), (1, .int a1)]) : W p l e (gRm 3) s m args below meth c H locs 0 0 (MQ below (gQc 0 D cA ad st' (some (.int r))) args s 0 0 (gA 0 ad)) (F0 m 0 ls []) := by
  obtain ⟨hx, hb, hml, hown, hts⟩ := id hC
  unfold fX10_back at hf
  refine lv_iload_n (pc := 0) hx hb dX10_back_0 rfl (lv_at hl 1 rfl) ?_
  refine lv_if_lt (tgt := 18) (pc := 1) hx hb dX10_back_1 (by decide) (fun hc => ?_) (fun hc => ?_)
  · have hf := gif_p hc hf
    refine lv_iconst (v := (-1)) (pc := 18) hx hb dX10_back_18 (by decide) ?_
    exact g_iret (pc := 19) hC hret hlk hH hS hf dX10_back_19
  · have hf := gif_n hc hf
    refine lv_iload_n (pc := 4) hx hb dX10_back_4 rfl (lv_at hl 1 rfl) ?_
    refine lv_iconst (v := 3) (pc := 5) hx hb dX10_back_5 (by decide) ?_
    refine lv_icmp_ge (tgt := 18) (pc := 6) hx hb dX10_back_6 (by decide) (fun hc => ?_) (fun hc => ?_)
    · have hf := gif_p hc hf
      refine lv_iconst (v := (-1)) (pc := 18) hx hb dX10_back_18 (by decide) ?_
      exact g_iret (pc := 19) hC hret hlk hH hS hf dX10_back_19
    · have hf := gif_n hc hf
      refine lv_aload_n (pc := 9) hx hb dX10_back_9 rfl (lv_at hl 0 rfl) ?_
      refine g_get (pc := 10) (v := .ref (ad 149)) hC hU hH gk0_0 g_cl10 5 (by decide) kf_X10_43 rfl dX10_back_10 ?_
      refine lv_iload_n (pc := 13) hx hb dX10_back_13 rfl (lv_at hl 1 rfl) ?_
      obtain ⟨h0_1, hf⟩ := gc_s hf
      refine g_zald (pc := 14) hC hU hH gk0_149 gn0_149 h0_1 dX10_back_14 ?_
      refine lv_if_ne (tgt := 20) (pc := 15) hx hb dX10_back_15 (by decide) (fun hc => ?_) (fun hc => ?_)
      · have hf := gif_n hc hf
        refine lv_aload_n (pc := 20) hx hb dX10_back_20 rfl (lv_at hl 0 rfl) ?_
        refine g_get (pc := 21) (v := .ref (ad 20)) hC hU hH gk0_0 g_cl10 2 (by decide) kf_X10_28 rfl dX10_back_21 ?_
        refine lv_aload_n (pc := 24) hx hb dX10_back_24 rfl (lv_at hl 0 rfl) ?_
        refine g_get (pc := 25) (v := .ref (ad 148)) hC hU hH gk0_0 g_cl10 4 (by decide) kf_X10_39 rfl dX10_back_25 ?_
        refine lv_iload_n (pc := 28) hx hb dX10_back_28 rfl (lv_at hl 1 rfl) ?_
        obtain ⟨h0_2, hf⟩ := gc_s hf
        refine g_aald (pc := 29) hC hU hH gk0_148 gn0_148 h0_2 dX10_back_29 ?_
        obtain ⟨h0_3, hf⟩ := gc_s hf
        obtain ⟨q0_1, hq0_1, hf⟩ := gbd hf
        refine g_callVv (pc := 30) (rest := []) hC hU hH hS hl.1 gk0_20 rfl (by decide) (mX5_copy gk0_20 h0_3 hq0_1) ky_X5_copy km_X10_326 ⟨Nat.le_of_ble_eq_true rfl, Nat.le_of_ble_eq_true rfl⟩ ⟨Nat.zero_le _, Nat.zero_le _⟩ rfl (Nat.le_of_ble_eq_true rfl) dX10_back_30 rfl (fun H locs hH hS => ?_)
        refine lv_aload_n (pc := 33) hx hb dX10_back_33 rfl (lv_at hl 0 rfl) ?_
        refine g_get (pc := 34) (v := .ref (ad 23)) hC hU hH gk0_0 g_cl10 3 (by decide) kf_X10_35 rfl dX10_back_34 ?_
        refine lv_aload_n (pc := 37) hx hb dX10_back_37 rfl (lv_at hl 0 rfl) ?_
        refine g_get (pc := 38) (v := .ref (ad 20)) hC hU hH gk0_0 g_cl10 2 (by decide) kf_X10_28 rfl dX10_back_38 ?_
        obtain ⟨q0_2, hq0_2, hf⟩ := gbd hf
        refine g_callVv (pc := 41) (rest := []) hC hU hH hS hl.1 gk0_23 rfl (by decide) (mX1_forget gk0_20 hq0_2) ky_X1_forget km_X10_82 ⟨Nat.le_of_ble_eq_true rfl, Nat.le_of_ble_eq_true rfl⟩ ⟨Nat.zero_le _, Nat.zero_le _⟩ rfl (Nat.le_of_ble_eq_true rfl) dX10_back_41 rfl (fun H locs hH hS => ?_)
        refine lv_aload_n (pc := 44) hx hb dX10_back_44 rfl (lv_at hl 0 rfl) ?_
        refine g_get (pc := 45) (v := .ref (ad 20)) hC hU hH gk0_0 g_cl10 2 (by decide) kf_X10_28 rfl dX10_back_45 ?_
        refine g_get (pc := 48) (v := .int (q0_2.1 20 8)) hC hU hH gk0_20 g_cl5 8 (by decide) kf_X10_214 rfl dX10_back_48 ?_
        exact g_iret (pc := 51) hC hret hlk hH hS hf dX10_back_51
      · have hf := gif_p hc hf
        refine lv_iconst (v := (-1)) (pc := 18) hx hb dX10_back_18 (by decide) ?_
        exact g_iret (pc := 19) hC hret hlk hH hS hf dX10_back_19
set_option maxRecDepth 100000 in
set_option maxHeartbeats 4000000 in
theorem mX10_back {l : Launch} {D : va_G} {cA : Nat → ClassId} {ad : Nat → Nat} {a1 : Int32}  {r : Int32} {st st' : gS} (hf : fX10_back a1 st = some (r, st')) : gM l yX10_back cX10_back 2 (some .int) 3 0 D cA ad st [.ref (ad 0), .int a1] (some (.int r)) st' := by
  refine g_met (by decide) (Nat.le_of_ble_eq_true rfl) ?_
  intro p e s m args below meth c ls hC hret hlk hU hH hl
  exact bX10_back_0 hC hret hlk hU hf hH va_S.rf hl
def fX10_about (a1 : Int32)   (st : gS) : Option (Int32 × gS) :=
  if a1 = 0 then (gc (gK 0 (st.2.2 0 9) = 8) (some (st.1 (st.2.2 0 9) 12, st))) else if a1 = 1 then (gc (gK 0 (st.2.2 0 9) = 8) (some (st.1 (st.2.2 0 9) 13, st))) else if a1 = 2 then (gc (gK 0 (st.2.2 0 9) = 8) (some (st.1 (st.2.2 0 9) 14, st))) else if a1 = 3 then (some (st.1 20 2, st)) else if a1 = 4 then (some (st.1 20 3, st)) else if a1 = 5 then (some (st.1 20 4, st)) else if a1 = 6 then (some (st.1 20 5, st)) else if a1 = 7 then (some (st.1 20 6, st)) else if a1 = 8 then (some (st.1 20 7, st)) else if a1 = 9 then (some (st.1 20 8, st)) else if a1 = 10 then (some (st.1 20 9, st)) else if a1 = 11 then (some (st.1 23 1, st)) else if a1 = 12 then (some ((st.1 23 2) - (st.1 23 1), st)) else if a1 = 13 then (some (st.1 169 10, st)) else if a1 = 14 then (some (st.1 169 11, st)) else if a1 = 15 then ((fX6_length st).bind fun q0_1 => (some (q0_1.1, q0_1.2))) else if a1 = 16 then (gc (gK 0 (st.2.2 0 9) = 8) (some (st.1 ((st.2.2 0 9) + 1 + 11) 3, st))) else if a1 = 17 then (some (st.1 150 7, st)) else (some ((-1), st))
set_option maxRecDepth 100000 in
set_option maxHeartbeats 4000000 in
theorem bX10_about_0 {a1 : Int32} (hC : CallFix p m c cX10_about 2 s args lw_good RX10) (hret : meth.sig.returnType = (some .int)) (hlk : meth.locks = false) (hU : gU 0 D cA ad s)  {r : Int32} {st' : gS}   {st : gS} {H : Heap} {locs : List Loc} {ls : Array Slot} (hf : fX10_about a1 st = some (r, st')) (hH : gP0 0 D cA ad st H) (hS : va_S (gA 0 ad) s.heap H locs) (hl : lv_has ls 2 [(0, .ref (ad 0)), (1, .int a1)]) : W p l e (gRm 2) s m args below meth c H locs 0 0 (MQ below (gQc 0 D cA ad st' (some (.int r))) args s 0 0 (gA 0 ad)) (F0 m 0 ls []) := by
  obtain ⟨hx, hb, hml, hown, hts⟩ := id hC
  unfold fX10_about at hf
  refine lv_iload_n (pc := 0) hx hb dX10_about_0 rfl (lv_at hl 1 rfl) ?_
  by_cases hw1_0 : a1 = 0
  · have hf := gif_p hw1_0 hf
    refine g_tswI (tgt := 88) (off := 87) (pc := 1) hx hb hw1_0 dX10_about_1 (by decide) (by decide) (by decide) (by decide) ?_
    refine lv_aload_n (pc := 88) hx hb dX10_about_88 rfl (lv_at hl 0 rfl) ?_
    refine g_get (pc := 89) (v := .ref (ad (st.2.2 0 9))) hC hU hH gk0_0 g_cl10 9 (by decide) kf_X10_71 rfl dX10_about_89 ?_
    obtain ⟨h0_1, hf⟩ := gc_s hf
    refine g_get (pc := 92) (v := .int (st.1 (st.2.2 0 9) 12)) hC hU hH h0_1 g_cl8 12 (by decide) kf_X10_120 rfl dX10_about_92 ?_
    exact g_iret (pc := 95) hC hret hlk hH hS hf dX10_about_95
  · have hf := gif_n hw1_0 hf
    by_cases hw1_1 : a1 = 1
    · have hf := gif_p hw1_1 hf
      refine g_tswI (tgt := 96) (off := 95) (pc := 1) hx hb hw1_1 dX10_about_1 (by decide) (by decide) (by decide) (by decide) ?_
      refine lv_aload_n (pc := 96) hx hb dX10_about_96 rfl (lv_at hl 0 rfl) ?_
      refine g_get (pc := 97) (v := .ref (ad (st.2.2 0 9))) hC hU hH gk0_0 g_cl10 9 (by decide) kf_X10_71 rfl dX10_about_97 ?_
      obtain ⟨h0_2, hf⟩ := gc_s hf
      refine g_get (pc := 100) (v := .int (st.1 (st.2.2 0 9) 13)) hC hU hH h0_2 g_cl8 13 (by decide) kf_X10_247 rfl dX10_about_100 ?_
      exact g_iret (pc := 103) hC hret hlk hH hS hf dX10_about_103
    · have hf := gif_n hw1_1 hf
      by_cases hw1_2 : a1 = 2
      · have hf := gif_p hw1_2 hf
        refine g_tswI (tgt := 104) (off := 103) (pc := 1) hx hb hw1_2 dX10_about_1 (by decide) (by decide) (by decide) (by decide) ?_
        refine lv_aload_n (pc := 104) hx hb dX10_about_104 rfl (lv_at hl 0 rfl) ?_
        refine g_get (pc := 105) (v := .ref (ad (st.2.2 0 9))) hC hU hH gk0_0 g_cl10 9 (by decide) kf_X10_71 rfl dX10_about_105 ?_
        obtain ⟨h0_3, hf⟩ := gc_s hf
        refine g_get (pc := 108) (v := .int (st.1 (st.2.2 0 9) 14)) hC hU hH h0_3 g_cl8 14 (by decide) kf_X10_280 rfl dX10_about_108 ?_
        exact g_iret (pc := 111) hC hret hlk hH hS hf dX10_about_111
      · have hf := gif_n hw1_2 hf
        by_cases hw1_3 : a1 = 3
        · have hf := gif_p hw1_3 hf
          refine g_tswI (tgt := 112) (off := 111) (pc := 1) hx hb hw1_3 dX10_about_1 (by decide) (by decide) (by decide) (by decide) ?_
          refine lv_aload_n (pc := 112) hx hb dX10_about_112 rfl (lv_at hl 0 rfl) ?_
          refine g_get (pc := 113) (v := .ref (ad 20)) hC hU hH gk0_0 g_cl10 2 (by decide) kf_X10_28 rfl dX10_about_113 ?_
          refine g_get (pc := 116) (v := .int (st.1 20 2)) hC hU hH gk0_20 g_cl5 2 (by decide) kf_X10_155 rfl dX10_about_116 ?_
          exact g_iret (pc := 119) hC hret hlk hH hS hf dX10_about_119
        · have hf := gif_n hw1_3 hf
          by_cases hw1_4 : a1 = 4
          · have hf := gif_p hw1_4 hf
            refine g_tswI (tgt := 120) (off := 119) (pc := 1) hx hb hw1_4 dX10_about_1 (by decide) (by decide) (by decide) (by decide) ?_
            refine lv_aload_n (pc := 120) hx hb dX10_about_120 rfl (lv_at hl 0 rfl) ?_
            refine g_get (pc := 121) (v := .ref (ad 20)) hC hU hH gk0_0 g_cl10 2 (by decide) kf_X10_28 rfl dX10_about_121 ?_
            refine g_get (pc := 124) (v := .int (st.1 20 3)) hC hU hH gk0_20 g_cl5 3 (by decide) kf_X10_152 rfl dX10_about_124 ?_
            exact g_iret (pc := 127) hC hret hlk hH hS hf dX10_about_127
          · have hf := gif_n hw1_4 hf
            by_cases hw1_5 : a1 = 5
            · have hf := gif_p hw1_5 hf
              refine g_tswI (tgt := 128) (off := 127) (pc := 1) hx hb hw1_5 dX10_about_1 (by decide) (by decide) (by decide) (by decide) ?_
              refine lv_aload_n (pc := 128) hx hb dX10_about_128 rfl (lv_at hl 0 rfl) ?_
              refine g_get (pc := 129) (v := .ref (ad 20)) hC hU hH gk0_0 g_cl10 2 (by decide) kf_X10_28 rfl dX10_about_129 ?_
              refine g_get (pc := 132) (v := .int (st.1 20 4)) hC hU hH gk0_20 g_cl5 4 (by decide) kf_X10_211 rfl dX10_about_132 ?_
              exact g_iret (pc := 135) hC hret hlk hH hS hf dX10_about_135
            · have hf := gif_n hw1_5 hf
              by_cases hw1_6 : a1 = 6
              · have hf := gif_p hw1_6 hf
                refine g_tswI (tgt := 136) (off := 135) (pc := 1) hx hb hw1_6 dX10_about_1 (by decide) (by decide) (by decide) (by decide) ?_
                refine lv_aload_n (pc := 136) hx hb dX10_about_136 rfl (lv_at hl 0 rfl) ?_
                refine g_get (pc := 137) (v := .ref (ad 20)) hC hU hH gk0_0 g_cl10 2 (by decide) kf_X10_28 rfl dX10_about_137 ?_
                refine g_get (pc := 140) (v := .int (st.1 20 5)) hC hU hH gk0_20 g_cl5 5 (by decide) kf_X10_208 rfl dX10_about_140 ?_
                exact g_iret (pc := 143) hC hret hlk hH hS hf dX10_about_143
              · have hf := gif_n hw1_6 hf
                by_cases hw1_7 : a1 = 7
                · have hf := gif_p hw1_7 hf
                  refine g_tswI (tgt := 144) (off := 143) (pc := 1) hx hb hw1_7 dX10_about_1 (by decide) (by decide) (by decide) (by decide) ?_
                  refine lv_aload_n (pc := 144) hx hb dX10_about_144 rfl (lv_at hl 0 rfl) ?_
                  refine g_get (pc := 145) (v := .ref (ad 20)) hC hU hH gk0_0 g_cl10 2 (by decide) kf_X10_28 rfl dX10_about_145 ?_
                  refine g_get (pc := 148) (v := .int (st.1 20 6)) hC hU hH gk0_20 g_cl5 6 (by decide) kf_X10_329 rfl dX10_about_148 ?_
                  exact g_iret (pc := 151) hC hret hlk hH hS hf dX10_about_151
                · have hf := gif_n hw1_7 hf
                  by_cases hw1_8 : a1 = 8
                  · have hf := gif_p hw1_8 hf
                    refine g_tswI (tgt := 152) (off := 151) (pc := 1) hx hb hw1_8 dX10_about_1 (by decide) (by decide) (by decide) (by decide) ?_
                    refine lv_aload_n (pc := 152) hx hb dX10_about_152 rfl (lv_at hl 0 rfl) ?_
                    refine g_get (pc := 153) (v := .ref (ad 20)) hC hU hH gk0_0 g_cl10 2 (by decide) kf_X10_28 rfl dX10_about_153 ?_
                    refine g_get (pc := 156) (v := .int (st.1 20 7)) hC hU hH gk0_20 g_cl5 7 (by decide) kf_X10_332 rfl dX10_about_156 ?_
                    exact g_iret (pc := 159) hC hret hlk hH hS hf dX10_about_159
                  · have hf := gif_n hw1_8 hf
                    by_cases hw1_9 : a1 = 9
                    · have hf := gif_p hw1_9 hf
                      refine g_tswI (tgt := 160) (off := 159) (pc := 1) hx hb hw1_9 dX10_about_1 (by decide) (by decide) (by decide) (by decide) ?_
                      refine lv_aload_n (pc := 160) hx hb dX10_about_160 rfl (lv_at hl 0 rfl) ?_
                      refine g_get (pc := 161) (v := .ref (ad 20)) hC hU hH gk0_0 g_cl10 2 (by decide) kf_X10_28 rfl dX10_about_161 ?_
                      refine g_get (pc := 164) (v := .int (st.1 20 8)) hC hU hH gk0_20 g_cl5 8 (by decide) kf_X10_214 rfl dX10_about_164 ?_
                      exact g_iret (pc := 167) hC hret hlk hH hS hf dX10_about_167
                    · have hf := gif_n hw1_9 hf
                      by_cases hw1_10 : a1 = 10
                      · have hf := gif_p hw1_10 hf
                        refine g_tswI (tgt := 168) (off := 167) (pc := 1) hx hb hw1_10 dX10_about_1 (by decide) (by decide) (by decide) (by decide) ?_
                        refine lv_aload_n (pc := 168) hx hb dX10_about_168 rfl (lv_at hl 0 rfl) ?_
                        refine g_get (pc := 169) (v := .ref (ad 20)) hC hU hH gk0_0 g_cl10 2 (by decide) kf_X10_28 rfl dX10_about_169 ?_
                        refine g_get (pc := 172) (v := .int (st.1 20 9)) hC hU hH gk0_20 g_cl5 9 (by decide) kf_X10_335 rfl dX10_about_172 ?_
                        exact g_iret (pc := 175) hC hret hlk hH hS hf dX10_about_175
                      · have hf := gif_n hw1_10 hf
                        by_cases hw1_11 : a1 = 11
                        · have hf := gif_p hw1_11 hf
                          refine g_tswI (tgt := 176) (off := 175) (pc := 1) hx hb hw1_11 dX10_about_1 (by decide) (by decide) (by decide) (by decide) ?_
                          refine lv_aload_n (pc := 176) hx hb dX10_about_176 rfl (lv_at hl 0 rfl) ?_
                          refine g_get (pc := 177) (v := .ref (ad 23)) hC hU hH gk0_0 g_cl10 3 (by decide) kf_X10_35 rfl dX10_about_177 ?_
                          refine g_get (pc := 180) (v := .int (st.1 23 1)) hC hU hH gk0_23 g_cl1 1 (by decide) kf_X10_338 rfl dX10_about_180 ?_
                          exact g_iret (pc := 183) hC hret hlk hH hS hf dX10_about_183
                        · have hf := gif_n hw1_11 hf
                          by_cases hw1_12 : a1 = 12
                          · have hf := gif_p hw1_12 hf
                            refine g_tswI (tgt := 184) (off := 183) (pc := 1) hx hb hw1_12 dX10_about_1 (by decide) (by decide) (by decide) (by decide) ?_
                            refine lv_aload_n (pc := 184) hx hb dX10_about_184 rfl (lv_at hl 0 rfl) ?_
                            refine g_get (pc := 185) (v := .ref (ad 23)) hC hU hH gk0_0 g_cl10 3 (by decide) kf_X10_35 rfl dX10_about_185 ?_
                            refine g_get (pc := 188) (v := .int (st.1 23 2)) hC hU hH gk0_23 g_cl1 2 (by decide) kf_X10_341 rfl dX10_about_188 ?_
                            refine lv_aload_n (pc := 191) hx hb dX10_about_191 rfl (lv_at hl 0 rfl) ?_
                            refine g_get (pc := 192) (v := .ref (ad 23)) hC hU hH gk0_0 g_cl10 3 (by decide) kf_X10_35 rfl dX10_about_192 ?_
                            refine g_get (pc := 195) (v := .int (st.1 23 1)) hC hU hH gk0_23 g_cl1 1 (by decide) kf_X10_338 rfl dX10_about_195 ?_
                            refine lv_isub (pc := 198) hx hb dX10_about_198 ?_
                            exact g_iret (pc := 199) hC hret hlk hH hS hf dX10_about_199
                          · have hf := gif_n hw1_12 hf
                            by_cases hw1_13 : a1 = 13
                            · have hf := gif_p hw1_13 hf
                              refine g_tswI (tgt := 200) (off := 199) (pc := 1) hx hb hw1_13 dX10_about_1 (by decide) (by decide) (by decide) (by decide) ?_
                              refine lv_aload_n (pc := 200) hx hb dX10_about_200 rfl (lv_at hl 0 rfl) ?_
                              refine g_get (pc := 201) (v := .ref (ad 169)) hC hU hH gk0_0 g_cl10 8 (by decide) kf_X10_64 rfl dX10_about_201 ?_
                              refine g_get (pc := 204) (v := .int (st.1 169 10)) hC hU hH gk0_169 g_cl2 10 (by decide) kf_X10_344 rfl dX10_about_204 ?_
                              exact g_iret (pc := 207) hC hret hlk hH hS hf dX10_about_207
                            · have hf := gif_n hw1_13 hf
                              by_cases hw1_14 : a1 = 14
                              · have hf := gif_p hw1_14 hf
                                refine g_tswI (tgt := 208) (off := 207) (pc := 1) hx hb hw1_14 dX10_about_1 (by decide) (by decide) (by decide) (by decide) ?_
                                refine lv_aload_n (pc := 208) hx hb dX10_about_208 rfl (lv_at hl 0 rfl) ?_
                                refine g_get (pc := 209) (v := .ref (ad 169)) hC hU hH gk0_0 g_cl10 8 (by decide) kf_X10_64 rfl dX10_about_209 ?_
                                refine g_get (pc := 212) (v := .int (st.1 169 11)) hC hU hH gk0_169 g_cl2 11 (by decide) kf_X10_310 rfl dX10_about_212 ?_
                                exact g_iret (pc := 215) hC hret hlk hH hS hf dX10_about_215
                              · have hf := gif_n hw1_14 hf
                                by_cases hw1_15 : a1 = 15
                                · have hf := gif_p hw1_15 hf
                                  refine g_tswI (tgt := 216) (off := 215) (pc := 1) hx hb hw1_15 dX10_about_1 (by decide) (by decide) (by decide) (by decide) ?_
                                  refine lv_aload_n (pc := 216) hx hb dX10_about_216 rfl (lv_at hl 0 rfl) ?_
                                  refine g_get (pc := 217) (v := .ref (ad 1)) hC hU hH gk0_0 g_cl10 0 (by decide) kf_X10_10 rfl dX10_about_217 ?_
                                  obtain ⟨q0_1, hq0_1, hf⟩ := gbd hf
                                  refine g_callVi (pc := 220) (rest := []) hC hU hH hS hl.1 gk0_1 rfl (by decide) (mX6_length  hq0_1) ky_X6_length km_X10_99 ⟨Nat.le_of_ble_eq_true rfl, Nat.le_of_ble_eq_true rfl⟩ ⟨Nat.zero_le _, Nat.zero_le _⟩ rfl (Nat.le_of_ble_eq_true rfl) dX10_about_220 rfl (fun H locs hH hS => ?_)
                                  exact g_iret (pc := 223) hC hret hlk hH hS hf dX10_about_223
                                · have hf := gif_n hw1_15 hf
                                  by_cases hw1_16 : a1 = 16
                                  · have hf := gif_p hw1_16 hf
                                    refine g_tswI (tgt := 224) (off := 223) (pc := 1) hx hb hw1_16 dX10_about_1 (by decide) (by decide) (by decide) (by decide) ?_
                                    refine lv_aload_n (pc := 224) hx hb dX10_about_224 rfl (lv_at hl 0 rfl) ?_
                                    refine g_get (pc := 225) (v := .ref (ad (st.2.2 0 9))) hC hU hH gk0_0 g_cl10 9 (by decide) kf_X10_71 rfl dX10_about_225 ?_
                                    obtain ⟨h0_4, hf⟩ := gc_s hf
                                    refine g_get (pc := 228) (v := .ref (ad ((st.2.2 0 9) + 1 + 11))) hC hU hH h0_4 g_cl8 11 (by decide) kf_X10_347 rfl dX10_about_228 ?_
                                    refine g_get (pc := 231) (v := .int (st.1 ((st.2.2 0 9) + 1 + 11) 3)) hC hU hH (gk_8_11 h0_4) g_cl0 3 (by decide) kf_X10_351 rfl dX10_about_231 ?_
                                    exact g_iret (pc := 234) hC hret hlk hH hS hf dX10_about_234
                                  · have hf := gif_n hw1_16 hf
                                    by_cases hw1_17 : a1 = 17
                                    · have hf := gif_p hw1_17 hf
                                      refine g_tswI (tgt := 235) (off := 234) (pc := 1) hx hb hw1_17 dX10_about_1 (by decide) (by decide) (by decide) (by decide) ?_
                                      refine lv_aload_n (pc := 235) hx hb dX10_about_235 rfl (lv_at hl 0 rfl) ?_
                                      refine g_get (pc := 236) (v := .ref (ad 150)) hC hU hH gk0_0 g_cl10 6 (by decide) kf_X10_50 rfl dX10_about_236 ?_
                                      refine g_get (pc := 239) (v := .int (st.1 150 7)) hC hU hH gk0_150 g_cl9 7 (by decide) kf_X10_356 rfl dX10_about_239 ?_
                                      exact g_iret (pc := 242) hC hret hlk hH hS hf dX10_about_242
                                    · have hf := gif_n hw1_17 hf
                                      refine g_tswO (tgt := 243) (n := 18) (pc := 1) hx hb dX10_about_1 (by intro j hj; match j, hj with | 0, _ => exact hw1_0 | 1, _ => exact hw1_1 | 2, _ => exact hw1_2 | 3, _ => exact hw1_3 | 4, _ => exact hw1_4 | 5, _ => exact hw1_5 | 6, _ => exact hw1_6 | 7, _ => exact hw1_7 | 8, _ => exact hw1_8 | 9, _ => exact hw1_9 | 10, _ => exact hw1_10 | 11, _ => exact hw1_11 | 12, _ => exact hw1_12 | 13, _ => exact hw1_13 | 14, _ => exact hw1_14 | 15, _ => exact hw1_15 | 16, _ => exact hw1_16 | 17, _ => exact hw1_17 | n + 18, h => exact absurd h (by omega)) rfl (by decide) ?_
                                      refine lv_iconst (v := (-1)) (pc := 243) hx hb dX10_about_243 (by decide) ?_
                                      exact g_iret (pc := 244) hC hret hlk hH hS hf dX10_about_244
set_option maxRecDepth 100000 in
set_option maxHeartbeats 4000000 in
theorem mX10_about {l : Launch} {D : va_G} {cA : Nat → ClassId} {ad : Nat → Nat} {a1 : Int32}  {r : Int32} {st st' : gS} (hf : fX10_about a1 st = some (r, st')) : gM l yX10_about cX10_about 2 (some .int) 2 0 D cA ad st [.ref (ad 0), .int a1] (some (.int r)) st' := by
  refine g_met (by decide) (Nat.le_of_ble_eq_true rfl) ?_
  intro p e s m args below meth c ls hC hret hlk hU hH hl
  exact bX10_about_0 hC hret hlk hU hf hH va_S.rf hl
end
