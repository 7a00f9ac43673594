section
variable {p : Program} {l : Launch} {e : Env} {s : State} {m : MethodId} {args : Array Value} {below : List Frame} {meth : Method} {c : Code} {D : va_G} {cA : Nat → ClassId} {ad : Nat → Nat}
def fX11_seen (a1 : Int32) (a2 : Int32) (a3 : Int32)   (st : gS) : Option (Int32 × gS) :=
  (fX11_isIn a1 0 6 st).bind fun q0_1 => (if q0_1.1 = 0 then (some ((-1), q0_1.2)) else ((fX11_isFigure a2 q0_1.2).bind fun q0_2 => (if q0_2.1 = 0 then (some ((-1), q0_2.2)) else ((fX11_tell 0 a1 a2 a3 q0_2.2).bind fun q0_3 => (some (q0_3.1, q0_3.2))))))
set_option maxRecDepth 100000 in
set_option maxHeartbeats 4000000 in
theorem bX11_seen_0 {a1 : Int32} {a2 : Int32} {a3 : Int32} (hC : CallFix p m c cX11_seen 4 s args lw_good RX11) (hret : meth.sig.returnType = (some .int)) (hlk : meth.locks = false) (hU : gU 1 D cA ad s)  {r : Int32} {st' : gS}   {st : gS} {H : Heap} {locs : List Loc} {ls : Array Slot} (hf : fX11_seen a1 a2 a3 st = some (r, st')) (hH : gP0 1 D cA ad st H) (hS : va_S (gA 1 ad) s.heap H locs) (hl : lv_has ls 4 [(0, .ref (ad 0)), (1, .int a1), (2, .int a2), (3, .int a3)]) : W p l e (gRm 3) s m args below meth c H locs 0 0 (MQ below (gQc 1 D cA ad st' (some (.int r))) args s 0 0 (gA 1 ad)) (F0 m 0 ls []) := by
  obtain ⟨hx, hb, hml, hown, hts⟩ := id hC
  unfold fX11_seen at hf
  refine lv_iload_n (pc := 0) hx hb dX11_seen_0 rfl (lv_at hl 1 rfl) ?_
  refine lv_iconst (v := 0) (pc := 1) hx hb dX11_seen_1 (by decide) ?_
  refine lv_bipush (v := 6) (pc := 2) hx hb dX11_seen_2 (by decide) ?_
  obtain ⟨q0_1, hq0_1, hf⟩ := gbd hf
  refine g_callSi (pc := 4) (rest := []) hC hU hH hS hl.1 (mX11_isIn  hq0_1) ky_X11_isIn km_X11_416 ⟨Nat.le_of_ble_eq_true rfl, Nat.le_of_ble_eq_true rfl⟩ ⟨Nat.zero_le _, Nat.zero_le _⟩ rfl (Nat.le_of_ble_eq_true rfl) dX11_seen_4 rfl (fun H locs hH hS => ?_)
  refine lv_if_eq (tgt := 29) (pc := 7) hx hb dX11_seen_7 (by decide) (fun hc => ?_) (fun hc => ?_)
  · have hf := gif_p hc hf
    refine lv_iconst (v := (-1)) (pc := 29) hx hb dX11_seen_29 (by decide) ?_
    exact g_iret (pc := 30) hC hret hlk hH hS hf dX11_seen_30
  · have hf := gif_n hc hf
    refine lv_aload_n (pc := 10) hx hb dX11_seen_10 rfl (lv_at hl 0 rfl) ?_
    refine lv_iload_n (pc := 11) hx hb dX11_seen_11 rfl (lv_at hl 2 rfl) ?_
    obtain ⟨q0_2, hq0_2, hf⟩ := gbd hf
    refine g_callVi (pc := 12) (rest := []) hC hU hH hS hl.1 gk1_0 rfl (by decide) (mX11_isFigure  hq0_2) ky_X11_isFigure km_X11_443 ⟨Nat.le_of_ble_eq_true rfl, Nat.le_of_ble_eq_true rfl⟩ ⟨Nat.zero_le _, Nat.zero_le _⟩ rfl (Nat.le_of_ble_eq_true rfl) dX11_seen_12 rfl (fun H locs hH hS => ?_)
    refine lv_if_eq (tgt := 29) (pc := 15) hx hb dX11_seen_15 (by decide) (fun hc => ?_) (fun hc => ?_)
    · have hf := gif_p hc hf
      refine lv_iconst (v := (-1)) (pc := 29) hx hb dX11_seen_29 (by decide) ?_
      exact g_iret (pc := 30) hC hret hlk hH hS hf dX11_seen_30
    · have hf := gif_n hc hf
      refine lv_aload_n (pc := 18) hx hb dX11_seen_18 rfl (lv_at hl 0 rfl) ?_
      refine lv_iconst (v := 0) (pc := 19) hx hb dX11_seen_19 (by decide) ?_
      refine lv_iload_n (pc := 20) hx hb dX11_seen_20 rfl (lv_at hl 1 rfl) ?_
      refine lv_iload_n (pc := 21) hx hb dX11_seen_21 rfl (lv_at hl 2 rfl) ?_
      refine lv_iload_n (pc := 22) hx hb dX11_seen_22 rfl (lv_at hl 3 rfl) ?_
      obtain ⟨q0_3, hq0_3, hf⟩ := gbd hf
      refine g_callVi (pc := 23) (rest := []) hC hU hH hS hl.1 gk1_0 rfl (by decide) (mX11_tell  hq0_3) ky_X11_tell km_X11_514 ⟨Nat.le_of_ble_eq_true rfl, Nat.le_of_ble_eq_true rfl⟩ ⟨Nat.zero_le _, Nat.zero_le _⟩ rfl (Nat.le_of_ble_eq_true rfl) dX11_seen_23 rfl (fun H locs hH hS => ?_)
      refine lv_goto (tgt := 30) (pc := 26) hx hb dX11_seen_26 (by decide) ?_
      exact g_iret (pc := 30) hC hret hlk hH hS hf dX11_seen_30
set_option maxRecDepth 100000 in
set_option maxHeartbeats 4000000 in
theorem mX11_seen {l : Launch} {D : va_G} {cA : Nat → ClassId} {ad : Nat → Nat} {a1 : Int32} {a2 : Int32} {a3 : Int32}  {r : Int32} {st st' : gS} (hf : fX11_seen a1 a2 a3 st = some (r, st')) : gM l yX11_seen cX11_seen 4 (some .int) 3 1 D cA ad st [.ref (ad 0), .int a1, .int a2, .int a3] (some (.int r)) st' := by
  refine g_met (by decide) (Nat.le_of_ble_eq_true rfl) ?_
  intro p e s m args below meth c ls hC hret hlk hU hH hl
  exact bX11_seen_0 hC hret hlk hU hf hH va_S.rf hl
def fX11_felt (a1 : Int32) (a2 : Int32) (a3 : Int32)   (st : gS) : Option (Int32 × gS) :=
  (fX11_isIn a1 1 6 st).bind fun q0_1 => (if q0_1.1 = 0 then (some ((-1), q0_1.2)) else ((fX11_isIn a2 0 9 q0_1.2).bind fun q0_2 => (if q0_2.1 = 0 then (some ((-1), q0_2.2)) else ((fX11_tell 1 a1 a2 a3 q0_2.2).bind fun q0_3 => (some (q0_3.1, q0_3.2))))))
set_option maxRecDepth 100000 in
set_option maxHeartbeats 4000000 in
theorem bX11_felt_0 {a1 : Int32} {a2 : Int32} {a3 : Int32} (hC : CallFix p m c cX11_felt 4 s args lw_good RX11) (hret : meth.sig.returnType = (some .int)) (hlk : meth.locks = false) (hU : gU 1 D cA ad s)  {r : Int32} {st' : gS}   {st : gS} {H : Heap} {locs : List Loc} {ls : Array Slot} (hf : fX11_felt a1 a2 a3 st = some (r, st')) (hH : gP0 1 D cA ad st H) (hS : va_S (gA 1 ad) s.heap H locs) (hl : lv_has ls 4 [(0, .ref (ad 0)), (1, .int a1), (2, .int a2), (3, .int a3)]) : W p l e (gRm 2) s m args below meth c H locs 0 0 (MQ below (gQc 1 D cA ad st' (some (.int r))) args s 0 0 (gA 1 ad)) (F0 m 0 ls []) := by
  obtain ⟨hx, hb, hml, hown, hts⟩ := id hC
  unfold fX11_felt at hf
  refine lv_iload_n (pc := 0) hx hb dX11_felt_0 rfl (lv_at hl 1 rfl) ?_
  refine lv_iconst (v := 1) (pc := 1) hx hb dX11_felt_1 (by decide) ?_
  refine lv_bipush (v := 6) (pc := 2) hx hb dX11_felt_2 (by decide) ?_
  obtain ⟨q0_1, hq0_1, hf⟩ := gbd hf
  refine g_callSi (pc := 4) (rest := []) hC hU hH hS hl.1 (mX11_isIn  hq0_1) ky_X11_isIn km_X11_416 ⟨Nat.le_of_ble_eq_true rfl, Nat.le_of_ble_eq_true rfl⟩ ⟨Nat.zero_le _, Nat.zero_le _⟩ rfl (Nat.le_of_ble_eq_true rfl) dX11_felt_4 rfl (fun H locs hH hS => ?_)
  refine lv_if_eq (tgt := 31) (pc := 7) hx hb dX11_felt_7 (by decide) (fun hc => ?_) (fun hc => ?_)
  · have hf := gif_p hc hf
    refine lv_iconst (v := (-1)) (pc := 31) hx hb dX11_felt_31 (by decide) ?_
    exact g_iret (pc := 32) hC hret hlk hH hS hf dX11_felt_32
  · have hf := gif_n hc hf
    refine lv_iload_n (pc := 10) hx hb dX11_felt_10 rfl (lv_at hl 2 rfl) ?_
    refine lv_iconst (v := 0) (pc := 11) hx hb dX11_felt_11 (by decide) ?_
    refine lv_bipush (v := 9) (pc := 12) hx hb dX11_felt_12 (by decide) ?_
    obtain ⟨q0_2, hq0_2, hf⟩ := gbd hf
    refine g_callSi (pc := 14) (rest := []) hC hU hH hS hl.1 (mX11_isIn  hq0_2) ky_X11_isIn km_X11_416 ⟨Nat.le_of_ble_eq_true rfl, Nat.le_of_ble_eq_true rfl⟩ ⟨Nat.zero_le _, Nat.zero_le _⟩ rfl (Nat.le_of_ble_eq_true rfl) dX11_felt_14 rfl (fun H locs hH hS => ?_)
    refine lv_if_eq (tgt := 31) (pc := 17) hx hb dX11_felt_17 (by decide) (fun hc => ?_) (fun hc => ?_)
    · have hf := gif_p hc hf
      refine lv_iconst (v := (-1)) (pc := 31) hx hb dX11_felt_31 (by decide) ?_
      exact g_iret (pc := 32) hC hret hlk hH hS hf dX11_felt_32
    · have hf := gif_n hc hf
      refine lv_aload_n (pc := 20) hx hb dX11_felt_20 rfl (lv_at hl 0 rfl) ?_
      refine lv_iconst (v := 1) (pc := 21) hx hb dX11_felt_21 (by decide) ?_
      refine lv_iload_n (pc := 22) hx hb dX11_felt_22 rfl (lv_at hl 1 rfl) ?_
      refine lv_iload_n (pc := 23) hx hb dX11_felt_23 rfl (lv_at hl 2 rfl) ?_
      refine lv_iload_n (pc := 24) hx hb dX11_felt_24 rfl (lv_at hl 3 rfl) ?_
      obtain ⟨q0_3, hq0_3, hf⟩ := gbd hf
      refine g_callVi (pc := 25) (rest := []) hC hU hH hS hl.1 gk1_0 rfl (by decide) (mX11_tell  hq0_3) ky_X11_tell km_X11_514 ⟨Nat.le_of_ble_eq_true rfl, Nat.le_of_ble_eq_true rfl⟩ ⟨Nat.zero_le _, Nat.zero_le _⟩ rfl (Nat.le_of_ble_eq_true rfl) dX11_felt_25 rfl (fun H locs hH hS => ?_)
      refine lv_goto (tgt := 32) (pc := 28) hx hb dX11_felt_28 (by decide) ?_
      exact g_iret (pc := 32) hC hret hlk hH hS hf dX11_felt_32
set_option maxRecDepth 100000 in
set_option maxHeartbeats 4000000 in
theorem mX11_felt {l : Launch} {D : va_G} {cA : Nat → ClassId} {ad : Nat → Nat} {a1 : Int32} {a2 : Int32} {a3 : Int32}  {r : Int32} {st st' : gS} (hf : fX11_felt a1 a2 a3 st = some (r, st')) : gM l yX11_felt cX11_felt 4 (some .int) 2 1 D cA ad st [.ref (ad 0), .int a1, .int a2, .int a3] (some (.int r)) st' := by
  refine g_met (by decide) (Nat.le_of_ble_eq_true rfl) ?_
  intro p e s m args below meth c ls hC hret hlk hU hH hl
  exact bX11_felt_0 hC hret hlk hU hf hH va_S.rf hl
def fX11_untell (a1 : Int32)   (st : gS) : Option (Int32 × gS) :=
  (fX11_isIn a1 0 ((st.1 0 73) - 1) st).bind fun q0_1 => (if q0_1.1 = 0 then (some (0, q0_1.2)) else (gc (gI a1 30) (if (q0_1.2.1 41 a1.toNatClampNeg) < 0 then (gc (gI a1 30) (some (1, wi q0_1.2 41 a1.toNatClampNeg (q0_1.2.1 0 74)))) else (some (0, q0_1.2)))))
set_option maxRecDepth 100000 in
set_option maxHeartbeats 4000000 in
theorem bX11_untell_0 {a1 : Int32} (hC : CallFix p m c cX11_untell 2 s args lw_good RX11) (hret : meth.sig.returnType = (some .boolean)) (hlk : meth.locks = false) (hU : gU 1 D cA ad s)  {r : Int32} {st' : gS}   {st : gS} {H : Heap} {locs : List Loc} {ls : Array Slot} (hf : fX11_untell a1 st = some (r, st')) (hH : gP0 1 D cA ad st H) (hS : va_S (gA 1 ad) s.heap H locs) (hl : lv_has ls 2 [(0, .ref (ad 0)), (1, .int a1)]) : W p l e (gRm 2) s m args below meth c H locs 0 0 (MQ below (gQc 1 D cA ad st' (some (.int r))) args s 0 0 (gA 1 ad)) (F0 m 0 ls []) := by
  obtain ⟨hx, hb, hml, hown, hts⟩ := id hC
  unfold fX11_untell at hf
  refine lv_iload_n (pc := 0) hx hb dX11_untell_0 rfl (lv_at hl 1 rfl) ?_
  refine lv_iconst (v := 0) (pc := 1) hx hb dX11_untell_1 (by decide) ?_
  refine lv_aload_n (pc := 2) hx hb dX11_untell_2 rfl (lv_at hl 0 rfl) ?_
  refine g_get (pc := 3) (v := .int (st.1 0 73)) hC hU hH gk1_0 g_cl11 73 (by decide) kf_X11_410 rfl dX11_untell_3 ?_
  refine lv_iconst (v := 1) (pc := 6) hx hb dX11_untell_6 (by decide) ?_
  refine lv_isub (pc := 7) hx hb dX11_untell_7 ?_
  obtain ⟨q0_1, hq0_1, hf⟩ := gbd hf
  refine g_callSi (pc := 8) (rest := []) hC hU hH hS hl.1 (mX11_isIn  hq0_1) ky_X11_isIn km_X11_416 ⟨Nat.le_of_ble_eq_true rfl, Nat.le_of_ble_eq_true rfl⟩ ⟨Nat.zero_le _, Nat.zero_le _⟩ rfl (Nat.le_of_ble_eq_true rfl) dX11_untell_8 rfl (fun H locs hH hS => ?_)
  refine lv_if_eq (tgt := 23) (pc := 11) hx hb dX11_untell_11 (by decide) (fun hc => ?_) (fun hc => ?_)
  · have hf := gif_p hc hf
    refine lv_iconst (v := 0) (pc := 23) hx hb dX11_untell_23 (by decide) ?_
    exact g_zret (pc := 24) hC hret hlk hH hS (by decide) hf dX11_untell_24
  · have hf := gif_n hc hf
    refine lv_aload_n (pc := 14) hx hb dX11_untell_14 rfl (lv_at hl 0 rfl) ?_
    refine g_get (pc := 15) (v := .ref (ad 41)) hC hU hH gk1_0 g_cl11 71 (by decide) kf_X11_139 rfl dX11_untell_15 ?_
    refine lv_iload_n (pc := 18) hx hb dX11_untell_18 rfl (lv_at hl 1 rfl) ?_
    obtain ⟨h0_1, hf⟩ := gc_s hf
    refine g_iald (pc := 19) hC hU hH gk1_41 gn1_41 h0_1 dX11_untell_19 ?_
    refine lv_if_lt (tgt := 25) (pc := 20) hx hb dX11_untell_20 (by decide) (fun hc => ?_) (fun hc => ?_)
    · have hf := gif_p hc hf
      refine lv_aload_n (pc := 25) hx hb dX11_untell_25 rfl (lv_at hl 0 rfl) ?_
      refine g_get (pc := 26) (v := .ref (ad 41)) hC hU hH gk1_0 g_cl11 71 (by decide) kf_X11_139 rfl dX11_untell_26 ?_
      refine lv_iload_n (pc := 29) hx hb dX11_untell_29 rfl (lv_at hl 1 rfl) ?_
      refine lv_aload_n (pc := 30) hx hb dX11_untell_30 rfl (lv_at hl 0 rfl) ?_
      refine g_get (pc := 31) (v := .int (q0_1.2.1 0 74)) hC hU hH gk1_0 g_cl11 74 (by decide) kf_X11_511 rfl dX11_untell_31 ?_
      obtain ⟨h0_2, hf⟩ := gc_s hf
      refine g_iast (pc := 34) hC hU hH hS gk1_41 gn1_41 h0_2 dX11_untell_34 (fun H locs hH hS => ?_)
      refine lv_iconst (v := 1) (pc := 35) hx hb dX11_untell_35 (by decide) ?_
      exact g_zret (pc := 36) hC hret hlk hH hS (by decide) hf dX11_untell_36
    · have hf := gif_n hc hf
      refine lv_iconst (v := 0) (pc := 23) hx hb dX11_untell_23 (by decide) ?_
      exact g_zret (pc := 24) hC hret hlk hH hS (by decide) hf dX11_untell_24
set_option maxRecDepth 100000 in
set_option maxHeartbeats 4000000 in
theorem mX11_untell {l : Launch} {D : va_G} {cA : Nat → ClassId} {ad : Nat → Nat} {a1 : Int32}  {r : Int32} {st st' : gS} (hf : fX11_untell a1 st = some (r, st')) : gM l yX11_untell cX11_untell 2 (some .boolean) 2 1 D cA ad st [.ref (ad 0), .int a1] (some (.int r)) st' := by
  refine g_met (by decide) (Nat.le_of_ble_eq_true rfl) ?_
  intro p e s m args below meth c ls hC hret hlk hU hH hl
  exact bX11_untell_0 hC hret hlk hU hf hH va_S.rf hl
def fX11_later (a1 : Int32)   (st : gS) : Option (Int32 × gS) :=
  if a1 < 0 then (some ((-1), st)) else (if 1000 < a1 then (some ((-1), st)) else (if ((st.1 0 74) + a1) ≤ 100000 then (some ((wi st 0 74 ((st.1 0 74) + a1)).1 0 74, wi st 0 74 ((st.1 0 74) + a1))) else (some ((-1), st))))
set_option maxRecDepth 100000 in
set_option maxHeartbeats 4000000 in
theorem bX11_later_0 {a1 : Int32} (hC : CallFix p m c cX11_later 2 s args lw_good RX11) (hret : meth.sig.returnType = (some .int)) (hlk : meth.locks = false) (hU : gU 1 D cA ad s)  {r : Int32} {st' : gS}   {st : gS} {H : Heap} {locs : List Loc} {ls : Array Slot} (hf : fX11_later a1 st = some (r, st')) (hH : gP0 1 D cA ad st H) (hS : va_S (gA 1 ad) s.heap H locs) (hl : lv_has ls 2 [(0, .ref (ad 0)), (1, .int a1)]) : W p l e (gRm 1) s m args below meth c H locs 0 0 (MQ below (gQc 1 D cA ad st' (some (.int r))) args s 0 0 (gA 1 ad)) (F0 m 0 ls []) := by
  obtain ⟨hx, hb, hml, hown, hts⟩ := id hC
  unfold fX11_later at hf
  refine lv_iload_n (pc := 0) hx hb dX11_later_0 rfl (lv_at hl 1 rfl) ?_
  refine lv_if_lt (tgt := 23) (pc := 1) hx hb dX11_later_1 (by decide) (fun hc => ?_) (fun hc => ?_)
  · have hf := gif_p hc hf
    refine lv_iconst (v := (-1)) (pc := 23) hx hb dX11_later_23 (by decide) ?_
    exact g_iret (pc := 24) hC hret hlk hH hS hf dX11_later_24
  · have hf := gif_n hc hf
    refine lv_iload_n (pc := 4) hx hb dX11_later_4 rfl (lv_at hl 1 rfl) ?_
    refine lv_sipush (v := 1000) (pc := 5) hx hb dX11_later_5 (by decide) ?_
    refine lv_icmp_gt (tgt := 23) (pc := 8) hx hb dX11_later_8 (by decide) (fun hc => ?_) (fun hc => ?_)
    · have hf := gif_p hc hf
      refine lv_iconst (v := (-1)) (pc := 23) hx hb dX11_later_23 (by decide) ?_
      exact g_iret (pc := 24) hC hret hlk hH hS hf dX11_later_24
    · have hf := gif_n hc hf
      refine lv_aload_n (pc := 11) hx hb dX11_later_11 rfl (lv_at hl 0 rfl) ?_
      refine g_get (pc := 12) (v := .int (st.1 0 74)) hC hU hH gk1_0 g_cl11 74 (by decide) kf_X11_511 rfl dX11_later_12 ?_
      refine lv_iload_n (pc := 15) hx hb dX11_later_15 rfl (lv_at hl 1 rfl) ?_
      refine lv_iadd (pc := 16) hx hb dX11_later_16 ?_
      refine lv_ldcw (pc := 17) hx hb hown (hts _ kc_X11_518) dX11_later_17 ?_
      refine lv_icmp_le (tgt := 25) (pc := 20) hx hb dX11_later_20 (by decide) (fun hc => ?_) (fun hc => ?_)
      · have hf := gif_p hc hf
        refine lv_aload_n (pc := 25) hx hb dX11_later_25 rfl (lv_at hl 0 rfl) ?_
        refine lv_dup (pc := 26) hx hb dX11_later_26 rfl ?_
        refine g_get (pc := 27) (v := .int (st.1 0 74)) hC hU hH gk1_0 g_cl11 74 (by decide) kf_X11_511 rfl dX11_later_27 ?_
        refine lv_iload_n (pc := 30) hx hb dX11_later_30 rfl (lv_at hl 1 rfl) ?_
        refine lv_iadd (pc := 31) hx hb dX11_later_31 ?_
        refine g_puti (pc := 32) hC hU hH hS gk1_0 g_cl11 74 (by decide) kf_X11_511 rfl rfl rfl rfl dX11_later_32 (fun H locs hH hS => ?_)
        refine lv_aload_n (pc := 35) hx hb dX11_later_35 rfl (lv_at hl 0 rfl) ?_
        refine g_get (pc := 36) (v := .int ((wi st 0 74 ((st.1 0 74) + a1)).1 0 74)) hC hU hH gk1_0 g_cl11 74 (by decide) kf_X11_511 rfl dX11_later_36 ?_
        exact g_iret (pc := 39) hC hret hlk hH hS hf dX11_later_39
      · have hf := gif_n hc hf
        refine lv_iconst (v := (-1)) (pc := 23) hx hb dX11_later_23 (by decide) ?_
        exact g_iret (pc := 24) hC hret hlk hH hS hf dX11_later_24
set_option maxRecDepth 100000 in
set_option maxHeartbeats 4000000 in
theorem mX11_later {l : Launch} {D : va_G} {cA : Nat → ClassId} {ad : Nat → Nat} {a1 : Int32}  {r : Int32} {st st' : gS} (hf : fX11_later a1 st = some (r, st')) : gM l yX11_later cX11_later 2 (some .int) 1 1 D cA ad st [.ref (ad 0), .int a1] (some (.int r)) st' := by
  refine g_met (by decide) (Nat.le_of_ble_eq_true rfl) ?_
  intro p e s m args below meth c ls hC hret hlk hU hH hl
  exact bX11_later_0 hC hret hlk hU hf hH va_S.rf hl
def fX11_allows_95 (a1 : Int32) (a2 : Int32) (a3 : Int32) (a4 : Int32) (k6 : Int32 → Int32 → gS → Option (Int32 × gS)) (l6 : Int32) (s0 : Int32) (st : gS) : Option (Int32 × gS) :=
  gc (gI l6 30) (if s0 = (st.1 42 l6.toNatClampNeg) then (k6 1 (l6 + 1) st) else (k6 0 (l6 + 1) st))
set_option maxRecDepth 100000 in
set_option maxHeartbeats 4000000 in
theorem bX11_allows_95 {a1 : Int32} {a2 : Int32} {a3 : Int32} {a4 : Int32} (hC : CallFix p m c cX11_allows 7 s args lw_good RX11) (hret : meth.sig.returnType = (some .boolean)) (hlk : meth.locks = false) (hU : gU 1 D cA ad s)  {r : Int32} {st' : gS} {k6 : Int32 → Int32 → gS → Option (Int32 × gS)} (hk6 : ∀ {l5 : Int32} {l6 : Int32} {st : gS} {H : Heap} {locs : List Loc} {ls : Array Slot}, k6 l5 l6 st = some (r, st') → gP0 1 D cA ad st H → va_S (gA 1 ad) s.heap H locs → lv_has ls 7 [(0, .ref (ad 0)), (1, .int a1), (2, .int a2), (3, .int a3), (4, .int a4), (5, .int l5), (6, .int l6)] → W p l e (gRm 1) s m args below meth c H locs 0 0 (MQ below (gQc 1 D cA ad st' (some (.int r))) args s 0 0 (gA 1 ad)) (F0 m 6 ls [])) {l6 : Int32} {s0 : Int32} {st : gS} {H : Heap} {locs : List Loc} {ls : Array Slot} (hf : fX11_allows_95 a1 a2 a3 a4 k6 l6 s0 st = some (r, st')) (hH : gP0 1 D cA ad st H) (hS : va_S (gA 1 ad) s.heap H locs) (hl : lv_has ls 7 [(0, .ref (ad 0)), (1, .int a1), (2, .int a2), (3, .int a3), (4, .int a4), (6, .int l6)]) : W p l e (gRm 1) s m args below meth c H locs 0 0 (MQ below (gQc 1 D cA ad st' (some (.int r))) args s 0 0 (gA 1 ad)) (F0 m 95 ls [.int s0]) := by
  obtain ⟨hx, hb, hml, hown, hts⟩ := id hC
  unfold fX11_allows_95 at hf
  refine lv_aload_n (pc := 95) hx hb dX11_allows_95 rfl (lv_at hl 0 rfl) ?_
  refine g_get (pc := 96) (v := .ref (ad 42)) hC hU hH gk1_0 g_cl11 72 (by decide) kf_X11_142 rfl dX11_allows_96 ?_
  refine lv_iload (pc := 99) hx hb dX11_allows_99 (lv_at hl 5 rfl) ?_
  obtain ⟨h95_1, hf⟩ := gc_s hf
  refine g_zald (pc := 101) hC hU hH gk1_42 gn1_42 h95_1 dX11_allows_101 ?_
  refine lv_icmp_ne (tgt := 109) (pc := 102) hx hb dX11_allows_102 (by decide) (fun hc => ?_) (fun hc => ?_)
  · have hf := gif_n hc hf
    refine lv_iconst (v := 0) (pc := 109) hx hb dX11_allows_109 (by decide) ?_
    refine lv_istore (lv' := [(5, .int 0), (0, .ref (ad 0)), (1, .int a1), (2, .int a2), (3, .int a3), (4, .int a4), (6, .int l6)]) (pc := 110) hx hb dX11_allows_110 hl (by decide) rfl (fun ls hl => ?_)
    refine lv_iinc (v := l6 + 1) (lv' := [(6, .int (l6 + 1)), (5, .int 0), (0, .ref (ad 0)), (1, .int a1), (2, .int a2), (3, .int a3), (4, .int a4)]) (k := 6) (pc := 112) hx hb dX11_allows_112 hl rfl rfl (by decide) rfl (fun ls hl => ?_)
    refine lv_goto (tgt := 6) (pc := 115) hx hb dX11_allows_115 (by decide) ?_
    exact hk6 hf hH hS (lv_sub hl [2, 3, 4, 5, 6, 1, 0] rfl)
  · have hf := gif_p hc hf
    refine lv_iconst (v := 1) (pc := 105) hx hb dX11_allows_105 (by decide) ?_
    refine lv_goto (tgt := 110) (pc := 106) hx hb dX11_allows_106 (by decide) ?_
    refine lv_istore (lv' := [(5, .int 1), (0, .ref (ad 0)), (1, .int a1), (2, .int a2), (3, .int a3), (4, .int a4), (6, .int l6)]) (pc := 110) hx hb dX11_allows_110 hl (by decide) rfl (fun ls hl => ?_)
    refine lv_iinc (v := l6 + 1) (lv' := [(6, .int (l6 + 1)), (5, .int 1), (0, .ref (ad 0)), (1, .int a1), (2, .int a2), (3, .int a3), (4, .int a4)]) (k := 6) (pc := 112) hx hb dX11_allows_112 hl rfl rfl (by decide) rfl (fun ls hl => ?_)
    refine lv_goto (tgt := 6) (pc := 115) hx hb dX11_allows_115 (by decide) ?_
    exact hk6 hf hH hS (lv_sub hl [2, 3, 4, 5, 6, 1, 0] rfl)
def fX11_allows_79 (a1 : Int32) (a2 : Int32) (a3 : Int32) (a4 : Int32) (k6 : Int32 → Int32 → gS → Option (Int32 × gS)) (l6 : Int32) (st : gS) : Option (Int32 × gS) :=
  gc (gI l6 30) (if (st.1 39 l6.toNatClampNeg) = a3 then (fX11_allows_95 a1 a2 a3 a4 k6 l6 1 st) else (fX11_allows_95 a1 a2 a3 a4 k6 l6 0 st))
set_option maxRecDepth 100000 in
set_option maxHeartbeats 4000000 in
theorem bX11_allows_79 {a1 : Int32} {a2 : Int32} {a3 : Int32} {a4 : Int32} (hC : CallFix p m c cX11_allows 7 s args lw_good RX11) (hret : meth.sig.returnType = (some .boolean)) (hlk : meth.locks = false) (hU : gU 1 D cA ad s)  {r : Int32} {st' : gS} {k6 : Int32 → Int32 → gS → Option (Int32 × gS)} (hk6 : ∀ {l5 : Int32} {l6 : Int32} {st : gS} {H : Heap} {locs : List Loc} {ls : Array Slot}, k6 l5 l6 st = some (r, st') → gP0 1 D cA ad st H → va_S (gA 1 ad) s.heap H locs → lv_has ls 7 [(0, .ref (ad 0)), (1, .int a1), (2, .int a2), (3, .int a3), (4, .int a4), (5, .int l5), (6, .int l6)] → W p l e (gRm 1) s m args below meth c H locs 0 0 (MQ below (gQc 1 D cA ad st' (some (.int r))) args s 0 0 (gA 1 ad)) (F0 m 6 ls [])) {l6 : Int32} {st : gS} {H : Heap} {locs : List Loc} {ls : Array Slot} (hf : fX11_allows_79 a1 a2 a3 a4 k6 l6 st = some (r, st')) (hH : gP0 1 D cA ad st H) (hS : va_S (gA 1 ad) s.heap H locs) (hl : lv_has ls 7 [(0, .ref (ad 0)), (1, .int a1), (2, .int a2), (3, .int a3), (4, .int a4), (6, .int l6)]) : W p l e (gRm 1) s m args below meth c H locs 0 0 (MQ below (gQc 1 D cA ad st' (some (.int r))) args s 0 0 (gA 1 ad)) (F0 m 79 ls []) := by
  obtain ⟨hx, hb, hml, hown, hts⟩ := id hC
  unfold fX11_allows_79 at hf
  refine lv_aload_n (pc := 79) hx hb dX11_allows_79 rfl (lv_at hl 0 rfl) ?_
  refine g_get (pc := 80) (v := .ref (ad 39)) hC hU hH gk1_0 g_cl11 69 (by decide) kf_X11_133 rfl dX11_allows_80 ?_
  refine lv_iload (pc := 83) hx hb dX11_allows_83 (lv_at hl 5 rfl) ?_
  obtain ⟨h79_1, hf⟩ := gc_s hf
  refine g_iald (pc := 85) hC hU hH gk1_39 gn1_39 h79_1 dX11_allows_85 ?_
  refine lv_iload_n (pc := 86) hx hb dX11_allows_86 rfl (lv_at hl 3 rfl) ?_
  refine lv_icmp_ne (tgt := 94) (pc := 87) hx hb dX11_allows_87 (by decide) (fun hc => ?_) (fun hc => ?_)
  · have hf := gif_n hc hf
    refine lv_iconst (v := 0) (pc := 94) hx hb dX11_allows_94 (by decide) ?_
    exact bX11_allows_95 hC hret hlk hU hk6 hf hH hS (lv_sub hl [0, 1, 2, 3, 4, 5] rfl)
  · have hf := gif_p hc hf
    refine lv_iconst (v := 1) (pc := 90) hx hb dX11_allows_90 (by decide) ?_
    refine lv_goto (tgt := 95) (pc := 91) hx hb dX11_allows_91 (by decide) ?_
    exact bX11_allows_95 hC hret hlk hU hk6 hf hH hS (lv_sub hl [0, 1, 2, 3, 4, 5] rfl)
def fX11_allows_6 (a1 : Int32) (a2 : Int32) (a3 : Int32) (a4 : Int32) (k6 : Int32 → Int32 → gS → Option (Int32 × gS)) (l5 : Int32) (l6 : Int32) (st : gS) : Option (Int32 × gS) :=
  if (st.1 0 73) ≤ l6 then (gc (gB l5) (some (l5, st))) else (if l5 = 0 then (gc (gB l5) (some (l5, st))) else (gc (gI l6 30) (if (st.1 37 l6.toNatClampNeg) = a1 then (gc (gI l6 30) (if (st.1 38 l6.toNatClampNeg) = a2 then (gc (gI l6 30) (if a4 < (st.1 40 l6.toNatClampNeg) then (k6 l5 (l6 + 1) st) else (gc (gI l6 30) (if (st.1 41 l6.toNatClampNeg) < 0 then (fX11_allows_79 a1 a2 a3 a4 k6 l6 st) else (gc (gI l6 30) (if a4 < (st.1 41 l6.toNatClampNeg) then (fX11_allows_79 a1 a2 a3 a4 k6 l6 st) else (k6 l5 (l6 + 1) st))))))) else (k6 l5 (l6 + 1) st))) else (k6 l5 (l6 + 1) st))))
set_option maxRecDepth 100000 in
set_option maxHeartbeats 4000000 in
theorem bX11_allows_6 {a1 : Int32} {a2 : Int32} {a3 : Int32} {a4 : Int32} (hC : CallFix p m c cX11_allows 7 s args lw_good RX11) (hret : meth.sig.returnType = (some .boolean)) (hlk : meth.locks = false) (hU : gU 1 D cA ad s)  {r : Int32} {st' : gS} {k6 : Int32 → Int32 → gS → Option (Int32 × gS)} (hk6 : ∀ {l5 : Int32} {l6 : Int32} {st : gS} {H : Heap} {locs : List Loc} {ls : Array Slot}, k6 l5 l6 st = some (r, st') → gP0 1 D cA ad st H → va_S (gA 1 ad) s.heap H locs → lv_has ls 7 [(0, .ref (ad 0)), (1, .int a1), (2, .int a2), (3, .int a3), (4, .int a4), (5, .int l5), (6, .int l6)] → W p l e (gRm 1) s m args below meth c H locs 0 0 (MQ below (gQc 1 D cA ad st' (some (.int r))) args s 0 0 (gA 1 ad)) (F0 m 6 ls [])) {l5 : Int32} {l6 : Int32} {st : gS} {H : Heap} {locs : List Loc} {ls : Array Slot} (hf : fX11_allows_6 a1 a2 a3 a4 k6 l5 l6 st = some (r, st')) (hH : gP0 1 D cA ad st H) (hS : va_S (gA 1 ad) s.heap H locs) (hl : lv_has ls 7 [(0, .ref (ad 0)), (1, .int a1), (2, .int a2), (3, .int a3), (4, .int a4), (5, .int l5), (6, .int l6)]) : W p l e (gRm 1) s m args below meth c H locs 0 0 (MQ below (gQc 1 D cA ad st' (some (.int r))) args s 0 0 (gA 1 ad)) (F0 m 6 ls []) := by
  obtain ⟨hx, hb, hml, hown, hts⟩ := id hC
  unfold fX11_allows_6 at hf
  refine lv_iload (pc := 6) hx hb dX11_allows_6 (lv_at hl 6 rfl) ?_
  refine lv_aload_n (pc := 8) hx hb dX11_allows_8 rfl (lv_at hl 0 rfl) ?_
  refine g_get (pc := 9) (v := .int (st.1 0 73)) hC hU hH gk1_0 g_cl11 73 (by decide) kf_X11_410 rfl dX11_allows_9 ?_
  refine lv_icmp_ge (tgt := 118) (pc := 12) hx hb dX11_allows_12 (by decide) (fun hc => ?_) (fun hc => ?_)
  · have hf := gif_p hc hf
    refine lv_iload (pc := 118) hx hb dX11_allows_118 (lv_at hl 5 rfl) ?_
    obtain ⟨h6_1, hf⟩ := gc_s hf
    exact g_zret (pc := 120) hC hret hlk hH hS h6_1 hf dX11_allows_120
  · have hf := gif_n hc hf
    refine lv_iload (pc := 15) hx hb dX11_allows_15 (lv_at hl 5 rfl) ?_
    refine lv_if_eq (tgt := 118) (pc := 17) hx hb dX11_allows_17 (by decide) (fun hc => ?_) (fun hc => ?_)
    · have hf := gif_p hc hf
      refine lv_iload (pc := 118) hx hb dX11_allows_118 (lv_at hl 5 rfl) ?_
      obtain ⟨h6_2, hf⟩ := gc_s hf
      exact g_zret (pc := 120) hC hret hlk hH hS h6_2 hf dX11_allows_120
    · have hf := gif_n hc hf
      refine lv_aload_n (pc := 20) hx hb dX11_allows_20 rfl (lv_at hl 0 rfl) ?_
      refine g_get (pc := 21) (v := .ref (ad 37)) hC hU hH gk1_0 g_cl11 67 (by decide) kf_X11_127 rfl dX11_allows_21 ?_
      refine lv_iload (pc := 24) hx hb dX11_allows_24 (lv_at hl 6 rfl) ?_
      obtain ⟨h6_3, hf⟩ := gc_s hf
      refine g_iald (pc := 26) hC hU hH gk1_37 gn1_37 h6_3 dX11_allows_26 ?_
      refine lv_iload_n (pc := 27) hx hb dX11_allows_27 rfl (lv_at hl 1 rfl) ?_
      refine lv_icmp_ne (tgt := 112) (pc := 28) hx hb dX11_allows_28 (by decide) (fun hc => ?_) (fun hc => ?_)
      · have hf := gif_n hc hf
        refine lv_iinc (v := l6 + 1) (lv' := [(6, .int (l6 + 1)), (0, .ref (ad 0)), (1, .int a1), (2, .int a2), (3, .int a3), (4, .int a4), (5, .int l5)]) (k := 6) (pc := 112) hx hb dX11_allows_112 hl rfl rfl (by decide) rfl (fun ls hl => ?_)
        refine lv_goto (tgt := 6) (pc := 115) hx hb dX11_allows_115 (by decide) ?_
        exact hk6 hf hH hS (lv_sub hl [1, 2, 3, 4, 5, 6, 0] rfl)
      · have hf := gif_p hc hf
        refine lv_aload_n (pc := 31) hx hb dX11_allows_31 rfl (lv_at hl 0 rfl) ?_
        refine g_get (pc := 32) (v := .ref (ad 38)) hC hU hH gk1_0 g_cl11 68 (by decide) kf_X11_130 rfl dX11_allows_32 ?_
        refine lv_iload (pc := 35) hx hb dX11_allows_35 (lv_at hl 6 rfl) ?_
        obtain ⟨h6_4, hf⟩ := gc_s hf
        refine g_iald (pc := 37) hC hU hH gk1_38 gn1_38 h6_4 dX11_allows_37 ?_
        refine lv_iload_n (pc := 38) hx hb dX11_allows_38 rfl (lv_at hl 2 rfl) ?_
        refine lv_icmp_ne (tgt := 112) (pc := 39) hx hb dX11_allows_39 (by decide) (fun hc => ?_) (fun hc => ?_)
        · have hf := gif_n hc hf
          refine lv_iinc (v := l6 + 1) (lv' := [(6, .int (l6 + 1)), (0, .ref (ad 0)), (1, .int a1), (2, .int a2), (3, .int a3), (4, .int a4), (5, .int l5)]) (k := 6) (pc := 112) hx hb dX11_allows_112 hl rfl rfl (by decide) rfl (fun ls hl => ?_)
          refine lv_goto (tgt := 6) (pc := 115) hx hb dX11_allows_115 (by decide) ?_
          exact hk6 hf hH hS (lv_sub hl [1, 2, 3, 4, 5, 6, 0] rfl)
        · have hf := gif_p hc hf
          refine lv_aload_n (pc := 42) hx hb dX11_allows_42 rfl (lv_at hl 0 rfl) ?_
          refine g_get (pc := 43) (v := .ref (ad 40)) hC hU hH gk1_0 g_cl11 70 (by decide) kf_X11_136 rfl dX11_allows_43 ?_
          refine lv_iload (pc := 46) hx hb dX11_allows_46 (lv_at hl 6 rfl) ?_
          obtain ⟨h6_5, hf⟩ := gc_s hf
          refine g_iald (pc := 48) hC hU hH gk1_40 gn1_40 h6_5 dX11_allows_48 ?_
          refine lv_iload (pc := 49) hx hb dX11_allows_49 (lv_at hl 4 rfl) ?_
          refine lv_icmp_gt (tgt := 112) (pc := 51) hx hb dX11_allows_51 (by decide) (fun hc => ?_) (fun hc => ?_)
          · have hf := gif_p hc hf
            refine lv_iinc (v := l6 + 1) (lv' := [(6, .int (l6 + 1)), (0, .ref (ad 0)), (1, .int a1), (2, .int a2), (3, .int a3), (4, .int a4), (5, .int l5)]) (k := 6) (pc := 112) hx hb dX11_allows_112 hl rfl rfl (by decide) rfl (fun ls hl => ?_)
            refine lv_goto (tgt := 6) (pc := 115) hx hb dX11_allows_115 (by decide) ?_
            exact hk6 hf hH hS (lv_sub hl [1, 2, 3, 4, 5, 6, 0] rfl)
          · have hf := gif_n hc hf
            refine lv_aload_n (pc := 54) hx hb dX11_allows_54 rfl (lv_at hl 0 rfl) ?_
            refine g_get (pc := 55) (v := .ref (ad 41)) hC hU hH gk1_0 g_cl11 71 (by decide) kf_X11_139 rfl dX11_allows_55 ?_
            refine lv_iload (pc := 58) hx hb dX11_allows_58 (lv_at hl 6 rfl) ?_
            obtain ⟨h6_6, hf⟩ := gc_s hf
            refine g_iald (pc := 60) hC hU hH gk1_41 gn1_41 h6_6 dX11_allows_60 ?_
            refine lv_if_lt (tgt := 79) (pc := 61) hx hb dX11_allows_61 (by decide) (fun hc => ?_) (fun hc => ?_)
            · have hf := gif_p hc hf
              exact bX11_allows_79 hC hret hlk hU hk6 hf hH hS (lv_sub hl [0, 1, 2, 3, 4, 6] rfl)
            · have hf := gif_n hc hf
              refine lv_aload_n (pc := 64) hx hb dX11_allows_64 rfl (lv_at hl 0 rfl) ?_
              refine g_get (pc := 65) (v := .ref (ad 41)) hC hU hH gk1_0 g_cl11 71 (by decide) kf_X11_139 rfl dX11_allows_65 ?_
              refine lv_iload (pc := 68) hx hb dX11_allows_68 (lv_at hl 6 rfl) ?_
              obtain ⟨h6_7, hf⟩ := gc_s hf
              refine g_iald (pc := 70) hC hU hH gk1_41 gn1_41 h6_7 dX11_allows_70 ?_
              refine lv_iload (pc := 71) hx hb dX11_allows_71 (lv_at hl 4 rfl) ?_
              refine lv_icmp_gt (tgt := 79) (pc := 73) hx hb dX11_allows_73 (by decide) (fun hc => ?_) (fun hc => ?_)
              · have hf := gif_p hc hf
                exact bX11_allows_79 hC hret hlk hU hk6 hf hH hS (lv_sub hl [0, 1, 2, 3, 4, 6] rfl)
              · have hf := gif_n hc hf
                refine lv_goto (tgt := 112) (pc := 76) hx hb dX11_allows_76 (by decide) ?_
                refine lv_iinc (v := l6 + 1) (lv' := [(6, .int (l6 + 1)), (0, .ref (ad 0)), (1, .int a1), (2, .int a2), (3, .int a3), (4, .int a4), (5, .int l5)]) (k := 6) (pc := 112) hx hb dX11_allows_112 hl rfl rfl (by decide) rfl (fun ls hl => ?_)
                refine lv_goto (tgt := 6) (pc := 115) hx hb dX11_allows_115 (by decide) ?_
                exact hk6 hf hH hS (lv_sub hl [1, 2, 3, 4, 5, 6, 0] rfl)
def hX11_allows_6 (a1 : Int32) (a2 : Int32) (a3 : Int32) (a4 : Int32)  : Nat → Int32 → Int32 → gS → Option (Int32 × gS)
  | 0 => fun _ _ _ => none
  | n + 1 => fun l5 l6 st => fX11_allows_6 a1 a2 a3 a4 (hX11_allows_6 a1 a2 a3 a4 n) l5 l6 st
set_option maxRecDepth 100000 in
set_option maxHeartbeats 4000000 in
theorem wX11_allows_6 {a1 : Int32} {a2 : Int32} {a3 : Int32} {a4 : Int32} (hC : CallFix p m c cX11_allows 7 s args lw_good RX11) (hret : meth.sig.returnType = (some .boolean)) (hlk : meth.locks = false) (hU : gU 1 D cA ad s)  {r : Int32} {st' : gS}  : ∀ (n : Nat) {l5 : Int32} {l6 : Int32} {st : gS} {H : Heap} {locs : List Loc} {ls : Array Slot}, hX11_allows_6 a1 a2 a3 a4 n l5 l6 st = some (r, st') → gP0 1 D cA ad st H → va_S (gA 1 ad) s.heap H locs → lv_has ls 7 [(0, .ref (ad 0)), (1, .int a1), (2, .int a2), (3, .int a3), (4, .int a4), (5, .int l5), (6, .int l6)] → W p l e (gRm 1) s m args below meth c H locs 0 0 (MQ below (gQc 1 D cA ad st' (some (.int r))) args s 0 0 (gA 1 ad)) (F0 m 6 ls []) := by
  intro n
  induction n with
  | zero => intro l5 l6 st H locs ls hf hH hS hl; cases hf
  | succ n ih =>
    intro l5 l6 st H locs ls hf hH hS hl
    exact bX11_allows_6 (a1 := a1) (a2 := a2) (a3 := a3) (a4 := a4) hC hret hlk hU (fun hf hH hS hl => ih hf hH hS hl) hf hH hS hl
def fX11_allows (a1 : Int32) (a2 : Int32) (a3 : Int32) (a4 : Int32)   (st : gS) : Option (Int32 × gS) :=
  hX11_allows_6 a1 a2 a3 a4 FU 1 0 st
set_option maxRecDepth 100000 in
set_option maxHeartbeats 4000000 in
theorem bX11_allows_0 {a1 : Int32} {a2 : Int32} {a3 : Int32} {a4 : Int32} (hC : CallFix p m c cX11_allows 7 s args lw_good RX11) (hret : meth.sig.returnType = (some .boolean)) (hlk : meth.locks = false) (hU : gU 1 D cA ad s)  {r : Int32} {st' : gS}   {st : gS} {H : Heap} {locs : List Loc} {ls : Array Slot} (hf : fX11_allows a1 a2 a3 a4 st = some (r, st')) (hH : gP0 1 D cA ad st H) (hS : va_S (gA 1 ad) s.heap H locs) (hl : lv_has ls 7 [(0, .ref (ad 0)), (1, .int a1), (2, .int a2), (3, .int a3), (4, .int a4)]) : W p l e (gRm 1) s m args below meth c H locs 0 0 (MQ below (gQc 1 D cA ad st' (some (.int r))) args s 0 0 (gA 1 ad)) (F0 m 0 ls []) := by
  obtain ⟨hx, hb, hml, hown, hts⟩ := id hC
  unfold fX11_allows at hf
  refine lv_iconst (v := 1) (pc := 0) hx hb dX11_allows_0 (by decide) ?_
  refine lv_istore (lv' := [(5, .int 1), (0, .ref (ad 0)), (1, .int a1), (2, .int a2), (3, .int a3), (4, .int a4)]) (pc := 1) hx hb dX11_allows_1 hl (by decide) rfl (fun ls hl => ?_)
  refine lv_iconst (v := 0) (pc := 3) hx hb dX11_allows_3 (by decide) ?_
  refine lv_istore (lv' := [(6, .int 0), (5, .int 1), (0, .ref (ad 0)), (1, .int a1), (2, .int a2), (3, .int a3), (4, .int a4)]) (pc := 4) hx hb dX11_allows_4 hl (by decide) rfl (fun ls hl => ?_)
  exact wX11_allows_6 hC hret hlk hU FU hf hH hS (lv_sub hl [2, 3, 4, 5, 6, 1, 0] rfl)
set_option maxRecDepth 100000 in
set_option maxHeartbeats 4000000 in
theorem mX11_allows {l : Launch} {D : va_G} {cA : Nat → ClassId} {ad : Nat → Nat} {a1 : Int32} {a2 : Int32} {a3 : Int32} {a4 : Int32}  {r : Int32} {st st' : gS} (hf : fX11_allows a1 a2 a3 a4 st = some (r, st')) : gM l yX11_allows cX11_allows 7 (some .boolean) 1 1 D cA ad st [.ref (ad 0), .int a1, .int a2, .int a3, .int a4] (some (.int r)) st' := by
  refine g_met (by decide) (Nat.le_of_ble_eq_true rfl) ?_
  intro p e s m args below meth c ls hC hret hlk hU hH hl
  exact bX11_allows_0 hC hret hlk hU hf hH va_S.rf hl
def fX11_layRows_202 (a1 : Int32) (k196 : Int32 → gS → Option (Int32 × gS)) (k202 : Int32 → Int32 → gS → Option (Int32 × gS)) (l2 : Int32) (l3 : Int32) (st : gS) : Option (Int32 × gS) :=
  if (st.1 0 50) ≤ l3 then (k196 (l2 + (-1)) st) else (gc (gI l3 16) ((fX11_allows 1 l2 (st.1 23 l3.toNatClampNeg) a1 st).bind fun q202_1 => (if q202_1.1 = 0 then (k202 l2 (l3 + 1) q202_1.2) else (gc (gI l3 16) ((fX11_allows 0 (l2 - 1) (q202_1.2.1 21 l3.toNatClampNeg) a1 q202_1.2).bind fun q202_2 => (if q202_2.1 = 0 then (k202 l2 (l3 + 1) q202_2.2) else (gc (gI l3 16) (gc (gI ((8 * (l2 - 1)) + (q202_2.2.1 21 l3.toNatClampNeg)) 56) (gc (gI l3 16) (gc (gI ((8 * l2) + (q202_2.2.1 22 l3.toNatClampNeg)) 56) (gc (gI ((8 * (l2 - 1)) + (q202_2.2.1 21 l3.toNatClampNeg)) 56) (k202 l2 (l3 + 1) (wi q202_2.2 44 ((8 * (l2 - 1)) + (q202_2.2.1 21 l3.toNatClampNeg)).toNatClampNeg ((q202_2.2.1 44 ((8 * (l2 - 1)) + (q202_2.2.1 21 l3.toNatClampNeg)).toNatClampNeg) + (q202_2.2.1 44 ((8 * l2) + (q202_2.2.1 22 l3.toNatClampNeg)).toNatClampNeg)))))))))))))))
set_option maxRecDepth 100000 in
set_option maxHeartbeats 4000000 in
theorem bX11_layRows_202 {a1 : Int32} (hC : CallFix p m c cX11_layRows 4 s args lw_good RX11) (hret : meth.sig.returnType = (some .int)) (hlk : meth.locks = false) (hU : gU 1 D cA ad s)  {r : Int32} {st' : gS} {k196 : Int32 → gS → Option (Int32 × gS)} (hk196 : ∀ {l2 : Int32} {st : gS} {H : Heap} {locs : List Loc} {ls : Array Slot}, k196 l2 st = some (r, st') → gP0 1 D cA ad st H → va_S (gA 1 ad) s.heap H locs → lv_has ls 4 [(0, .ref (ad 0)), (1, .int a1), (2, .int l2)] → W p l e (gRm 2) s m args below meth c H locs 0 0 (MQ below (gQc 1 D cA ad st' (some (.int r))) args s 0 0 (gA 1 ad)) (F0 m 196 ls [])) {k202 : Int32 → Int32 → gS → Option (Int32 × gS)} (hk202 : ∀ {l2 : Int32} {l3 : Int32} {st : gS} {H : Heap} {locs : List Loc} {ls : Array Slot}, k202 l2 l3 st = some (r, st') → gP0 1 D cA ad st H → va_S (gA 1 ad) s.heap H locs → lv_has ls 4 [(0, .ref (ad 0)), (1, .int a1), (2, .int l2), (3, .int l3)] → W p l e (gRm 2) s m args below meth c H locs 0 0 (MQ below (gQc 1 D cA ad st' (some (.int r))) args s 0 0 (gA 1 ad)) (F0 m 202 ls [])) {l2 : Int32} {l3 : Int32} {st : gS} {H : Heap} {locs : List Loc} {ls : Array Slot} (hf : fX11_layRows_202 a1 k196 k202 l2 l3 st = some (r, st')) (hH : gP0 1 D cA ad st H) (hS : va_S (gA 1 ad) s.heap H locs) (hl : lv_has ls 4 [(0, .ref (ad 0)), (1, .int a1), (2, .int l2), (3, .int l3)]) : W p l e (gRm 2) s m args below meth c H locs 0 0 (MQ below (gQc 1 D cA ad st' (some (.int r))) args s 0 0 (gA 1 ad)) (F0 m 202 ls []) := by
  obtain ⟨hx, hb, hml, hown, hts⟩ := id hC
  unfold fX11_layRows_202 at hf
  refine lv_iload_n (pc := 202) hx hb dX11_layRows_202 rfl (lv_at hl 3 rfl) ?_
  refine lv_aload_n (pc := 203) hx hb dX11_layRows_203 rfl (lv_at hl 0 rfl) ?_
  refine g_get (pc := 204) (v := .int (st.1 0 50)) hC hU hH gk1_0 g_cl11 50 (by decide) kf_X11_398 rfl dX11_layRows_204 ?_
  refine lv_icmp_ge (tgt := 290) (pc := 207) hx hb dX11_layRows_207 (by decide) (fun hc => ?_) (fun hc => ?_)
  · have hf := gif_p hc hf
    refine lv_iinc (v := l2 + (-1)) (lv' := [(2, .int (l2 + (-1))), (0, .ref (ad 0)), (1, .int a1), (3, .int l3)]) (k := 2) (pc := 290) hx hb dX11_layRows_290 hl rfl rfl (by decide) rfl (fun ls hl => ?_)
    refine lv_goto (tgt := 196) (pc := 293) hx hb dX11_layRows_293 (by decide) ?_
    exact hk196 hf hH hS (lv_sub hl [1, 2, 0] rfl)
  · have hf := gif_n hc hf
    refine lv_aload_n (pc := 210) hx hb dX11_layRows_210 rfl (lv_at hl 0 rfl) ?_
    refine lv_iconst (v := 1) (pc := 211) hx hb dX11_layRows_211 (by decide) ?_
    refine lv_iload_n (pc := 212) hx hb dX11_layRows_212 rfl (lv_at hl 2 rfl) ?_
    refine lv_aload_n (pc := 213) hx hb dX11_layRows_213 rfl (lv_at hl 0 rfl) ?_
    refine g_get (pc := 214) (v := .ref (ad 23)) hC hU hH gk1_0 g_cl11 38 (by decide) kf_X11_81 rfl dX11_layRows_214 ?_
    refine lv_iload_n (pc := 217) hx hb dX11_layRows_217 rfl (lv_at hl 3 rfl) ?_
    obtain ⟨h202_1, hf⟩ := gc_s hf
    refine g_iald (pc := 218) hC hU hH gk1_23 gn1_23 h202_1 dX11_layRows_218 ?_
    refine lv_iload_n (pc := 219) hx hb dX11_layRows_219 rfl (lv_at hl 1 rfl) ?_
    obtain ⟨q202_1, hq202_1, hf⟩ := gbd hf
    refine g_callVi (pc := 220) (rest := []) hC hU hH hS hl.1 gk1_0 rfl (by decide) (mX11_allows  hq202_1) ky_X11_allows km_X11_519 ⟨Nat.le_of_ble_eq_true rfl, Nat.le_of_ble_eq_true rfl⟩ ⟨Nat.zero_le _, Nat.zero_le _⟩ rfl (Nat.le_of_ble_eq_true rfl) dX11_layRows_220 rfl (fun H locs hH hS => ?_)
    refine lv_if_eq (tgt := 284) (pc := 223) hx hb dX11_layRows_223 (by decide) (fun hc => ?_) (fun hc => ?_)
    · have hf := gif_p hc hf
      refine lv_iinc (v := l3 + 1) (lv' := [(3, .int (l3 + 1)), (0, .ref (ad 0)), (1, .int a1), (2, .int l2)]) (k := 3) (pc := 284) hx hb dX11_layRows_284 hl rfl rfl (by decide) rfl (fun ls hl => ?_)
      refine lv_goto (tgt := 202) (pc := 287) hx hb dX11_layRows_287 (by decide) ?_
      exact hk202 hf hH hS (lv_sub hl [1, 2, 3, 0] rfl)
    · have hf := gif_n hc hf
      refine lv_aload_n (pc := 226) hx hb dX11_layRows_226 rfl (lv_at hl 0 rfl) ?_
      refine lv_iconst (v := 0) (pc := 227) hx hb dX11_layRows_227 (by decide) ?_
      refine lv_iload_n (pc := 228) hx hb dX11_layRows_228 rfl (lv_at hl 2 rfl) ?_
      refine lv_iconst (v := 1) (pc := 229) hx hb dX11_layRows_229 (by decide) ?_
      refine lv_isub (pc := 230) hx hb dX11_layRows_230 ?_
      refine lv_aload_n (pc := 231) hx hb dX11_layRows_231 rfl (lv_at hl 0 rfl) ?_
      refine g_get (pc := 232) (v := .ref (ad 21)) hC hU hH gk1_0 g_cl11 36 (by decide) kf_X11_75 rfl dX11_layRows_232 ?_
      refine lv_iload_n (pc := 235) hx hb dX11_layRows_235 rfl (lv_at hl 3 rfl) ?_
      obtain ⟨h202_2, hf⟩ := gc_s hf
      refine g_iald (pc := 236) hC hU hH gk1_21 gn1_21 h202_2 dX11_layRows_236 ?_
      refine lv_iload_n (pc := 237) hx hb dX11_layRows_237 rfl (lv_at hl 1 rfl) ?_
      obtain ⟨q202_2, hq202_2, hf⟩ := gbd hf
      refine g_callVi (pc := 238) (rest := []) hC hU hH hS hl.1 gk1_0 rfl (by decide) (mX11_allows  hq202_2) ky_X11_allows km_X11_519 ⟨Nat.le_of_ble_eq_true rfl, Nat.le_of_ble_eq_true rfl⟩ ⟨Nat.zero_le _, Nat.zero_le _⟩ rfl (Nat.le_of_ble_eq_true rfl) dX11_layRows_238 rfl (fun H locs hH hS => ?_)
      refine lv_if_ne (tgt := 247) (pc := 241) hx hb dX11_layRows_241 (by decide) (fun hc => ?_) (fun hc => ?_)
      · have hf := gif_n hc hf
        refine lv_aload_n (pc := 247) hx hb dX11_layRows_247 rfl (lv_at hl 0 rfl) ?_
        refine g_get (pc := 248) (v := .ref (ad 44)) hC hU hH gk1_0 g_cl11 76 (by decide) kf_X11_148 rfl dX11_layRows_248 ?_
        refine lv_bipush (v := 8) (pc := 251) hx hb dX11_layRows_251 (by decide) ?_
        refine lv_iload_n (pc := 253) hx hb dX11_layRows_253 rfl (lv_at hl 2 rfl) ?_
        refine lv_iconst (v := 1) (pc := 254) hx hb dX11_layRows_254 (by decide) ?_
        refine lv_isub (pc := 255) hx hb dX11_layRows_255 ?_
        refine lv_imul (pc := 256) hx hb dX11_layRows_256 ?_
        refine lv_aload_n (pc := 257) hx hb dX11_layRows_257 rfl (lv_at hl 0 rfl) ?_
        refine g_get (pc := 258) (v := .ref (ad 21)) hC hU hH gk1_0 g_cl11 36 (by decide) kf_X11_75 rfl dX11_layRows_258 ?_
        refine lv_iload_n (pc := 261) hx hb dX11_layRows_261 rfl (lv_at hl 3 rfl) ?_
        obtain ⟨h202_3, hf⟩ := gc_s hf
        refine g_iald (pc := 262) hC hU hH gk1_21 gn1_21 h202_3 dX11_layRows_262 ?_
        refine lv_iadd (pc := 263) hx hb dX11_layRows_263 ?_
        refine lv_dup2_11 (pc := 264) hx hb dX11_layRows_264 rfl rfl ?_
        obtain ⟨h202_4, hf⟩ := gc_s hf
        refine g_iald (pc := 265) hC hU hH gk1_44 gn1_44 h202_4 dX11_layRows_265 ?_
        refine lv_aload_n (pc := 266) hx hb dX11_layRows_266 rfl (lv_at hl 0 rfl) ?_
        refine g_get (pc := 267) (v := .ref (ad 44)) hC hU hH gk1_0 g_cl11 76 (by decide) kf_X11_148 rfl dX11_layRows_267 ?_
        refine lv_bipush (v := 8) (pc := 270) hx hb dX11_layRows_270 (by decide) ?_
        refine lv_iload_n (pc := 272) hx hb dX11_layRows_272 rfl (lv_at hl 2 rfl) ?_
        refine lv_imul (pc := 273) hx hb dX11_layRows_273 ?_
        refine lv_aload_n (pc := 274) hx hb dX11_layRows_274 rfl (lv_at hl 0 rfl) ?_
        refine g_get (pc := 275) (v := .ref (ad 22)) hC hU hH gk1_0 g_cl11 37 (by decide) kf_X11_78 rfl dX11_layRows_275 ?_
        refine lv_iload_n (pc := 278) hx hb dX11_layRows_278 rfl (lv_at hl 3 rfl) ?_
        obtain ⟨h202_5, hf⟩ := gc_s hf
        refine g_iald (pc := 279) hC hU hH gk1_22 gn1_22 h202_5 dX11_layRows_279 ?_
        refine lv_iadd (pc := 280) hx hb dX11_layRows_280 ?_
        obtain ⟨h202_6, hf⟩ := gc_s hf
        refine g_iald (pc := 281) hC hU hH gk1_44 gn1_44 h202_6 dX11_layRows_281 ?_
        refine lv_iadd (pc := 282) hx hb dX11_layRows_282 ?_
        obtain ⟨h202_7, hf⟩ := gc_s hf
        refine g_iast (pc := 283) hC hU hH hS gk1_44 gn1_44 h202_7 dX11_layRows_283 (fun H locs hH hS => ?_)
        refine lv_iinc (v := l3 + 1) (lv' := [(3, .int (l3 + 1)), (0, .ref (ad 0)), (1, .int a1), (2, .int l2)]) (k := 3) (pc := 284) hx hb dX11_layRows_284 hl rfl rfl (by decide) rfl (fun ls hl => ?_)
        refine lv_goto (tgt := 202) (pc := 287) hx hb dX11_layRows_287 (by decide) ?_
        exact hk202 hf hH hS (lv_sub hl [1, 2, 3, 0] rfl)
      · have hf := gif_p hc hf
        refine lv_goto (tgt := 284) (pc := 244) hx hb dX11_layRows_244 (by decide) ?_
        refine lv_iinc (v := l3 + 1) (lv' := [(3, .int (l3 + 1)), (0, .ref (ad 0)), (1, .int a1), (2, .int l2)]) (k := 3) (pc := 284) hx hb dX11_layRows_284 hl rfl rfl (by decide) rfl (fun ls hl => ?_)
        refine lv_goto (tgt := 202) (pc := 287) hx hb dX11_layRows_287 (by decide) ?_
        exact hk202 hf hH hS (lv_sub hl [1, 2, 3, 0] rfl)
def hX11_layRows_202 (a1 : Int32) (k196 : Int32 → gS → Option (Int32 × gS)) : Nat → Int32 → Int32 → gS → Option (Int32 × gS)
  | 0 => fun _ _ _ => none
  | n + 1 => fun l2 l3 st => fX11_layRows_202 a1 k196 (hX11_layRows_202 a1 k196 n) l2 l3 st
set_option maxRecDepth 100000 in
set_option maxHeartbeats 4000000 in
theorem wX11_layRows_202 {a1 : Int32} (hC : CallFix p m c cX11_layRows 4 s args lw_good RX11) (hret : meth.sig.returnType = (some .int)) (hlk : meth.locks = false) (hU : gU 1 D cA ad s)  {r : Int32} {st' : gS} {k196 : Int32 → gS → Option (Int32 × gS)} (hk196 : ∀ {l2 : Int32} {st : gS} {H : Heap} {locs : List Loc} {ls : Array Slot}, k196 l2 st = some (r, st') → gP0 1 D cA ad st H → va_S (gA 1 ad) s.heap H locs → lv_has ls 4 [(0, .ref (ad 0)), (1, .int a1), (2, .int l2)] → W p l e (gRm 2) s m args below meth c H locs 0 0 (MQ below (gQc 1 D cA ad st' (some (.int r))) args s 0 0 (gA 1 ad)) (F0 m 196 ls [])) : ∀ (n : Nat) {l2 : Int32} {l3 : Int32} {st : gS} {H : Heap} {locs : List Loc} {ls : Array Slot}, hX11_layRows_202 a1 k196 n l2 l3 st = some (r, st') → gP0 1 D cA ad st H → va_S (gA 1 ad) s.heap H locs → lv_has ls 4 [(0, .ref (ad 0)), (1, .int a1), (2, .int l2), (3, .int l3)] → W p l e (gRm 2) s m args below meth c H locs 0 0 (MQ below (gQc 1 D cA ad st' (some (.int r))) args s 0 0 (gA 1 ad)) (F0 m 202 ls []) := by
  intro n
  induction n with
  | zero => intro l2 l3 st H locs ls hf hH hS hl; cases hf
  | succ n ih =>
    intro l2 l3 st H locs ls hf hH hS hl
    exact bX11_layRows_202 (a1 := a1) hC hret hlk hU hk196 (fun hf hH hS hl => ih hf hH hS hl) hf hH hS hl
def fX11_layRows_196 (a1 : Int32) (k196 : Int32 → gS → Option (Int32 × gS)) (l2 : Int32) (st : gS) : Option (Int32 × gS) :=
  if l2 ≤ 0 then (gc (gI 0 56) (if (st.1 43 (0 : Int32).toNatClampNeg) = 0 then (some (0, st)) else (gc (gI 0 56) (some (st.1 44 (0 : Int32).toNatClampNeg, st))))) else (hX11_layRows_202 a1 k196 FU l2 0 st)
set_option maxRecDepth 100000 in
set_option maxHeartbeats 4000000 in
theorem bX11_layRows_196 {a1 : Int32} (hC : CallFix p m c cX11_layRows 4 s args lw_good RX11) (hret : meth.sig.returnType = (some .int)) (hlk : meth.locks = false) (hU : gU 1 D cA ad s)  {r : Int32} {st' : gS} {k196 : Int32 → gS → Option (Int32 × gS)} (hk196 : ∀ {l2 : Int32} {st : gS} {H : Heap} {locs : List Loc} {ls : Array Slot}, k196 l2 st = some (r, st') → gP0 1 D cA ad st H → va_S (gA 1 ad) s.heap H locs → lv_has ls 4 [(0, .ref (ad 0)), (1, .int a1), (2, .int l2)] → W p l e (gRm 2) s m args below meth c H locs 0 0 (MQ below (gQc 1 D cA ad st' (some (.int r))) args s 0 0 (gA 1 ad)) (F0 m 196 ls [])) {l2 : Int32} {st : gS} {H : Heap} {locs : List Loc} {ls : Array Slot} (hf : fX11_layRows_196 a1 k196 l2 st = some (r, st')) (hH : gP0 1 D cA ad st H) (hS : va_S (gA 1 ad) s.heap H locs) (hl : lv_has ls 4 [(0, .ref (ad 0)), (1, .int a1), (2, .int l2)]) : W p l e (gRm 2) s m args below meth c H locs 0 0 (MQ below (gQc 1 D cA ad st' (some (.int r))) args s 0 0 (gA 1 ad)) (F0 m 196 ls []) := by
  obtain ⟨hx, hb, hml, hown, hts⟩ := id hC
  unfold fX11_layRows_196 at hf
  refine lv_iload_n (pc := 196) hx hb dX11_layRows_196 rfl (lv_at hl 2 rfl) ?_
  refine lv_if_le (tgt := 296) (pc := 197) hx hb dX11_layRows_197 (by decide) (fun hc => ?_) (fun hc => ?_)
  · have hf := gif_p hc hf
    refine lv_aload_n (pc := 296) hx hb dX11_layRows_296 rfl (lv_at hl 0 rfl) ?_
    refine g_get (pc := 297) (v := .ref (ad 43)) hC hU hH gk1_0 g_cl11 75 (by decide) kf_X11_145 rfl dX11_layRows_297 ?_
    refine lv_iconst (v := 0) (pc := 300) hx hb dX11_layRows_300 (by decide) ?_
    obtain ⟨h196_1, hf⟩ := gc_s hf
    refine g_iald (pc := 301) hC hU hH gk1_43 gn1_43 h196_1 dX11_layRows_301 ?_
    refine lv_if_ne (tgt := 309) (pc := 302) hx hb dX11_layRows_302 (by decide) (fun hc => ?_) (fun hc => ?_)
    · have hf := gif_n hc hf
      refine lv_aload_n (pc := 309) hx hb dX11_layRows_309 rfl (lv_at hl 0 rfl) ?_
      refine g_get (pc := 310) (v := .ref (ad 44)) hC hU hH gk1_0 g_cl11 76 (by decide) kf_X11_148 rfl dX11_layRows_310 ?_
      refine lv_iconst (v := 0) (pc := 313) hx hb dX11_layRows_313 (by decide) ?_
      obtain ⟨h196_2, hf⟩ := gc_s hf
      refine g_iald (pc := 314) hC hU hH gk1_44 gn1_44 h196_2 dX11_layRows_314 ?_
      exact g_iret (pc := 315) hC hret hlk hH hS hf dX11_layRows_315
    · have hf := gif_p hc hf
      refine lv_iconst (v := 0) (pc := 305) hx hb dX11_layRows_305 (by decide) ?_
      refine lv_goto (tgt := 315) (pc := 306) hx hb dX11_layRows_306 (by decide) ?_
      exact g_iret (pc := 315) hC hret hlk hH hS hf dX11_layRows_315
  · have hf := gif_n hc hf
    refine lv_iconst (v := 0) (pc := 200) hx hb dX11_layRows_200 (by decide) ?_
    refine lv_istore_n (lv' := [(3, .int 0), (0, .ref (ad 0)), (1, .int a1), (2, .int l2)]) (pc := 201) hx hb dX11_layRows_201 rfl hl (by decide) rfl (fun ls hl => ?_)
    exact wX11_layRows_202 hC hret hlk hU hk196 FU hf hH hS (lv_sub hl [1, 2, 3, 0] rfl)
def hX11_layRows_196 (a1 : Int32)  : Nat → Int32 → gS → Option (Int32 × gS)
  | 0 => fun _ _ => none
  | n + 1 => fun l2 st => fX11_layRows_196 a1 (hX11_layRows_196 a1 n) l2 st
set_option maxRecDepth 100000 in
set_option maxHeartbeats 4000000 in
theorem wX11_layRows_196 {a1 : Int32} (hC : CallFix p m c cX11_layRows 4 s args lw_good RX11) (hret : meth.sig.returnType = (some .int)) (hlk : meth.locks = false) (hU : gU 1 D cA ad s)  {r : Int32} {st' : gS}  : ∀ (n : Nat) {l2 : Int32} {st : gS} {H : Heap} {locs : List Loc} {ls : Array Slot}, hX11_layRows_196 a1 n l2 st = some (r, st') → gP0 1 D cA ad st H → va_S (gA 1 ad) s.heap H locs → lv_has ls 4 [(0, .ref (ad 0)), (1, .int a1), (2, .int l2)] → W p l e (gRm 2) s m args below meth c H locs 0 0 (MQ below (gQc 1 D cA ad st' (some (.int r))) args s 0 0 (gA 1 ad)) (F0 m 196 ls []) := by
  intro n
  induction n with
  | zero => intro l2 st H locs ls hf hH hS hl; cases hf
  | succ n ih =>
    intro l2 st H locs ls hf hH hS hl
    exact bX11_layRows_196 (a1 := a1) hC hret hlk hU (fun hf hH hS hl => ih hf hH hS hl) hf hH hS hl
def fX11_layRows_158 (a1 : Int32) (k158 : Int32 → gS → Option (Int32 × gS)) (l2 : Int32) (st : gS) : Option (Int32 × gS) :=
  if (st.1 0 48) ≤ l2 then (hX11_layRows_196 a1 FU 6 st) else ((fX11_allows 0 6 l2 a1 st).bind fun q158_1 => ((fX11_truth q158_1.1 q158_1.2).bind fun q158_2 => (gc (gI (48 + l2) 56) (k158 (l2 + 1) (wi q158_2.2 44 (48 + l2).toNatClampNeg q158_2.1)))))
set_option maxRecDepth 100000 in
set_option maxHeartbeats 4000000 in
theorem bX11_layRows_158 {a1 : Int32} (hC : CallFix p m c cX11_layRows 4 s args lw_good RX11) (hret : meth.sig.returnType = (some .int)) (hlk : meth.locks = false) (hU : gU 1 D cA ad s)  {r : Int32} {st' : gS} {k158 : Int32 → gS → Option (Int32 × gS)} (hk158 : ∀ {l2 : Int32} {st : gS} {H : Heap} {locs : List Loc} {ls : Array Slot}, k158 l2 st = some (r, st') → gP0 1 D cA ad st H → va_S (gA 1 ad) s.heap H locs → lv_has ls 4 [(0, .ref (ad 0)), (1, .int a1), (2, .int l2)] → W p l e (gRm 2) s m args below meth c H locs 0 0 (MQ below (gQc 1 D cA ad st' (some (.int r))) args s 0 0 (gA 1 ad)) (F0 m 158 ls [])) {l2 : Int32} {st : gS} {H : Heap} {locs : List Loc} {ls : Array Slot} (hf : fX11_layRows_158 a1 k158 l2 st = some (r, st')) (hH : gP0 1 D cA ad st H) (hS : va_S (gA 1 ad) s.heap H locs) (hl : lv_has ls 4 [(0, .ref (ad 0)), (1, .int a1), (2, .int l2)]) : W p l e (gRm 2) s m args below meth c H locs 0 0 (MQ below (gQc 1 D cA ad st' (some (.int r))) args s 0 0 (gA 1 ad)) (F0 m 158 ls []) := by
  obtain ⟨hx, hb, hml, hown, hts⟩ := id hC
  unfold fX11_layRows_158 at hf
  refine lv_iload_n (pc := 158) hx hb dX11_layRows_158 rfl (lv_at hl 2 rfl) ?_
  refine lv_aload_n (pc := 159) hx hb dX11_layRows_159 rfl (lv_at hl 0 rfl) ?_
  refine g_get (pc := 160) (v := .int (st.1 0 48)) hC hU hH gk1_0 g_cl11 48 (by decide) kf_X11_392 rfl dX11_layRows_160 ?_
  refine lv_icmp_ge (tgt := 193) (pc := 163) hx hb dX11_layRows_163 (by decide) (fun hc => ?_) (fun hc => ?_)
  · have hf := gif_p hc hf
    refine lv_bipush (v := 6) (pc := 193) hx hb dX11_layRows_193 (by decide) ?_
    refine lv_istore_n (lv' := [(2, .int 6), (0, .ref (ad 0)), (1, .int a1)]) (pc := 195) hx hb dX11_layRows_195 rfl hl (by decide) rfl (fun ls hl => ?_)
    exact wX11_layRows_196 hC hret hlk hU FU hf hH hS (lv_sub hl [1, 2, 0] rfl)
  · have hf := gif_n hc hf
    refine lv_aload_n (pc := 166) hx hb dX11_layRows_166 rfl (lv_at hl 0 rfl) ?_
    refine g_get (pc := 167) (v := .ref (ad 44)) hC hU hH gk1_0 g_cl11 76 (by decide) kf_X11_148 rfl dX11_layRows_167 ?_
    refine lv_bipush (v := 48) (pc := 170) hx hb dX11_layRows_170 (by decide) ?_
    refine lv_iload_n (pc := 172) hx hb dX11_layRows_172 rfl (lv_at hl 2 rfl) ?_
    refine lv_iadd (pc := 173) hx hb dX11_layRows_173 ?_
    refine lv_aload_n (pc := 174) hx hb dX11_layRows_174 rfl (lv_at hl 0 rfl) ?_
    refine lv_iconst (v := 0) (pc := 175) hx hb dX11_layRows_175 (by decide) ?_
    refine lv_bipush (v := 6) (pc := 176) hx hb dX11_layRows_176 (by decide) ?_
    refine lv_iload_n (pc := 178) hx hb dX11_layRows_178 rfl (lv_at hl 2 rfl) ?_
    refine lv_iload_n (pc := 179) hx hb dX11_layRows_179 rfl (lv_at hl 1 rfl) ?_
    obtain ⟨q158_1, hq158_1, hf⟩ := gbd hf
    refine g_callVi (pc := 180) (rest := [.int (48 + l2), .ref (ad 44)]) hC hU hH hS hl.1 gk1_0 rfl (by decide) (mX11_allows  hq158_1) ky_X11_allows km_X11_519 ⟨Nat.le_of_ble_eq_true rfl, Nat.le_of_ble_eq_true rfl⟩ ⟨Nat.zero_le _, Nat.zero_le _⟩ rfl (Nat.le_of_ble_eq_true rfl) dX11_layRows_180 rfl (fun H locs hH hS => ?_)
    obtain ⟨q158_2, hq158_2, hf⟩ := gbd hf
    refine g_callSi (pc := 183) (rest := [.int (48 + l2), .ref (ad 44)]) hC hU hH hS hl.1 (mX11_truth  hq158_2) ky_X11_truth km_X11_325 ⟨Nat.le_of_ble_eq_true rfl, Nat.le_of_ble_eq_true rfl⟩ ⟨Nat.zero_le _, Nat.zero_le _⟩ rfl (Nat.le_of_ble_eq_true rfl) dX11_layRows_183 rfl (fun H locs hH hS => ?_)
    obtain ⟨h158_1, hf⟩ := gc_s hf
    refine g_iast (pc := 186) hC hU hH hS gk1_44 gn1_44 h158_1 dX11_layRows_186 (fun H locs hH hS => ?_)
    refine lv_iinc (v := l2 + 1) (lv' := [(2, .int (l2 + 1)), (0, .ref (ad 0)), (1, .int a1)]) (k := 2) (pc := 187) hx hb dX11_layRows_187 hl rfl rfl (by decide) rfl (fun ls hl => ?_)
    refine lv_goto (tgt := 158) (pc := 190) hx hb dX11_layRows_190 (by decide) ?_
    exact hk158 hf hH hS (lv_sub hl [1, 2, 0] rfl)
def hX11_layRows_158 (a1 : Int32)  : Nat → Int32 → gS → Option (Int32 × gS)
  | 0 => fun _ _ => none
  | n + 1 => fun l2 st => fX11_layRows_158 a1 (hX11_layRows_158 a1 n) l2 st
set_option maxRecDepth 100000 in
set_option maxHeartbeats 4000000 in
theorem wX11_layRows_158 {a1 : Int32} (hC : CallFix p m c cX11_layRows 4 s args lw_good RX11) (hret : meth.sig.returnType = (some .int)) (hlk : meth.locks = false) (hU : gU 1 D cA ad s)  {r : Int32} {st' : gS}  : ∀ (n : Nat) {l2 : Int32} {st : gS} {H : Heap} {locs : List Loc} {ls : Array Slot}, hX11_layRows_158 a1 n l2 st = some (r, st') → gP0 1 D cA ad st H → va_S (gA 1 ad) s.heap H locs → lv_has ls 4 [(0, .ref (ad 0)), (1, .int a1), (2, .int l2)] → W p l e (gRm 2) s m args below meth c H locs 0 0 (MQ below (gQc 1 D cA ad st' (some (.int r))) args s 0 0 (gA 1 ad)) (F0 m 158 ls []) := by
  intro n
  induction n with
  | zero => intro l2 st H locs ls hf hH hS hl; cases hf
  | succ n ih =>
    intro l2 st H locs ls hf hH hS hl
    exact bX11_layRows_158 (a1 := a1) hC hret hlk hU (fun hf hH hS hl => ih hf hH hS hl) hf hH hS hl
def fX11_layRows_64 (a1 : Int32) (k56 : Int32 → gS → Option (Int32 × gS)) (k64 : Int32 → Int32 → gS → Option (Int32 × gS)) (l2 : Int32) (l3 : Int32) (st : gS) : Option (Int32 × gS) :=
  if (st.1 0 50) ≤ l3 then (k56 (l2 + 1) st) else (gc (gI l3 16) ((fX11_allows 1 l2 (st.1 23 l3.toNatClampNeg) a1 st).bind fun q64_1 => (if q64_1.1 = 0 then (k64 l2 (l3 + 1) q64_1.2) else (gc (gI l3 16) ((fX11_allows 0 l2 (q64_1.2.1 22 l3.toNatClampNeg) a1 q64_1.2).bind fun q64_2 => (if q64_2.1 = 0 then (k64 l2 (l3 + 1) q64_2.2) else (gc (gI l3 16) (gc (gI ((8 * l2) + (q64_2.2.1 22 l3.toNatClampNeg)) 56) (gc (gI l3 16) (gc (gI ((8 * (l2 - 1)) + (q64_2.2.1 21 l3.toNatClampNeg)) 56) (gc (gI ((8 * l2) + (q64_2.2.1 22 l3.toNatClampNeg)) 56) (k64 l2 (l3 + 1) (wi q64_2.2 43 ((8 * l2) + (q64_2.2.1 22 l3.toNatClampNeg)).toNatClampNeg ((q64_2.2.1 43 ((8 * l2) + (q64_2.2.1 22 l3.toNatClampNeg)).toNatClampNeg) + (q64_2.2.1 43 ((8 * (l2 - 1)) + (q64_2.2.1 21 l3.toNatClampNeg)).toNatClampNeg)))))))))))))))
set_option maxRecDepth 100000 in
set_option maxHeartbeats 4000000 in
theorem bX11_layRows_64 {a1 : Int32} (hC : CallFix p m c cX11_layRows 4 s args lw_good RX11) (hret : meth.sig.returnType = (some .int)) (hlk : meth.locks = false) (hU : gU 1 D cA ad s)  {r : Int32} {st' : gS} {k56 : Int32 → gS → Option (Int32 × gS)} (hk56 : ∀ {l2 : Int32} {st : gS} {H : Heap} {locs : List Loc} {ls : Array Slot}, k56 l2 st = some (r, st') → gP0 1 D cA ad st H → va_S (gA 1 ad) s.heap H locs → lv_has ls 4 [(0, .ref (ad 0)), (1, .int a1), (2, .int l2)] → W p l e (gRm 2) s m args below meth c H locs 0 0 (MQ below (gQc 1 D cA ad st' (some (.int r))) args s 0 0 (gA 1 ad)) (F0 m 56 ls [])) {k64 : Int32 → Int32 → gS → Option (Int32 × gS)} (hk64 : ∀ {l2 : Int32} {l3 : Int32} {st : gS} {H : Heap} {locs : List Loc} {ls : Array Slot}, k64 l2 l3 st = some (r, st') → gP0 1 D cA ad st H → va_S (gA 1 ad) s.heap H locs → lv_has ls 4 [(0, .ref (ad 0)), (1, .int a1), (2, .int l2), (3, .int l3)] → W p l e (gRm 2) s m args below meth c H locs 0 0 (MQ below (gQc 1 D cA ad st' (some (.int r))) args s 0 0 (gA 1 ad)) (F0 m 64 ls [])) {l2 : Int32} {l3 : Int32} {st : gS} {H : Heap} {locs : List Loc} {ls : Array Slot} (hf : fX11_layRows_64 a1 k56 k64 l2 l3 st = some (r, st')) (hH : gP0 1 D cA ad st H) (hS : va_S (gA 1 ad) s.heap H locs) (hl : lv_has ls 4 [(0, .ref (ad 0)), (1, .int a1), (2, .int l2), (3, .int l3)]) : W p l e (gRm 2) s m args below meth c H locs 0 0 (MQ below (gQc 1 D cA ad st' (some (.int r))) args s 0 0 (gA 1 ad)) (F0 m 64 ls []) := by
  obtain ⟨hx, hb, hml, hown, hts⟩ := id hC
  unfold fX11_layRows_64 at hf
  refine lv_iload_n (pc := 64) hx hb dX11_layRows_64 rfl (lv_at hl 3 rfl) ?_
  refine lv_aload_n (pc := 65) hx hb dX11_layRows_65 rfl (lv_at hl 0 rfl) ?_
  refine g_get (pc := 66) (v := .int (st.1 0 50)) hC hU hH gk1_0 g_cl11 50 (by decide) kf_X11_398 rfl dX11_layRows_66 ?_
  refine lv_icmp_ge (tgt := 150) (pc := 69) hx hb dX11_layRows_69 (by decide) (fun hc => ?_) (fun hc => ?_)
  · have hf := gif_p hc hf
    refine lv_iinc (v := l2 + 1) (lv' := [(2, .int (l2 + 1)), (0, .ref (ad 0)), (1, .int a1), (3, .int l3)]) (k := 2) (pc := 150) hx hb dX11_layRows_150 hl rfl rfl (by decide) rfl (fun ls hl => ?_)
    refine lv_goto (tgt := 56) (pc := 153) hx hb dX11_layRows_153 (by decide) ?_
    exact hk56 hf hH hS (lv_sub hl [1, 2, 0] rfl)
  · have hf := gif_n hc hf
    refine lv_aload_n (pc := 72) hx hb dX11_layRows_72 rfl (lv_at hl 0 rfl) ?_
    refine lv_iconst (v := 1) (pc := 73) hx hb dX11_layRows_73 (by decide) ?_
    refine lv_iload_n (pc := 74) hx hb dX11_layRows_74 rfl (lv_at hl 2 rfl) ?_
    refine lv_aload_n (pc := 75) hx hb dX11_layRows_75 rfl (lv_at hl 0 rfl) ?_
    refine g_get (pc := 76) (v := .ref (ad 23)) hC hU hH gk1_0 g_cl11 38 (by decide) kf_X11_81 rfl dX11_layRows_76 ?_
    refine lv_iload_n (pc := 79) hx hb dX11_layRows_79 rfl (lv_at hl 3 rfl) ?_
    obtain ⟨h64_1, hf⟩ := gc_s hf
    refine g_iald (pc := 80) hC hU hH gk1_23 gn1_23 h64_1 dX11_layRows_80 ?_
    refine lv_iload_n (pc := 81) hx hb dX11_layRows_81 rfl (lv_at hl 1 rfl) ?_
    obtain ⟨q64_1, hq64_1, hf⟩ := gbd hf
    refine g_callVi (pc := 82) (rest := []) hC hU hH hS hl.1 gk1_0 rfl (by decide) (mX11_allows  hq64_1) ky_X11_allows km_X11_519 ⟨Nat.le_of_ble_eq_true rfl, Nat.le_of_ble_eq_true rfl⟩ ⟨Nat.zero_le _, Nat.zero_le _⟩ rfl (Nat.le_of_ble_eq_true rfl) dX11_layRows_82 rfl (fun H locs hH hS => ?_)
    refine lv_if_eq (tgt := 144) (pc := 85) hx hb dX11_layRows_85 (by decide) (fun hc => ?_) (fun hc => ?_)
    · have hf := gif_p hc hf
      refine lv_iinc (v := l3 + 1) (lv' := [(3, .int (l3 + 1)), (0, .ref (ad 0)), (1, .int a1), (2, .int l2)]) (k := 3) (pc := 144) hx hb dX11_layRows_144 hl rfl rfl (by decide) rfl (fun ls hl => ?_)
      refine lv_goto (tgt := 64) (pc := 147) hx hb dX11_layRows_147 (by decide) ?_
      exact hk64 hf hH hS (lv_sub hl [1, 2, 3, 0] rfl)
    · have hf := gif_n hc hf
      refine lv_aload_n (pc := 88) hx hb dX11_layRows_88 rfl (lv_at hl 0 rfl) ?_
      refine lv_iconst (v := 0) (pc := 89) hx hb dX11_layRows_89 (by decide) ?_
      refine lv_iload_n (pc := 90) hx hb dX11_layRows_90 rfl (lv_at hl 2 rfl) ?_
      refine lv_aload_n (pc := 91) hx hb dX11_layRows_91 rfl (lv_at hl 0 rfl) ?_
      refine g_get (pc := 92) (v := .ref (ad 22)) hC hU hH gk1_0 g_cl11 37 (by decide) kf_X11_78 rfl dX11_layRows_92 ?_
      refine lv_iload_n (pc := 95) hx hb dX11_layRows_95 rfl (lv_at hl 3 rfl) ?_
      obtain ⟨h64_2, hf⟩ := gc_s hf
      refine g_iald (pc := 96) hC hU hH gk1_22 gn1_22 h64_2 dX11_layRows_96 ?_
      refine lv_iload_n (pc := 97) hx hb dX11_layRows_97 rfl (lv_at hl 1 rfl) ?_
      obtain ⟨q64_2, hq64_2, hf⟩ := gbd hf
      refine g_callVi (pc := 98) (rest := []) hC hU hH hS hl.1 gk1_0 rfl (by decide) (mX11_allows  hq64_2) ky_X11_allows km_X11_519 ⟨Nat.le_of_ble_eq_true rfl, Nat.le_of_ble_eq_true rfl⟩ ⟨Nat.zero_le _, Nat.zero_le _⟩ rfl (Nat.le_of_ble_eq_true rfl) dX11_layRows_98 rfl (fun H locs hH hS => ?_)
      refine lv_if_ne (tgt := 107) (pc := 101) hx hb dX11_layRows_101 (by decide) (fun hc => ?_) (fun hc => ?_)
      · have hf := gif_n hc hf
        refine lv_aload_n (pc := 107) hx hb dX11_layRows_107 rfl (lv_at hl 0 rfl) ?_
        refine g_get (pc := 108) (v := .ref (ad 43)) hC hU hH gk1_0 g_cl11 75 (by decide) kf_X11_145 rfl dX11_layRows_108 ?_
        refine lv_bipush (v := 8) (pc := 111) hx hb dX11_layRows_111 (by decide) ?_
        refine lv_iload_n (pc := 113) hx hb dX11_layRows_113 rfl (lv_at hl 2 rfl) ?_
        refine lv_imul (pc := 114) hx hb dX11_layRows_114 ?_
        refine lv_aload_n (pc := 115) hx hb dX11_layRows_115 rfl (lv_at hl 0 rfl) ?_
        refine g_get (pc := 116) (v := .ref (ad 22)) hC hU hH gk1_0 g_cl11 37 (by decide) kf_X11_78 rfl dX11_layRows_116 ?_
        refine lv_iload_n (pc := 119) hx hb dX11_layRows_119 rfl (lv_at hl 3 rfl) ?_
        obtain ⟨h64_3, hf⟩ := gc_s hf
        refine g_iald (pc := 120) hC hU hH gk1_22 gn1_22 h64_3 dX11_layRows_120 ?_
        refine lv_iadd (pc := 121) hx hb dX11_layRows_121 ?_
        refine lv_dup2_11 (pc := 122) hx hb dX11_layRows_122 rfl rfl ?_
        obtain ⟨h64_4, hf⟩ := gc_s hf
        refine g_iald (pc := 123) hC hU hH gk1_43 gn1_43 h64_4 dX11_layRows_123 ?_
        refine lv_aload_n (pc := 124) hx hb dX11_layRows_124 rfl (lv_at hl 0 rfl) ?_
        refine g_get (pc := 125) (v := .ref (ad 43)) hC hU hH gk1_0 g_cl11 75 (by decide) kf_X11_145 rfl dX11_layRows_125 ?_
        refine lv_bipush (v := 8) (pc := 128) hx hb dX11_layRows_128 (by decide) ?_
        refine lv_iload_n (pc := 130) hx hb dX11_layRows_130 rfl (lv_at hl 2 rfl) ?_
        refine lv_iconst (v := 1) (pc := 131) hx hb dX11_layRows_131 (by decide) ?_
        refine lv_isub (pc := 132) hx hb dX11_layRows_132 ?_
        refine lv_imul (pc := 133) hx hb dX11_layRows_133 ?_
        refine lv_aload_n (pc := 134) hx hb dX11_layRows_134 rfl (lv_at hl 0 rfl) ?_
        refine g_get (pc := 135) (v := .ref (ad 21)) hC hU hH gk1_0 g_cl11 36 (by decide) kf_X11_75 rfl dX11_layRows_135 ?_
        refine lv_iload_n (pc := 138) hx hb dX11_layRows_138 rfl (lv_at hl 3 rfl) ?_
        obtain ⟨h64_5, hf⟩ := gc_s hf
        refine g_iald (pc := 139) hC hU hH gk1_21 gn1_21 h64_5 dX11_layRows_139 ?_
        refine lv_iadd (pc := 140) hx hb dX11_layRows_140 ?_
        obtain ⟨h64_6, hf⟩ := gc_s hf
        refine g_iald (pc := 141) hC hU hH gk1_43 gn1_43 h64_6 dX11_layRows_141 ?_
        refine lv_iadd (pc := 142) hx hb dX11_layRows_142 ?_
        obtain ⟨h64_7, hf⟩ := gc_s hf
        refine g_iast (pc := 143) hC hU hH hS gk1_43 gn1_43 h64_7 dX11_layRows_143 (fun H locs hH hS => ?_)
        refine lv_iinc (v := l3 + 1) (lv' := [(3, .int (l3 + 1)), (0, .ref (ad 0)), (1, .int a1), (2, .int l2)]) (k := 3) (pc := 144) hx hb dX11_layRows_144 hl rfl rfl (by decide) rfl (fun ls hl => ?_)
        refine lv_goto (tgt := 64) (pc := 147) hx hb dX11_layRows_147 (by decide) ?_
        exact hk64 hf hH hS (lv_sub hl [1, 2, 3, 0] rfl)
      · have hf := gif_p hc hf
        refine lv_goto (tgt := 144) (pc := 104) hx hb dX11_layRows_104 (by decide) ?_
        refine lv_iinc (v := l3 + 1) (lv' := [(3, .int (l3 + 1)), (0, .ref (ad 0)), (1, .int a1), (2, .int l2)]) (k := 3) (pc := 144) hx hb dX11_layRows_144 hl rfl rfl (by decide) rfl (fun ls hl => ?_)
        refine lv_goto (tgt := 64) (pc := 147) hx hb dX11_layRows_147 (by decide) ?_
        exact hk64 hf hH hS (lv_sub hl [1, 2, 3, 0] rfl)
def hX11_layRows_64 (a1 : Int32) (k56 : Int32 → gS → Option (Int32 × gS)) : Nat → Int32 → Int32 → gS → Option (Int32 × gS)
  | 0 => fun _ _ _ => none
  | n + 1 => fun l2 l3 st => fX11_layRows_64 a1 k56 (hX11_layRows_64 a1 k56 n) l2 l3 st
set_option maxRecDepth 100000 in
set_option maxHeartbeats 4000000 in
theorem wX11_layRows_64 {a1 : Int32} (hC : CallFix p m c cX11_layRows 4 s args lw_good RX11) (hret : meth.sig.returnType = (some .int)) (hlk : meth.locks = false) (hU : gU 1 D cA ad s)  {r : Int32} {st' : gS} {k56 : Int32 → gS → Option (Int32 × gS)} (hk56 : ∀ {l2 : Int32} {st : gS} {H : Heap} {locs : List Loc} {ls : Array Slot}, k56 l2 st = some (r, st') → gP0 1 D cA ad st H → va_S (gA 1 ad) s.heap H locs → lv_has ls 4 [(0, .ref (ad 0)), (1, .int a1), (2, .int l2)] → W p l e (gRm 2) s m args below meth c H locs 0 0 (MQ below (gQc 1 D cA ad st' (some (.int r))) args s 0 0 (gA 1 ad)) (F0 m 56 ls [])) : ∀ (n : Nat) {l2 : Int32} {l3 : Int32} {st : gS} {H : Heap} {locs : List Loc} {ls : Array Slot}, hX11_layRows_64 a1 k56 n l2 l3 st = some (r, st') → gP0 1 D cA ad st H → va_S (gA 1 ad) s.heap H locs → lv_has ls 4 [(0, .ref (ad 0)), (1, .int a1), (2, .int l2), (3, .int l3)] → W p l e (gRm 2) s m args below meth c H locs 0 0 (MQ below (gQc 1 D cA ad st' (some (.int r))) args s 0 0 (gA 1 ad)) (F0 m 64 ls []) := by
  intro n
  induction n with
  | zero => intro l2 l3 st H locs ls hf hH hS hl; cases hf
  | succ n ih =>
    intro l2 l3 st H locs ls hf hH hS hl
    exact bX11_layRows_64 (a1 := a1) hC hret hlk hU hk56 (fun hf hH hS hl => ih hf hH hS hl) hf hH hS hl
def fX11_layRows_56 (a1 : Int32) (k56 : Int32 → gS → Option (Int32 × gS)) (l2 : Int32) (st : gS) : Option (Int32 × gS) :=
  if 6 < l2 then (hX11_layRows_158 a1 FU 0 st) else (hX11_layRows_64 a1 k56 FU l2 0 st)
set_option maxRecDepth 100000 in
set_option maxHeartbeats 4000000 in
theorem bX11_layRows_56 {a1 : Int32} (hC : CallFix p m c cX11_layRows 4 s args lw_good RX11) (hret : meth.sig.returnType = (some .int)) (hlk : meth.locks = false) (hU : gU 1 D cA ad s)  {r : Int32} {st' : gS} {k56 : Int32 → gS → Option (Int32 × gS)} (hk56 : ∀ {l2 : Int32} {st : gS} {H : Heap} {locs : List Loc} {ls : Array Slot}, k56 l2 st = some (r, st') → gP0 1 D cA ad st H → va_S (gA 1 ad) s.heap H locs → lv_has ls 4 [(0, .ref (ad 0)), (1, .int a1), (2, .int l2)] → W p l e (gRm 2) s m args below meth c H locs 0 0 (MQ below (gQc 1 D cA ad st' (some (.int r))) args s 0 0 (gA 1 ad)) (F0 m 56 ls [])) {l2 : Int32} {st : gS} {H : Heap} {locs : List Loc} {ls : Array Slot} (hf : fX11_layRows_56 a1 k56 l2 st = some (r, st')) (hH : gP0 1 D cA ad st H) (hS : va_S (gA 1 ad) s.heap H locs) (hl : lv_has ls 4 [(0, .ref (ad 0)), (1, .int a1), (2, .int l2)]) : W p l e (gRm 2) s m args below meth c H locs 0 0 (MQ below (gQc 1 D cA ad st' (some (.int r))) args s 0 0 (gA 1 ad)) (F0 m 56 ls []) := by
  obtain ⟨hx, hb, hml, hown, hts⟩ := id hC
  unfold fX11_layRows_56 at hf
  refine lv_iload_n (pc := 56) hx hb dX11_layRows_56 rfl (lv_at hl 2 rfl) ?_
  refine lv_bipush (v := 6) (pc := 57) hx hb dX11_layRows_57 (by decide) ?_
  refine lv_icmp_gt (tgt := 156) (pc := 59) hx hb dX11_layRows_59 (by decide) (fun hc => ?_) (fun hc => ?_)
  · have hf := gif_p hc hf
    refine lv_iconst (v := 0) (pc := 156) hx hb dX11_layRows_156 (by decide) ?_
    refine lv_istore_n (lv' := [(2, .int 0), (0, .ref (ad 0)), (1, .int a1)]) (pc := 157) hx hb dX11_layRows_157 rfl hl (by decide) rfl (fun ls hl => ?_)
    exact wX11_layRows_158 hC hret hlk hU FU hf hH hS (lv_sub hl [1, 2, 0] rfl)
  · have hf := gif_n hc hf
    refine lv_iconst (v := 0) (pc := 62) hx hb dX11_layRows_62 (by decide) ?_
    refine lv_istore_n (lv' := [(3, .int 0), (0, .ref (ad 0)), (1, .int a1), (2, .int l2)]) (pc := 63) hx hb dX11_layRows_63 rfl hl (by decide) rfl (fun ls hl => ?_)
    exact wX11_layRows_64 hC hret hlk hU hk56 FU hf hH hS (lv_sub hl [1, 2, 3, 0] rfl)
def hX11_layRows_56 (a1 : Int32)  : Nat → Int32 → gS → Option (Int32 × gS)
  | 0 => fun _ _ => none
  | n + 1 => fun l2 st => fX11_layRows_56 a1 (hX11_layRows_56 a1 n) l2 st
set_option maxRecDepth 100000 in
set_option maxHeartbeats 4000000 in
theorem wX11_layRows_56 {a1 : Int32} (hC : CallFix p m c cX11_layRows 4 s args lw_good RX11) (hret : meth.sig.returnType = (some .int)) (hlk : meth.locks = false) (hU : gU 1 D cA ad s)  {r : Int32} {st' : gS}  : ∀ (n : Nat) {l2 : Int32} {st : gS} {H : Heap} {locs : List Loc} {ls : Array Slot}, hX11_layRows_56 a1 n l2 st = some (r, st') → gP0 1 D cA ad st H → va_S (gA 1 ad) s.heap H locs → lv_has ls 4 [(0, .ref (ad 0)), (1, .int a1), (2, .int l2)] → W p l e (gRm 2) s m args below meth c H locs 0 0 (MQ below (gQc 1 D cA ad st' (some (.int r))) args s 0 0 (gA 1 ad)) (F0 m 56 ls []) := by
  intro n
  induction n with
  | zero => intro l2 st H locs ls hf hH hS hl; cases hf
  | succ n ih =>
    intro l2 st H locs ls hf hH hS hl
    exact bX11_layRows_56 (a1 := a1) hC hret hlk hU (fun hf hH hS hl => ih hf hH hS hl) hf hH hS hl
def fX11_layRows_2 (a1 : Int32) (k2 : Int32 → gS → Option (Int32 × gS)) (l2 : Int32) (st : gS) : Option (Int32 × gS) :=
  if 56 ≤ l2 then (if (st.1 0 48) = 0 then (some (0, st)) else ((fX11_allows 0 0 0 a1 st).bind fun q2_1 => ((fX11_truth q2_1.1 q2_1.2).bind fun q2_2 => (gc (gI 0 56) (hX11_layRows_56 a1 FU 1 (wi q2_2.2 43 (0 : Int32).toNatClampNeg q2_2.1)))))) else (gc (gI l2 56) (gc (gI l2 56) (k2 (l2 + 1) (wi (wi st 43 l2.toNatClampNeg 0) 44 l2.toNatClampNeg 0))))
set_option maxRecDepth 100000 in
set_option maxHeartbeats 4000000 in
theorem bX11_layRows_2 {a1 : Int32} (hC : CallFix p m c cX11_layRows 4 s args lw_good RX11) (hret : meth.sig.returnType = (some .int)) (hlk : meth.locks = false) (hU : gU 1 D cA ad s)  {r : Int32} {st' : gS} {k2 : Int32 → gS → Option (Int32 × gS)} (hk2 : ∀ {l2 : Int32} {st : gS} {H : Heap} {locs : List Loc} {ls : Array Slot}, k2 l2 st = some (r, st') → gP0 1 D cA ad st H → va_S (gA 1 ad) s.heap H locs → lv_has ls 4 [(0, .ref (ad 0)), (1, .int a1), (2, .int l2)] → W p l e (gRm 2) s m args below meth c H locs 0 0 (MQ below (gQc 1 D cA ad st' (some (.int r))) args s 0 0 (gA 1 ad)) (F0 m 2 ls [])) {l2 : Int32} {st : gS} {H : Heap} {locs : List Loc} {ls : Array Slot} (hf : fX11_layRows_2 a1 k2 l2 st = some (r, st')) (hH : gP0 1 D cA ad st H) (hS : va_S (gA 1 ad) s.heap H locs) (hl : lv_has ls 4 [(0, .ref (ad 0)), (1, .int a1), (2, .int l2)]) : W p l e (gRm 2) s m args below meth c H locs 0 0 (MQ below (gQc 1 D cA ad st' (some (.int r))) args s 0 0 (gA 1 ad)) (F0 m 2 ls []) := by
  obtain ⟨hx, hb, hml, hown, hts⟩ := id hC
  unfold fX11_layRows_2 at hf
  refine lv_iload_n (pc := 2) hx hb dX11_layRows_2 rfl (lv_at hl 2 rfl) ?_
  refine lv_bipush (v := 56) (pc := 3) hx hb dX11_layRows_3 (by decide) ?_
  refine lv_icmp_ge (tgt := 28) (pc := 5) hx hb dX11_layRows_5 (by decide) (fun hc => ?_) (fun hc => ?_)
  · have hf := gif_p hc hf
    refine lv_aload_n (pc := 28) hx hb dX11_layRows_28 rfl (lv_at hl 0 rfl) ?_
    refine g_get (pc := 29) (v := .int (st.1 0 48)) hC hU hH gk1_0 g_cl11 48 (by decide) kf_X11_392 rfl dX11_layRows_29 ?_
    refine lv_if_ne (tgt := 37) (pc := 32) hx hb dX11_layRows_32 (by decide) (fun hc => ?_) (fun hc => ?_)
    · have hf := gif_n hc hf
      refine lv_aload_n (pc := 37) hx hb dX11_layRows_37 rfl (lv_at hl 0 rfl) ?_
      refine g_get (pc := 38) (v := .ref (ad 43)) hC hU hH gk1_0 g_cl11 75 (by decide) kf_X11_145 rfl dX11_layRows_38 ?_
      refine lv_iconst (v := 0) (pc := 41) hx hb dX11_layRows_41 (by decide) ?_
      refine lv_aload_n (pc := 42) hx hb dX11_layRows_42 rfl (lv_at hl 0 rfl) ?_
      refine lv_iconst (v := 0) (pc := 43) hx hb dX11_layRows_43 (by decide) ?_
      refine lv_iconst (v := 0) (pc := 44) hx hb dX11_layRows_44 (by decide) ?_
      refine lv_iconst (v := 0) (pc := 45) hx hb dX11_layRows_45 (by decide) ?_
      refine lv_iload_n (pc := 46) hx hb dX11_layRows_46 rfl (lv_at hl 1 rfl) ?_
      obtain ⟨q2_1, hq2_1, hf⟩ := gbd hf
      refine g_callVi (pc := 47) (rest := [.int 0, .ref (ad 43)]) hC hU hH hS hl.1 gk1_0 rfl (by decide) (mX11_allows  hq2_1) ky_X11_allows km_X11_519 ⟨Nat.le_of_ble_eq_true rfl, Nat.le_of_ble_eq_true rfl⟩ ⟨Nat.zero_le _, Nat.zero_le _⟩ rfl (Nat.le_of_ble_eq_true rfl) dX11_layRows_47 rfl (fun H locs hH hS => ?_)
      obtain ⟨q2_2, hq2_2, hf⟩ := gbd hf
      refine g_callSi (pc := 50) (rest := [.int 0, .ref (ad 43)]) hC hU hH hS hl.1 (mX11_truth  hq2_2) ky_X11_truth km_X11_325 ⟨Nat.le_of_ble_eq_true rfl, Nat.le_of_ble_eq_true rfl⟩ ⟨Nat.zero_le _, Nat.zero_le _⟩ rfl (Nat.le_of_ble_eq_true rfl) dX11_layRows_50 rfl (fun H locs hH hS => ?_)
      obtain ⟨h2_1, hf⟩ := gc_s hf
      refine g_iast (pc := 53) hC hU hH hS gk1_43 gn1_43 h2_1 dX11_layRows_53 (fun H locs hH hS => ?_)
      refine lv_iconst (v := 1) (pc := 54) hx hb dX11_layRows_54 (by decide) ?_
      refine lv_istore_n (lv' := [(2, .int 1), (0, .ref (ad 0)), (1, .int a1)]) (pc := 55) hx hb dX11_layRows_55 rfl hl (by decide) rfl (fun ls hl => ?_)
      exact wX11_layRows_56 hC hret hlk hU FU hf hH hS (lv_sub hl [1, 2, 0] rfl)
    · have hf := gif_p hc hf
      refine lv_iconst (v := 0) (pc := 35) hx hb dX11_layRows_35 (by decide) ?_
      exact g_iret (pc := 36) hC hret hlk hH hS hf dX11_layRows_36
  · have hf := gif_n hc hf
    refine lv_aload_n (pc := 8) hx hb dX11_layRows_8 rfl (lv_at hl 0 rfl) ?_
    refine g_get (pc := 9) (v := .ref (ad 43)) hC hU hH gk1_0 g_cl11 75 (by decide) kf_X11_145 rfl dX11_layRows_9 ?_
    refine lv_iload_n (pc := 12) hx hb dX11_layRows_12 rfl (lv_at hl 2 rfl) ?_
    refine lv_iconst (v := 0) (pc := 13) hx hb dX11_layRows_13 (by decide) ?_
    obtain ⟨h2_2, hf⟩ := gc_s hf
    refine g_iast (pc := 14) hC hU hH hS gk1_43 gn1_43 h2_2 dX11_layRows_14 (fun H locs hH hS => ?_)
    refine lv_aload_n (pc := 15) hx hb dX11_layRows_15 rfl (lv_at hl 0 rfl) ?_
    refine g_get (pc := 16) (v := .ref (ad 44)) hC hU hH gk1_0 g_cl11 76 (by decide) kf_X11_148 rfl dX11_layRows_16 ?_
    refine lv_iload_n (pc := 19) hx hb dX11_layRows_19 rfl (lv_at hl 2 rfl) ?_
    refine lv_iconst (v := 0) (pc := 20) hx hb dX11_layRows_20 (by decide) ?_
    obtain ⟨h2_3, hf⟩ := gc_s hf
    refine g_iast (pc := 21) hC hU hH hS gk1_44 gn1_44 h2_3 dX11_layRows_21 (fun H locs hH hS => ?_)
    refine lv_iinc (v := l2 + 1) (lv' := [(2, .int (l2 + 1)), (0, .ref (ad 0)), (1, .int a1)]) (k := 2) (pc := 22) hx hb dX11_layRows_22 hl rfl rfl (by decide) rfl (fun ls hl => ?_)
    refine lv_goto (tgt := 2) (pc := 25) hx hb dX11_layRows_25 (by decide) ?_
    exact hk2 hf hH hS (lv_sub hl [1, 2, 0] rfl)
def hX11_layRows_2 (a1 : Int32)  : Nat → Int32 → gS → Option (Int32 × gS)
  | 0 => fun _ _ => none
  | n + 1 => fun l2 st => fX11_layRows_2 a1 (hX11_layRows_2 a1 n) l2 st
set_option maxRecDepth 100000 in
set_option maxHeartbeats 4000000 in
theorem wX11_layRows_2 {a1 : Int32} (hC : CallFix p m c cX11_layRows 4 s args lw_good RX11) (hret : meth.sig.returnType = (some .int)) (hlk : meth.locks = false) (hU : gU 1 D cA ad s)  {r : Int32} {st' : gS}  : ∀ (n : Nat) {l2 : Int32} {st : gS} {H : Heap} {locs : List Loc} {ls : Array Slot}, hX11_layRows_2 a1 n l2 st = some (r, st') → gP0 1 D cA ad st H → va_S (gA 1 ad) s.heap H locs → lv_has ls 4 [(0, .ref (ad 0)), (1, .int a1), (2, .int l2)] → W p l e (gRm 2) s m args below meth c H locs 0 0 (MQ below (gQc 1 D cA ad st' (some (.int r))) args s 0 0 (gA 1 ad)) (F0 m 2 ls []) := by
  intro n
  induction n with
  | zero => intro l2 st H locs ls hf hH hS hl; cases hf
  | succ n ih =>
    intro l2 st H locs ls hf hH hS hl
    exact bX11_layRows_2 (a1 := a1) hC hret hlk hU (fun hf hH hS hl => ih hf hH hS hl) hf hH hS hl
def fX11_layRows (a1 : Int32)   (st : gS) : Option (Int32 × gS) :=
  hX11_layRows_2 a1 FU 0 st
set_option maxRecDepth 100000 in
set_option maxHeartbeats 4000000 in
theorem bX11_layRows_0 {a1 : Int32} (hC : CallFix p m c cX11_layRows 4 s args lw_good RX11) (hret : meth.sig.returnType = (some .int)) (hlk : meth.locks = false) (hU : gU 1 D cA ad s)  {r : Int32} {st' : gS}   {st : gS} {H : Heap} {locs : List Loc} {ls : Array Slot} (hf : fX11_layRows a1 st = some (r, st')) (hH : gP0 1 D cA ad st H) (hS : va_S (gA 1 ad) s.heap H locs) (hl : lv_has ls 4 [(0, .ref (ad 0)), (1, .int a1)]) : W p l e (gRm 2) s m args below meth c H locs 0 0 (MQ below (gQc 1 D cA ad st' (some (.int r))) args s 0 0 (gA 1 ad)) (F0 m 0 ls []) := by
  obtain ⟨hx, hb, hml, hown, hts⟩ := id hC
  unfold fX11_layRows at hf
  refine lv_iconst (v := 0) (pc := 0) hx hb dX11_layRows_0 (by decide) ?_
  refine lv_istore_n (lv' := [(2, .int 0), (0, .ref (ad 0)), (1, .int a1)]) (pc := 1) hx hb dX11_layRows_1 rfl hl (by decide) rfl (fun ls hl => ?_)
  exact wX11_layRows_2 hC hret hlk hU FU hf hH hS (lv_sub hl [1, 2, 0] rfl)
set_option maxRecDepth 100000 in
set_option maxHeartbeats 4000000 in
theorem mX11_layRows {l : Launch} {D : va_G} {cA : Nat → ClassId} {ad : Nat → Nat} {a1 : Int32}  {r : Int32} {st st' : gS} (hf : fX11_layRows a1 st = some (r, st')) : gM l yX11_layRows cX11_layRows 4 (some .int) 2 1 D cA ad st [.ref (ad 0), .int a1] (some (.int r)) st' := by
  refine g_met (by decide) (Nat.le_of_ble_eq_true rfl) ?_
  intro p e s m args below meth c ls hC hret hlk hU hH hl
  exact bX11_layRows_0 hC hret hlk hU hf hH va_S.rf hl
def fX11_rows (a1 : Int32)   (st : gS) : Option (Int32 × gS) :=
  (fX11_layRows a1 st).bind fun q0_1 => (some (q0_1.1, q0_1.2))
set_option maxRecDepth 100000 in
set_option maxHeartbeats 4000000 in
theorem bX11_rows_0 {a1 : Int32} (hC : CallFix p m c cX11_rows 2 s args lw_good RX11) (hret : meth.sig.returnType = (some .int)) (hlk : meth.locks = false) (hU : gU 1 D cA ad s)  {r : Int32} {st' : gS}   {st : gS} {H : Heap} {locs : List Loc} {ls : Array Slot} (hf : fX11_rows a1 st = some (r, st')) (hH : gP0 1 D cA ad st H) (hS : va_S (gA 1 ad) s.heap H locs) (hl : lv_has ls 2 [(0, .ref (ad 0)), (1, .int a1)]) : W p l e (gRm 3) s m args below meth c H locs 0 0 (MQ below (gQc 1 D cA ad st' (some (.int r))) args s 0 0 (gA 1 ad)) (F0 m 0 ls []) := by
  obtain ⟨hx, hb, hml, hown, hts⟩ := id hC
  unfold fX11_rows at hf
  refine lv_aload_n (pc := 0) hx hb dX11_rows_0 rfl (lv_at hl 0 rfl) ?_
  refine lv_iload_n (pc := 1) hx hb dX11_rows_1 rfl (lv_at hl 1 rfl) ?_
  obtain ⟨q0_1, hq0_1, hf⟩ := gbd hf
  refine g_callVi (pc := 2) (rest := []) hC hU hH hS hl.1 gk1_0 rfl (by decide) (mX11_layRows  hq0_1) ky_X11_layRows km_X11_523 ⟨Nat.le_of_ble_eq_true rfl, Nat.le_of_ble_eq_true rfl⟩ ⟨Nat.zero_le _, Nat.zero_le _⟩ rfl (Nat.le_of_ble_eq_true rfl) dX11_rows_2 rfl (fun H locs hH hS => ?_)
  exact g_iret (pc := 5) hC hret hlk hH hS hf dX11_rows_5
set_option maxRecDepth 100000 in
set_option maxHeartbeats 4000000 in
theorem mX11_rows {l : Launch} {D : va_G} {cA : Nat → ClassId} {ad : Nat → Nat} {a1 : Int32}  {r : Int32} {st st' : gS} (hf : fX11_rows a1 st = some (r, st')) : gM l yX11_rows cX11_rows 2 (some .int) 3 1 D cA ad st [.ref (ad 0), .int a1] (some (.int r)) st' := by
  refine g_met (by decide) (Nat.le_of_ble_eq_true rfl) ?_
  intro p e s m args below meth c ls hC hret hlk hU hH hl
  exact bX11_rows_0 hC hret hlk hU hf hH va_S.rf hl
def fX11_through (a1 : Int32) (a2 : Int32)   (st : gS) : Option (Int32 × gS) :=
  gc (gI ((8 * a1) + a2) 56) (if (st.1 43 ((8 * a1) + a2).toNatClampNeg) = 0 then (some (0, st)) else (gc (gI ((8 * a1) + a2) 56) (gc (gI ((8 * a1) + a2) 56) (some ((st.1 43 ((8 * a1) + a2).toNatClampNeg) * (st.1 44 ((8 * a1) + a2).toNatClampNeg), st)))))
set_option maxRecDepth 100000 in
set_option maxHeartbeats 4000000 in
theorem bX11_through_0 {a1 : Int32} {a2 : Int32} (hC : CallFix p m c cX11_through 3 s args lw_good RX11) (hret : meth.sig.returnType = (some .int)) (hlk : meth.locks = false) (hU : gU 1 D cA ad s)  {r : Int32} {st' : gS}   {st : gS} {H : Heap} {locs : List Loc} {ls : Array Slot} (hf : fX11_through a1 a2 st = some (r, st')) (hH : gP0 1 D cA ad st H) (hS : va_S (gA 1 ad) s.heap H locs) (hl : lv_has ls 3 [(0, .ref (ad 0)), (1, .int a1), (2, .int a2)]) : W p l e (gRm 1) s m args below meth c H locs 0 0 (MQ below (gQc 1 D cA ad st' (some (.int r))) args s 0 0 (gA 1 ad)) (F0 m 0 ls []) := by
  obtain ⟨hx, hb, hml, hown, hts⟩ := id hC
  unfold fX11_through at hf
  refine lv_aload_n (pc := 0) hx hb dX11_through_0 rfl (lv_at hl 0 rfl) ?_
  refine g_get (pc := 1) (v := .ref (ad 43)) hC hU hH gk1_0 g_cl11 75 (by decide) kf_X11_145 rfl dX11_through_1 ?_
  refine lv_bipush (v := 8) (pc := 4) hx hb dX11_through_4 (by decide) ?_
  refine lv_iload_n (pc := 6) hx hb dX11_through_6 rfl (lv_at hl 1 rfl) ?_
  refine lv_imul (pc := 7) hx hb dX11_through_7 ?_
  refine lv_iload_n (pc := 8) hx hb dX11_through_8 rfl (lv_at hl 2 rfl) ?_
  refine lv_iadd (pc := 9) hx hb dX11_through_9 ?_
  obtain ⟨h0_1, hf⟩ := gc_s hf
  refine g_iald (pc := 10) hC hU hH gk1_43 gn1_43 h0_1 dX11_through_10 ?_
  refine lv_if_ne (tgt := 18) (pc := 11) hx hb dX11_through_11 (by decide) (fun hc => ?_) (fun hc => ?_)
  · have hf := gif_n hc hf
    refine lv_aload_n (pc := 18) hx hb dX11_through_18 rfl (lv_at hl 0 rfl) ?_
    refine g_get (pc := 19) (v := .ref (ad 43)) hC hU hH gk1_0 g_cl11 75 (by decide) kf_X11_145 rfl dX11_through_19 ?_
    refine lv_bipush (v := 8) (pc := 22) hx hb dX11_through_22 (by decide) ?_
    refine lv_iload_n (pc := 24) hx hb dX11_through_24 rfl (lv_at hl 1 rfl) ?_
    refine lv_imul (pc := 25) hx hb dX11_through_25 ?_
    refine lv_iload_n (pc := 26) hx hb dX11_through_26 rfl (lv_at hl 2 rfl) ?_
    refine lv_iadd (pc := 27) hx hb dX11_through_27 ?_
    obtain ⟨h0_2, hf⟩ := gc_s hf
    refine g_iald (pc := 28) hC hU hH gk1_43 gn1_43 h0_2 dX11_through_28 ?_
    refine lv_aload_n (pc := 29) hx hb dX11_through_29 rfl (lv_at hl 0 rfl) ?_
    refine g_get (pc := 30) (v := .ref (ad 44)) hC hU hH gk1_0 g_cl11 76 (by decide) kf_X11_148 rfl dX11_through_30 ?_
    refine lv_bipush (v := 8) (pc := 33) hx hb dX11_through_33 (by decide) ?_
    refine lv_iload_n (pc := 35) hx hb dX11_through_35 rfl (lv_at hl 1 rfl) ?_
    refine lv_imul (pc := 36) hx hb dX11_through_36 ?_
    refine lv_iload_n (pc := 37) hx hb dX11_through_37 rfl (lv_at hl 2 rfl) ?_
    refine lv_iadd (pc := 38) hx hb dX11_through_38 ?_
    obtain ⟨h0_3, hf⟩ := gc_s hf
    refine g_iald (pc := 39) hC hU hH gk1_44 gn1_44 h0_3 dX11_through_39 ?_
    refine lv_imul (pc := 40) hx hb dX11_through_40 ?_
    exact g_iret (pc := 41) hC hret hlk hH hS hf dX11_through_41
  · have hf := gif_p hc hf
    refine lv_iconst (v := 0) (pc := 14) hx hb dX11_through_14 (by decide) ?_
    refine lv_goto (tgt := 41) (pc := 15) hx hb dX11_through_15 (by decide) ?_
    exact g_iret (pc := 41) hC hret hlk hH hS hf dX11_through_41
set_option maxRecDepth 100000 in
set_option maxHeartbeats 4000000 in
theorem mX11_through {l : Launch} {D : va_G} {cA : Nat → ClassId} {ad : Nat → Nat} {a1 : Int32} {a2 : Int32}  {r : Int32} {st st' : gS} (hf : fX11_through a1 a2 st = some (r, st')) : gM l yX11_through cX11_through 3 (some .int) 1 1 D cA ad st [.ref (ad 0), .int a1, .int a2] (some (.int r)) st' := by
  refine g_met (by decide) (Nat.le_of_ble_eq_true rfl) ?_
  intro p e s m args below meth c ls hC hret hlk hU hH hl
  exact bX11_through_0 hC hret hlk hU hf hH va_S.rf hl
def fX11_sure_54 (a1 : Int32) (a2 : Int32)  (l3 : Int32) (st : gS) : Option (Int32 × gS) :=
  if l3 = 0 then (some ((-1), st)) else (some ((-2), st))
set_option maxRecDepth 100000 in
set_option maxHeartbeats 4000000 in
theorem bX11_sure_54 {a1 : Int32} {a2 : Int32} (hC : CallFix p m c cX11_sure 5 s args lw_good RX11) (hret : meth.sig.returnType = (some .int)) (hlk : meth.locks = false) (hU : gU 1 D cA ad s)  {r : Int32} {st' : gS}  {l3 : Int32} {st : gS} {H : Heap} {locs : List Loc} {ls : Array Slot} (hf : fX11_sure_54 a1 a2 l3 st = some (r, st')) (hH : gP0 1 D cA ad st H) (hS : va_S (gA 1 ad) s.heap H locs) (hl : lv_has ls 5 [(3, .int l3)]) : W p l e (gRm 3) s m args below meth c H locs 0 0 (MQ below (gQc 1 D cA ad st' (some (.int r))) args s 0 0 (gA 1 ad)) (F0 m 54 ls []) := by
  obtain ⟨hx, hb, hml, hown, hts⟩ := id hC
  unfold fX11_sure_54 at hf
  refine lv_iload_n (pc := 54) hx hb dX11_sure_54 rfl (lv_at hl 0 rfl) ?_
  refine lv_if_ne (tgt := 62) (pc := 55) hx hb dX11_sure_55 (by decide) (fun hc => ?_) (fun hc => ?_)
  · have hf := gif_n hc hf
    refine lv_bipush (v := (-2)) (pc := 62) hx hb dX11_sure_62 (by decide) ?_
    exact g_iret (pc := 64) hC hret hlk hH hS hf dX11_sure_64
  · have hf := gif_p hc hf
    refine lv_iconst (v := (-1)) (pc := 58) hx hb dX11_sure_58 (by decide) ?_
    refine lv_goto (tgt := 64) (pc := 59) hx hb dX11_sure_59 (by decide) ?_
    exact g_iret (pc := 64) hC hret hlk hH hS hf dX11_sure_64
def fX11_sure_21 (a1 : Int32) (a2 : Int32) (k21 : Int32 → Int32 → gS → Option (Int32 × gS)) (l3 : Int32) (l4 : Int32) (st : gS) : Option (Int32 × gS) :=
  if (st.1 0 48) ≤ l4 then (fX11_sure_54 a1 a2 l3 st) else (if l3 ≤ 0 then (fX11_sure_54 a1 a2 l3 st) else ((fX11_through a1 l4 st).bind fun q21_1 => (if q21_1.1 = l3 then (some (l4, q21_1.2)) else (k21 l3 (l4 + 1) q21_1.2))))
set_option maxRecDepth 100000 in
set_option maxHeartbeats 4000000 in
theorem bX11_sure_21 {a1 : Int32} {a2 : Int32} (hC : CallFix p m c cX11_sure 5 s args lw_good RX11) (hret : meth.sig.returnType = (some .int)) (hlk : meth.locks = false) (hU : gU 1 D cA ad s)  {r : Int32} {st' : gS} {k21 : Int32 → Int32 → gS → Option (Int32 × gS)} (hk21 : ∀ {l3 : Int32} {l4 : Int32} {st : gS} {H : Heap} {locs : List Loc} {ls : Array Slot}, k21 l3 l4 st = some (r, st') → gP0 1 D cA ad st H → va_S (gA 1 ad) s.heap H locs → lv_has ls 5 [(0, .ref (ad 0)), (1, .int a1), (3, .int l3), (4, .int l4)] → W p l e (gRm 3) s m args below meth c H locs 0 0 (MQ below (gQc 1 D cA ad st' (some (.int r))) args s 0 0 (gA 1 ad)) (F0 m 21 ls [])) {l3 : Int32} {l4 : Int32} {st : gS} {H : Heap} {locs : List Loc} {ls : Array Slot} (hf : fX11_sure_21 a1 a2 k21 l3 l4 st = some (r, st')) (hH : gP0 1 D cA ad st H) (hS : va_S (gA 1 ad) s.heap H locs) (hl : lv_has ls 5 [(0, .ref (ad 0)), (1, .int a1), (3, .int l3), (4, .int l4)]) : W p l e (gRm 3) s m args below meth c H locs 0 0 (MQ below (gQc 1 D cA ad st' (some (.int r))) args s 0 0 (gA 1 ad)) (F0 m 21 ls []) := by
  obtain ⟨hx, hb, hml, hown, hts⟩ := id hC
  unfold fX11_sure_21 at hf
  refine lv_iload (pc := 21) hx hb dX11_sure_21 (lv_at hl 3 rfl) ?_
  refine lv_aload_n (pc := 23) hx hb dX11_sure_23 rfl (lv_at hl 0 rfl) ?_
  refine g_get (pc := 24) (v := .int (st.1 0 48)) hC hU hH gk1_0 g_cl11 48 (by decide) kf_X11_392 rfl dX11_sure_24 ?_
  refine lv_icmp_ge (tgt := 54) (pc := 27) hx hb dX11_sure_27 (by decide) (fun hc => ?_) (fun hc => ?_)
  · have hf := gif_p hc hf
    exact bX11_sure_54 hC hret hlk hU hf hH hS (lv_sub hl [2] rfl)
  · have hf := gif_n hc hf
    refine lv_iload_n (pc := 30) hx hb dX11_sure_30 rfl (lv_at hl 2 rfl) ?_
    refine lv_if_le (tgt := 54) (pc := 31) hx hb dX11_sure_31 (by decide) (fun hc => ?_) (fun hc => ?_)
    · have hf := gif_p hc hf
      exact bX11_sure_54 hC hret hlk hU hf hH hS (lv_sub hl [2] rfl)
    · have hf := gif_n hc hf
      refine lv_aload_n (pc := 34) hx hb dX11_sure_34 rfl (lv_at hl 0 rfl) ?_
      refine lv_iload_n (pc := 35) hx hb dX11_sure_35 rfl (lv_at hl 1 rfl) ?_
      refine lv_iload (pc := 36) hx hb dX11_sure_36 (lv_at hl 3 rfl) ?_
      obtain ⟨q21_1, hq21_1, hf⟩ := gbd hf
      refine g_callVi (pc := 38) (rest := []) hC hU hH hS hl.1 gk1_0 rfl (by decide) (mX11_through  hq21_1) ky_X11_through km_X11_526 ⟨Nat.le_of_ble_eq_true rfl, Nat.le_of_ble_eq_true rfl⟩ ⟨Nat.zero_le _, Nat.zero_le _⟩ rfl (Nat.le_of_ble_eq_true rfl) dX11_sure_38 rfl (fun H locs hH hS => ?_)
      refine lv_iload_n (pc := 41) hx hb dX11_sure_41 rfl (lv_at hl 2 rfl) ?_
      refine lv_icmp_ne (tgt := 48) (pc := 42) hx hb dX11_sure_42 (by decide) (fun hc => ?_) (fun hc => ?_)
      · have hf := gif_n hc hf
        refine lv_iinc (v := l4 + 1) (lv' := [(4, .int (l4 + 1)), (0, .ref (ad 0)), (1, .int a1), (3, .int l3)]) (k := 3) (pc := 48) hx hb dX11_sure_48 hl rfl rfl (by decide) rfl (fun ls hl => ?_)
        refine lv_goto (tgt := 21) (pc := 51) hx hb dX11_sure_51 (by decide) ?_
        exact hk21 hf hH hS (lv_sub hl [1, 2, 3, 0] rfl)
      · have hf := gif_p hc hf
        refine lv_iload (pc := 45) hx hb dX11_sure_45 (lv_at hl 3 rfl) ?_
        exact g_iret (pc := 47) hC hret hlk hH hS hf dX11_sure_47
def hX11_sure_21 (a1 : Int32) (a2 : Int32)  : Nat → Int32 → Int32 → gS → Option (Int32 × gS)
  | 0 => fun _ _ _ => none
  | n + 1 => fun l3 l4 st => fX11_sure_21 a1 a2 (hX11_sure_21 a1 a2 n) l3 l4 st
set_option maxRecDepth 100000 in
set_option maxHeartbeats 4000000 in
theorem wX11_sure_21 {a1 : Int32} {a2 : Int32} (hC : CallFix p m c cX11_sure 5 s args lw_good RX11) (hret : meth.sig.returnType = (some .int)) (hlk : meth.locks = false) (hU : gU 1 D cA ad s)  {r : Int32} {st' : gS}  : ∀ (n : Nat) {l3 : Int32} {l4 : Int32} {st : gS} {H : Heap} {locs : List Loc} {ls : Array Slot}, hX11_sure_21 a1 a2 n l3 l4 st = some (r, st') → gP0 1 D cA ad st H → va_S (gA 1 ad) s.heap H locs → lv_has ls 5 [(0, .ref (ad 0)), (1, .int a1), (3, .int l3), (4, .int l4)] → W p l e (gRm 3) s m args below meth c H locs 0 0 (MQ below (gQc 1 D cA ad st' (some (.int r))) args s 0 0 (gA 1 ad)) (F0 m 21 ls []) := by
  intro n
  induction n with
  | zero => intro l3 l4 st H locs ls hf hH hS hl; cases hf
  | succ n ih =>
    intro l3 l4 st H locs ls hf hH hS hl
    exact bX11_sure_21 (a1 := a1) (a2 := a2) hC hret hlk hU (fun hf hH hS hl => ih hf hH hS hl) hf hH hS hl
def fX11_sure (a1 : Int32) (a2 : Int32)   (st : gS) : Option (Int32 × gS) :=
  (fX11_isIn a1 0 6 st).bind fun q0_1 => (if q0_1.1 = 0 then (some ((-1), q0_1.2)) else ((fX11_layRows a2 q0_1.2).bind fun q0_2 => (hX11_sure_21 a1 a2 FU q0_2.1 0 q0_2.2)))
set_option maxRecDepth 100000 in
set_option maxHeartbeats 4000000 in
theorem bX11_sure_0 {a1 : Int32} {a2 : Int32} (hC : CallFix p m c cX11_sure 5 s args lw_good RX11) (hret : meth.sig.returnType = (some .int)) (hlk : meth.locks = false) (hU : gU 1 D cA ad s)  {r : Int32} {st' : gS}   {st : gS} {H : Heap} {locs : List Loc} {ls : Array Slot} (hf : fX11_sure a1 a2 st = some (r, st')) (hH : gP0 1 D cA ad st H) (hS : va_S (gA 1 ad) s.heap H locs) (hl : lv_has ls 5 [(0, .ref (ad 0)), (1, .int a1), (2, .int a2)]) : W p l e (gRm 3) s m args below meth c H locs 0 0 (MQ below (gQc 1 D cA ad st' (some (.int r))) args s 0 0 (gA 1 ad)) (F0 m 0 ls []) := by
  obtain ⟨hx, hb, hml, hown, hts⟩ := id hC
  unfold fX11_sure at hf
  refine lv_iload_n (pc := 0) hx hb dX11_sure_0 rfl (lv_at hl 1 rfl) ?_
  refine lv_iconst (v := 0) (pc := 1) hx hb dX11_sure_1 (by decide) ?_
  refine lv_bipush (v := 6) (pc := 2) hx hb dX11_sure_2 (by decide) ?_
  obtain ⟨q0_1, hq0_1, hf⟩ := gbd hf
  refine g_callSi (pc := 4) (rest := []) hC hU hH hS hl.1 (mX11_isIn  hq0_1) ky_X11_isIn km_X11_416 ⟨Nat.le_of_ble_eq_true rfl, Nat.le_of_ble_eq_true rfl⟩ ⟨Nat.zero_le _, Nat.zero_le _⟩ rfl (Nat.le_of_ble_eq_true rfl) dX11_sure_4 rfl (fun H locs hH hS => ?_)
  refine lv_if_ne (tgt := 12) (pc := 7) hx hb dX11_sure_7 (by decide) (fun hc => ?_) (fun hc => ?_)
  · have hf := gif_n hc hf
    refine lv_aload_n (pc := 12) hx hb dX11_sure_12 rfl (lv_at hl 0 rfl) ?_
    refine lv_iload_n (pc := 13) hx hb dX11_sure_13 rfl (lv_at hl 2 rfl) ?_
    obtain ⟨q0_2, hq0_2, hf⟩ := gbd hf
    refine g_callVi (pc := 14) (rest := []) hC hU hH hS hl.1 gk1_0 rfl (by decide) (mX11_layRows  hq0_2) ky_X11_layRows km_X11_523 ⟨Nat.le_of_ble_eq_true rfl, Nat.le_of_ble_eq_true rfl⟩ ⟨Nat.zero_le _, Nat.zero_le _⟩ rfl (Nat.le_of_ble_eq_true rfl) dX11_sure_14 rfl (fun H locs hH hS => ?_)
    refine lv_istore_n (lv' := [(3, .int q0_2.1), (0, .ref (ad 0)), (1, .int a1), (2, .int a2)]) (pc := 17) hx hb dX11_sure_17 rfl hl (by decide) rfl (fun ls hl => ?_)
    refine lv_iconst (v := 0) (pc := 18) hx hb dX11_sure_18 (by decide) ?_
    refine lv_istore (lv' := [(4, .int 0), (3, .int q0_2.1), (0, .ref (ad 0)), (1, .int a1), (2, .int a2)]) (pc := 19) hx hb dX11_sure_19 hl (by decide) rfl (fun ls hl => ?_)
    exact wX11_sure_21 hC hret hlk hU FU hf hH hS (lv_sub hl [2, 3, 1, 0] rfl)
  · have hf := gif_p hc hf
    refine lv_iconst (v := (-1)) (pc := 10) hx hb dX11_sure_10 (by decide) ?_
    exact g_iret (pc := 11) hC hret hlk hH hS hf dX11_sure_11
set_option maxRecDepth 100000 in
set_option maxHeartbeats 4000000 in
theorem mX11_sure {l : Launch} {D : va_G} {cA : Nat → ClassId} {ad : Nat → Nat} {a1 : Int32} {a2 : Int32}  {r : Int32} {st st' : gS} (hf : fX11_sure a1 a2 st = some (r, st')) : gM l yX11_sure cX11_sure 5 (some .int) 3 1 D cA ad st [.ref (ad 0), .int a1, .int a2] (some (.int r)) st' := by
  refine g_met (by decide) (Nat.le_of_ble_eq_true rfl) ?_
  intro p e s m args below meth c ls hC hret hlk hU hH hl
  exact bX11_sure_0 hC hret hlk hU hf hH va_S.rf hl
def fX11_mostAt_4 (a1 : Int32) (k4 : Int32 → Int32 → gS → Option (Int32 × gS)) (l2 : Int32) (l3 : Int32) (st : gS) : Option (Int32 × gS) :=
  if (st.1 0 48) ≤ l3 then (some (l2, st)) else ((fX11_through a1 l3 st).bind fun q4_1 => (if q4_1.1 ≤ l2 then (k4 l2 (l3 + 1) q4_1.2) else ((fX11_through a1 l3 q4_1.2).bind fun q4_2 => (k4 q4_2.1 (l3 + 1) q4_2.2))))
set_option maxRecDepth 100000 in
set_option maxHeartbeats 4000000 in
theorem bX11_mostAt_4 {a1 : Int32} (hC : CallFix p m c cX11_mostAt 4 s args lw_good RX11) (hret : meth.sig.returnType = (some .int)) (hlk : meth.locks = false) (hU : gU 1 D cA ad s)  {r : Int32} {st' : gS} {k4 : Int32 → Int32 → gS → Option (Int32 × gS)} (hk4 : ∀ {l2 : Int32} {l3 : Int32} {st : gS} {H : Heap} {locs : List Loc} {ls : Array Slot}, k4 l2 l3 st = some (r, st') → gP0 1 D cA ad st H → va_S (gA 1 ad) s.heap H locs → lv_has ls 4 [(0, .ref (ad 0)), (1, .int a1), (2, .int l2), (3, .int l3)] → W p l e (gRm 2) s m args below meth c H locs 0 0 (MQ below (gQc 1 D cA ad st' (some (.int r))) args s 0 0 (gA 1 ad)) (F0 m 4 ls [])) {l2 : Int32} {l3 : Int32} {st : gS} {H : Heap} {locs : List Loc} {ls : Array Slot} (hf : fX11_mostAt_4 a1 k4 l2 l3 st = some (r, st')) (hH : gP0 1 D cA ad st H) (hS : va_S (gA 1 ad) s.heap H locs) (hl : lv_has ls 4 [(0, .ref (ad 0)), (1, .int a1), (2, .int l2), (3, .int l3)]) : W p l e (gRm 2) s m args below meth c H locs 0 0 (MQ below (gQc 1 D cA ad st' (some (.int r))) args s 0 0 (gA 1 ad)) (F0 m 4 ls []) := by
  obtain ⟨hx, hb, hml, hown, hts⟩ := id hC
  unfold fX11_mostAt_4 at hf
  refine lv_iload_n (pc := 4) hx hb dX11_mostAt_4 rfl (lv_at hl 3 rfl) ?_
  refine lv_aload_n (pc := 5) hx hb dX11_mostAt_5 rfl (lv_at hl 0 rfl) ?_
  refine g_get (pc := 6) (v := .int (st.1 0 48)) hC hU hH gk1_0 g_cl11 48 (by decide) kf_X11_392 rfl dX11_mostAt_6 ?_
  refine lv_icmp_ge (tgt := 39) (pc := 9) hx hb dX11_mostAt_9 (by decide) (fun hc => ?_) (fun hc => ?_)
  · have hf := gif_p hc hf
    refine lv_iload_n (pc := 39) hx hb dX11_mostAt_39 rfl (lv_at hl 2 rfl) ?_
    exact g_iret (pc := 40) hC hret hlk hH hS hf dX11_mostAt_40
  · have hf := gif_n hc hf
    refine lv_aload_n (pc := 12) hx hb dX11_mostAt_12 rfl (lv_at hl 0 rfl) ?_
    refine lv_iload_n (pc := 13) hx hb dX11_mostAt_13 rfl (lv_at hl 1 rfl) ?_
    refine lv_iload_n (pc := 14) hx hb dX11_mostAt_14 rfl (lv_at hl 3 rfl) ?_
    obtain ⟨q4_1, hq4_1, hf⟩ := gbd hf
    refine g_callVi (pc := 15) (rest := []) hC hU hH hS hl.1 gk1_0 rfl (by decide) (mX11_through  hq4_1) ky_X11_through km_X11_526 ⟨Nat.le_of_ble_eq_true rfl, Nat.le_of_ble_eq_true rfl⟩ ⟨Nat.zero_le _, Nat.zero_le _⟩ rfl (Nat.le_of_ble_eq_true rfl) dX11_mostAt_15 rfl (fun H locs hH hS => ?_)
    refine lv_iload_n (pc := 18) hx hb dX11_mostAt_18 rfl (lv_at hl 2 rfl) ?_
    refine lv_icmp_le (tgt := 31) (pc := 19) hx hb dX11_mostAt_19 (by decide) (fun hc => ?_) (fun hc => ?_)
    · have hf := gif_p hc hf
      refine lv_iload_n (pc := 31) hx hb dX11_mostAt_31 rfl (lv_at hl 2 rfl) ?_
      refine lv_istore_n (lv' := [(2, .int l2), (0, .ref (ad 0)), (1, .int a1), (3, .int l3)]) (pc := 32) hx hb dX11_mostAt_32 rfl hl (by decide) rfl (fun ls hl => ?_)
      refine lv_iinc (v := l3 + 1) (lv' := [(3, .int (l3 + 1)), (2, .int l2), (0, .ref (ad 0)), (1, .int a1)]) (k := 3) (pc := 33) hx hb dX11_mostAt_33 hl rfl rfl (by decide) rfl (fun ls hl => ?_)
      refine lv_goto (tgt := 4) (pc := 36) hx hb dX11_mostAt_36 (by decide) ?_
      exact hk4 hf hH hS (lv_sub hl [2, 3, 1, 0] rfl)
    · have hf := gif_n hc hf
      refine lv_aload_n (pc := 22) hx hb dX11_mostAt_22 rfl (lv_at hl 0 rfl) ?_
      refine lv_iload_n (pc := 23) hx hb dX11_mostAt_23 rfl (lv_at hl 1 rfl) ?_
      refine lv_iload_n (pc := 24) hx hb dX11_mostAt_24 rfl (lv_at hl 3 rfl) ?_
      obtain ⟨q4_2, hq4_2, hf⟩ := gbd hf
      refine g_callVi (pc := 25) (rest := []) hC hU hH hS hl.1 gk1_0 rfl (by decide) (mX11_through  hq4_2) ky_X11_through km_X11_526 ⟨Nat.le_of_ble_eq_true rfl, Nat.le_of_ble_eq_true rfl⟩ ⟨Nat.zero_le _, Nat.zero_le _⟩ rfl (Nat.le_of_ble_eq_true rfl) dX11_mostAt_25 rfl (fun H locs hH hS => ?_)
      refine lv_goto (tgt := 32) (pc := 28) hx hb dX11_mostAt_28 (by decide) ?_
      refine lv_istore_n (lv' := [(2, .int q4_2.1), (0, .ref (ad 0)), (1, .int a1), (3, .int l3)]) (pc := 32) hx hb dX11_mostAt_32 rfl hl (by decide) rfl (fun ls hl => ?_)
      refine lv_iinc (v := l3 + 1) (lv' := [(3, .int (l3 + 1)), (2, .int q4_2.1), (0, .ref (ad 0)), (1, .int a1)]) (k := 3) (pc := 33) hx hb dX11_mostAt_33 hl rfl rfl (by decide) rfl (fun ls hl => ?_)
      refine lv_goto (tgt := 4) (pc := 36) hx hb dX11_mostAt_36 (by decide) ?_
      exact hk4 hf hH hS (lv_sub hl [2, 3, 1, 0] rfl)
def hX11_mostAt_4 (a1 : Int32)  : Nat → Int32 → Int32 → gS → Option (Int32 × gS)
  | 0 => fun _ _ _ => none
  | n + 1 => fun l2 l3 st => fX11_mostAt_4 a1 (hX11_mostAt_4 a1 n) l2 l3 st
set_option maxRecDepth 100000 in
set_option maxHeartbeats 4000000 in
theorem wX11_mostAt_4 {a1 : Int32} (hC : CallFix p m c cX11_mostAt 4 s args lw_good RX11) (hret : meth.sig.returnType = (some .int)) (hlk : meth.locks = false) (hU : gU 1 D cA ad s)  {r : Int32} {st' : gS}  : ∀ (n : Nat) {l2 : Int32} {l3 : Int32} {st : gS} {H : Heap} {locs : List Loc} {ls : Array Slot}, hX11_mostAt_4 a1 n l2 l3 st = some (r, st') → gP0 1 D cA ad st H → va_S (gA 1 ad) s.heap H locs → lv_has ls 4 [(0, .ref (ad 0)), (1, .int a1), (2, .int l2), (3, .int l3)] → W p l e (gRm 2) s m args below meth c H locs 0 0 (MQ below (gQc 1 D cA ad st' (some (.int r))) args s 0 0 (gA 1 ad)) (F0 m 4 ls []) := by
  intro n
  induction n with
  | zero => intro l2 l3 st H locs ls hf hH hS hl; cases hf
  | succ n ih =>
    intro l2 l3 st H locs ls hf hH hS hl
    exact bX11_mostAt_4 (a1 := a1) hC hret hlk hU (fun hf hH hS hl => ih hf hH hS hl) hf hH hS hl
def fX11_mostAt (a1 : Int32)   (st : gS) : Option (Int32 × gS) :=
  hX11_mostAt_4 a1 FU 0 0 st
set_option maxRecDepth 100000 in
set_option maxHeartbeats 4000000 in
theorem bX11_mostAt_0 {a1 : Int32} (hC : CallFix p m c cX11_mostAt 4 s args lw_good RX11) (hret : meth.sig.returnType = (some .int)) (hlk : meth.locks = false) (hU : gU 1 D cA ad s)  {r : Int32} {st' : gS}   {st : gS} {H : Heap} {locs : List Loc} {ls : Array Slot} (hf : fX11_mostAt a1 st = some (r, st')) (hH : gP0 1 D cA ad st H) (hS : va_S (gA 1 ad) s.heap H locs) (hl : lv_has ls 4 [(0, .ref (ad 0)), (1, .int a1)]) : W p l e (gRm 2) s m args below meth c H locs 0 0 (MQ below (gQc 1 D cA ad st' (some (.int r))) args s 0 0 (gA 1 ad)) (F0 m 0 ls []) := by
  obtain ⟨hx, hb, hml, hown, hts⟩ := id hC
  unfold fX11_mostAt at hf
  refine lv_iconst (v := 0) (pc := 0) hx hb dX11_mostAt_0 (by decide) ?_
  refine lv_istore_n (lv' := [(2, .int 0), (0, .ref (ad 0)), (1, .int a1)]) (pc := 1) hx hb dX11_mostAt_1 rfl hl (by decide) rfl (fun ls hl => ?_)
  refine lv_iconst (v := 0) (pc := 2) hx hb dX11_mostAt_2 (by decide) ?_
  refine lv_istore_n (lv' := [(3, .int 0), (2, .int 0), (0, .ref (ad 0)), (1, .int a1)]) (pc := 3) hx hb dX11_mostAt_3 rfl hl (by decide) rfl (fun ls hl => ?_)
  exact wX11_mostAt_4 hC hret hlk hU FU hf hH hS (lv_sub hl [2, 3, 1, 0] rfl)
set_option maxRecDepth 100000 in
set_option maxHeartbeats 4000000 in
theorem mX11_mostAt {l : Launch} {D : va_G} {cA : Nat → ClassId} {ad : Nat → Nat} {a1 : Int32}  {r : Int32} {st st' : gS} (hf : fX11_mostAt a1 st = some (r, st')) : gM l yX11_mostAt cX11_mostAt 4 (some .int) 2 1 D cA ad st [.ref (ad 0), .int a1] (some (.int r)) st' := by
  refine g_met (by decide) (Nat.le_of_ble_eq_true rfl) ?_
  intro p e s m args below meth c ls hC hret hlk hU hH hl
  exact bX11_mostAt_0 hC hret hlk hU hf hH va_S.rf hl
def fX11_ask_27 (a1 : Int32) (a2 : Int32) (k27 : Int32 → Int32 → gS → Option (Int32 × gS)) (l4 : Int32) (l5 : Int32) (st : gS) : Option (Int32 × gS) :=
  if 6 < l5 then (if a1 = 0 then (some (l4, st)) else ((fX11_mostAt l4 st).bind fun q27_1 => (some (q27_1.1, q27_1.2)))) else ((fX11_mostAt l5 st).bind fun q27_2 => ((fX11_mostAt l4 q27_2.2).bind fun q27_3 => (if q27_3.1 ≤ q27_2.1 then (k27 l4 (l5 + 1) q27_3.2) else (k27 l5 (l5 + 1) q27_3.2))))
set_option maxRecDepth 100000 in
set_option maxHeartbeats 4000000 in
theorem bX11_ask_27 {a1 : Int32} {a2 : Int32} (hC : CallFix p m c cX11_ask 6 s args lw_good RX11) (hret : meth.sig.returnType = (some .int)) (hlk : meth.locks = false) (hU : gU 1 D cA ad s)  {r : Int32} {st' : gS} {k27 : Int32 → Int32 → gS → Option (Int32 × gS)} (hk27 : ∀ {l4 : Int32} {l5 : Int32} {st : gS} {H : Heap} {locs : List Loc} {ls : Array Slot}, k27 l4 l5 st = some (r, st') → gP0 1 D cA ad st H → va_S (gA 1 ad) s.heap H locs → lv_has ls 6 [(0, .ref (ad 0)), (1, .int a1), (4, .int l4), (5, .int l5)] → W p l e (gRm 3) s m args below meth c H locs 0 0 (MQ below (gQc 1 D cA ad st' (some (.int r))) args s 0 0 (gA 1 ad)) (F0 m 27 ls [])) {l4 : Int32} {l5 : Int32} {st : gS} {H : Heap} {locs : List Loc} {ls : Array Slot} (hf : fX11_ask_27 a1 a2 k27 l4 l5 st = some (r, st')) (hH : gP0 1 D cA ad st H) (hS : va_S (gA 1 ad) s.heap H locs) (hl : lv_has ls 6 [(0, .ref (ad 0)), (1, .int a1), (4, .int l4), (5, .int l5)]) : W p l e (gRm 3) s m args below meth c H locs 0 0 (MQ below (gQc 1 D cA ad st' (some (.int r))) args s 0 0 (gA 1 ad)) (F0 m 27 ls []) := by
  obtain ⟨hx, hb, hml, hown, hts⟩ := id hC
  unfold fX11_ask_27 at hf
  refine lv_iload (pc := 27) hx hb dX11_ask_27 (lv_at hl 3 rfl) ?_
  refine lv_bipush (v := 6) (pc := 29) hx hb dX11_ask_29 (by decide) ?_
  refine lv_icmp_gt (tgt := 64) (pc := 31) hx hb dX11_ask_31 (by decide) (fun hc => ?_) (fun hc => ?_)
  · have hf := gif_p hc hf
    refine lv_iload_n (pc := 64) hx hb dX11_ask_64 rfl (lv_at hl 1 rfl) ?_
    refine lv_if_ne (tgt := 73) (pc := 65) hx hb dX11_ask_65 (by decide) (fun hc => ?_) (fun hc => ?_)
    · have hf := gif_n hc hf
      refine lv_aload_n (pc := 73) hx hb dX11_ask_73 rfl (lv_at hl 0 rfl) ?_
      refine lv_iload (pc := 74) hx hb dX11_ask_74 (lv_at hl 2 rfl) ?_
      obtain ⟨q27_1, hq27_1, hf⟩ := gbd hf
      refine g_callVi (pc := 76) (rest := []) hC hU hH hS hl.1 gk1_0 rfl (by decide) (mX11_mostAt  hq27_1) ky_X11_mostAt km_X11_529 ⟨Nat.le_of_ble_eq_true rfl, Nat.le_of_ble_eq_true rfl⟩ ⟨Nat.zero_le _, Nat.zero_le _⟩ rfl (Nat.le_of_ble_eq_true rfl) dX11_ask_76 rfl (fun H locs hH hS => ?_)
      exact g_iret (pc := 79) hC hret hlk hH hS hf dX11_ask_79
    · have hf := gif_p hc hf
      refine lv_iload (pc := 68) hx hb dX11_ask_68 (lv_at hl 2 rfl) ?_
      refine lv_goto (tgt := 79) (pc := 70) hx hb dX11_ask_70 (by decide) ?_
      exact g_iret (pc := 79) hC hret hlk hH hS hf dX11_ask_79
  · have hf := gif_n hc hf
    refine lv_aload_n (pc := 34) hx hb dX11_ask_34 rfl (lv_at hl 0 rfl) ?_
    refine lv_iload (pc := 35) hx hb dX11_ask_35 (lv_at hl 3 rfl) ?_
    obtain ⟨q27_2, hq27_2, hf⟩ := gbd hf
    refine g_callVi (pc := 37) (rest := []) hC hU hH hS hl.1 gk1_0 rfl (by decide) (mX11_mostAt  hq27_2) ky_X11_mostAt km_X11_529 ⟨Nat.le_of_ble_eq_true rfl, Nat.le_of_ble_eq_true rfl⟩ ⟨Nat.zero_le _, Nat.zero_le _⟩ rfl (Nat.le_of_ble_eq_true rfl) dX11_ask_37 rfl (fun H locs hH hS => ?_)
    refine lv_aload_n (pc := 40) hx hb dX11_ask_40 rfl (lv_at hl 0 rfl) ?_
    refine lv_iload (pc := 41) hx hb dX11_ask_41 (lv_at hl 2 rfl) ?_
    obtain ⟨q27_3, hq27_3, hf⟩ := gbd hf
    refine g_callVi (pc := 43) (rest := [.int q27_2.1]) hC hU hH hS hl.1 gk1_0 rfl (by decide) (mX11_mostAt  hq27_3) ky_X11_mostAt km_X11_529 ⟨Nat.le_of_ble_eq_true rfl, Nat.le_of_ble_eq_true rfl⟩ ⟨Nat.zero_le _, Nat.zero_le _⟩ rfl (Nat.le_of_ble_eq_true rfl) dX11_ask_43 rfl (fun H locs hH hS => ?_)
    refine lv_icmp_ge (tgt := 54) (pc := 46) hx hb dX11_ask_46 (by decide) (fun hc => ?_) (fun hc => ?_)
    · have hf := gif_p hc hf
      refine lv_iload (pc := 54) hx hb dX11_ask_54 (lv_at hl 2 rfl) ?_
      refine lv_istore (lv' := [(4, .int l4), (0, .ref (ad 0)), (1, .int a1), (5, .int l5)]) (pc := 56) hx hb dX11_ask_56 hl (by decide) rfl (fun ls hl => ?_)
      refine lv_iinc (v := l5 + 1) (lv' := [(5, .int (l5 + 1)), (4, .int l4), (0, .ref (ad 0)), (1, .int a1)]) (k := 3) (pc := 58) hx hb dX11_ask_58 hl rfl rfl (by decide) rfl (fun ls hl => ?_)
      refine lv_goto (tgt := 27) (pc := 61) hx hb dX11_ask_61 (by decide) ?_
      exact hk27 hf hH hS (lv_sub hl [2, 3, 1, 0] rfl)
    · have hf := gif_n hc hf
      refine lv_iload (pc := 49) hx hb dX11_ask_49 (lv_at hl 3 rfl) ?_
      refine lv_goto (tgt := 56) (pc := 51) hx hb dX11_ask_51 (by decide) ?_
      refine lv_istore (lv' := [(4, .int l5), (0, .ref (ad 0)), (1, .int a1), (5, .int l5)]) (pc := 56) hx hb dX11_ask_56 hl (by decide) rfl (fun ls hl => ?_)
      refine lv_iinc (v := l5 + 1) (lv' := [(5, .int (l5 + 1)), (4, .int l5), (0, .ref (ad 0)), (1, .int a1)]) (k := 3) (pc := 58) hx hb dX11_ask_58 hl rfl rfl (by decide) rfl (fun ls hl => ?_)
      refine lv_goto (tgt := 27) (pc := 61) hx hb dX11_ask_61 (by decide) ?_
      exact hk27 hf hH hS (lv_sub hl [2, 3, 1, 0] rfl)
def hX11_ask_27 (a1 : Int32) (a2 : Int32)  : Nat → Int32 → Int32 → gS → Option (Int32 × gS)
  | 0 => fun _ _ _ => none
  | n + 1 => fun l4 l5 st => fX11_ask_27 a1 a2 (hX11_ask_27 a1 a2 n) l4 l5 st
set_option maxRecDepth 100000 in
set_option maxHeartbeats 4000000 in
theorem wX11_ask_27 {a1 : Int32} {a2 : Int32} (hC : CallFix p m c cX11_ask 6 s args lw_good RX11) (hret : meth.sig.returnType = (some .int)) (hlk : meth.locks = false) (hU : gU 1 D cA ad s)  {r : Int32} {st' : gS}  : ∀ (n : Nat) {l4 : Int32} {l5 : Int32} {st : gS} {H : Heap} {locs : List Loc} {ls : Array Slot}, hX11_ask_27 a1 a2 n l4 l5 st = some (r, st') → gP0 1 D cA ad st H → va_S (gA 1 ad) s.heap H locs → lv_has ls 6 [(0, .ref (ad 0)), (1, .int a1), (4, .int l4), (5, .int l5)] → W p l e (gRm 3) s m args below meth c H locs 0 0 (MQ below (gQc 1 D cA ad st' (some (.int r))) args s 0 0 (gA 1 ad)) (F0 m 27 ls []) := by
  intro n
  induction n with
  | zero => intro l4 l5 st H locs ls hf hH hS hl; cases hf
  | succ n ih =>
    intro l4 l5 st H locs ls hf hH hS hl
    exact bX11_ask_27 (a1 := a1) (a2 := a2) hC hret hlk hU (fun hf hH hS hl => ih hf hH hS hl) hf hH hS hl
def fX11_ask (a1 : Int32) (a2 : Int32)   (st : gS) : Option (Int32 × gS) :=
  (fX11_layRows a2 st).bind fun q0_1 => ((fX11_isIn a1 0 1 q0_1.2).bind fun q0_2 => (if q0_2.1 = 0 then (some ((-1), q0_2.2)) else (if q0_1.1 = 0 then (some ((-1), q0_2.2)) else (hX11_ask_27 a1 a2 FU 0 1 q0_2.2))))
set_option maxRecDepth 100000 in
set_option maxHeartbeats 4000000 in
theorem bX11_ask_0 {a1 : Int32} {a2 : Int32} (hC : CallFix p m c cX11_ask 6 s args lw_good RX11) (hret : meth.sig.returnType = (some .int)) (hlk : meth.locks = false) (hU : gU 1 D cA ad s)  {r : Int32} {st' : gS}   {st : gS} {H : Heap} {locs : List Loc} {ls : Array Slot} (hf : fX11_ask a1 a2 st = some (r, st')) (hH : gP0 1 D cA ad st H) (hS : va_S (gA 1 ad) s.heap H locs) (hl : lv_has ls 6 [(0, .ref (ad 0)), (1, .int a1), (2, .int a2)]) : W p l e (gRm 3) s m args below meth c H locs 0 0 (MQ below (gQc 1 D cA ad st' (some (.int r))) args s 0 0 (gA 1 ad)) (F0 m 0 ls []) := by
  obtain ⟨hx, hb, hml, hown, hts⟩ := id hC
  unfold fX11_ask at hf
  refine lv_aload_n (pc := 0) hx hb dX11_ask_0 rfl (lv_at hl 0 rfl) ?_
  refine lv_iload_n (pc := 1) hx hb dX11_ask_1 rfl (lv_at hl 2 rfl) ?_
  obtain ⟨q0_1, hq0_1, hf⟩ := gbd hf
  refine g_callVi (pc := 2) (rest := []) hC hU hH hS hl.1 gk1_0 rfl (by decide) (mX11_layRows  hq0_1) ky_X11_layRows km_X11_523 ⟨Nat.le_of_ble_eq_true rfl, Nat.le_of_ble_eq_true rfl⟩ ⟨Nat.zero_le _, Nat.zero_le _⟩ rfl (Nat.le_of_ble_eq_true rfl) dX11_ask_2 rfl (fun H locs hH hS => ?_)
  refine lv_istore_n (lv' := [(3, .int q0_1.1), (0, .ref (ad 0)), (1, .int a1), (2, .int a2)]) (pc := 5) hx hb dX11_ask_5 rfl hl (by decide) rfl (fun ls hl => ?_)
  refine lv_iload_n (pc := 6) hx hb dX11_ask_6 rfl (lv_at hl 2 rfl) ?_
  refine lv_iconst (v := 0) (pc := 7) hx hb dX11_ask_7 (by decide) ?_
  refine lv_iconst (v := 1) (pc := 8) hx hb dX11_ask_8 (by decide) ?_
  obtain ⟨q0_2, hq0_2, hf⟩ := gbd hf
  refine g_callSi (pc := 9) (rest := []) hC hU hH hS hl.1 (mX11_isIn  hq0_2) ky_X11_isIn km_X11_416 ⟨Nat.le_of_ble_eq_true rfl, Nat.le_of_ble_eq_true rfl⟩ ⟨Nat.zero_le _, Nat.zero_le _⟩ rfl (Nat.le_of_ble_eq_true rfl) dX11_ask_9 rfl (fun H locs hH hS => ?_)
  refine lv_if_eq (tgt := 19) (pc := 12) hx hb dX11_ask_12 (by decide) (fun hc => ?_) (fun hc => ?_)
  · have hf := gif_p hc hf
    refine lv_iconst (v := (-1)) (pc := 19) hx hb dX11_ask_19 (by decide) ?_
    exact g_iret (pc := 20) hC hret hlk hH hS hf dX11_ask_20
  · have hf := gif_n hc hf
    refine lv_iload_n (pc := 15) hx hb dX11_ask_15 rfl (lv_at hl 0 rfl) ?_
    refine lv_if_ne (tgt := 21) (pc := 16) hx hb dX11_ask_16 (by decide) (fun hc => ?_) (fun hc => ?_)
    · have hf := gif_n hc hf
      refine lv_iconst (v := 0) (pc := 21) hx hb dX11_ask_21 (by decide) ?_
      refine lv_istore (lv' := [(4, .int 0), (3, .int q0_1.1), (0, .ref (ad 0)), (1, .int a1), (2, .int a2)]) (pc := 22) hx hb dX11_ask_22 hl (by decide) rfl (fun ls hl => ?_)
      refine lv_iconst (v := 1) (pc := 24) hx hb dX11_ask_24 (by decide) ?_
      refine lv_istore (lv' := [(5, .int 1), (4, .int 0), (3, .int q0_1.1), (0, .ref (ad 0)), (1, .int a1), (2, .int a2)]) (pc := 25) hx hb dX11_ask_25 hl (by decide) rfl (fun ls hl => ?_)
      exact wX11_ask_27 hC hret hlk hU FU hf hH hS (lv_sub hl [3, 4, 1, 0] rfl)
    · have hf := gif_p hc hf
      refine lv_iconst (v := (-1)) (pc := 19) hx hb dX11_ask_19 (by decide) ?_
      exact g_iret (pc := 20) hC hret hlk hH hS hf dX11_ask_20
set_option maxRecDepth 100000 in
set_option maxHeartbeats 4000000 in
theorem mX11_ask {l : Launch} {D : va_G} {cA : Nat → ClassId} {ad : Nat → Nat} {a1 : Int32} {a2 : Int32}  {r : Int32} {st st' : gS} (hf : fX11_ask a1 a2 st = some (r, st')) : gM l yX11_ask cX11_ask 6 (some .int) 3 1 D cA ad st [.ref (ad 0), .int a1, .int a2] (some (.int r)) st' := by
  refine g_met (by decide) (Nat.le_of_ble_eq_true rfl) ?_
  intro p e s m args below meth c ls hC hret hlk hU hH hl
  exact bX11_ask_0 hC hret hlk hU hf hH va_S.rf hl
def fX11_isBox (a0 : Int32)   (st : gS) : Option (Int32 × gS) :=
  if a0 < 0 then (some (0, st)) else (if 3 ≤ a0 then (some (0, st)) else (some (1, st)))
set_option maxRecDepth 100000 in
set_option maxHeartbeats 4000000 in
theorem bX11_isBox_0 {a0 : Int32} (hC : CallFix p m c cX11_isBox 1 s args lw_good RX11) (hret : meth.sig.returnType = (some .boolean)) (hlk : meth.locks = false) (hU : gU 1 D cA ad s)  {r : Int32} {st' : gS}   {st : gS} {H : Heap} {locs : List Loc} {ls : Array Slot} (hf : fX11_isBox a0 st = some (r, st')) (hH : gP0 1 D cA ad st H) (hS : va_S (gA 1 ad) s.heap H locs) (hl : lv_has ls 1 [(0, .int a0)]) : W p l e (gRm 1) s m args below meth c H locs 0 0 (MQ below (gQc 1 D cA ad st' (some (.int r))) args s 0 0 (gA 1 ad)) (F0 m 0 ls []) := by
  obtain ⟨hx, hb, hml, hown, hts⟩ := id hC
  unfold fX11_isBox at hf
  refine lv_iload_n (pc := 0) hx hb dX11_isBox_0 rfl (lv_at hl 0 rfl) ?_
  refine lv_if_lt (tgt := 13) (pc := 1) hx hb dX11_isBox_1 (by decide) (fun hc => ?_) (fun hc => ?_)
  · have hf := gif_p hc hf
    refine lv_iconst (v := 0) (pc := 13) hx hb dX11_isBox_13 (by decide) ?_
    exact g_zret (pc := 14) hC hret hlk hH hS (by decide) hf dX11_isBox_14
  · have hf := gif_n hc hf
    refine lv_iload_n (pc := 4) hx hb dX11_isBox_4 rfl (lv_at hl 0 rfl) ?_
    refine lv_iconst (v := 3) (pc := 5) hx hb dX11_isBox_5 (by decide) ?_
    refine lv_icmp_ge (tgt := 13) (pc := 6) hx hb dX11_isBox_6 (by decide) (fun hc => ?_) (fun hc => ?_)
    · have hf := gif_p hc hf
      refine lv_iconst (v := 0) (pc := 13) hx hb dX11_isBox_13 (by decide) ?_
      exact g_zret (pc := 14) hC hret hlk hH hS (by decide) hf dX11_isBox_14
    · have hf := gif_n hc hf
      refine lv_iconst (v := 1) (pc := 9) hx hb dX11_isBox_9 (by decide) ?_
      refine lv_goto (tgt := 14) (pc := 10) hx hb dX11_isBox_10 (by decide) ?_
      exact g_zret (pc := 14) hC hret hlk hH hS (by decide) hf dX11_isBox_14
set_option maxRecDepth 100000 in
set_option maxHeartbeats 4000000 in
theorem mX11_isBox {l : Launch} {D : va_G} {cA : Nat → ClassId} {ad : Nat → Nat} {a0 : Int32}  {r : Int32} {st st' : gS} (hf : fX11_isBox a0 st = some (r, st')) : gM l yX11_isBox cX11_isBox 1 (some .boolean) 1 1 D cA ad st [.int a0] (some (.int r)) st' := by
  refine g_met (by decide) (Nat.le_of_ble_eq_true rfl) ?_
  intro p e s m args below meth c ls hC hret hlk hU hH hl
  exact bX11_isBox_0 hC hret hlk hU hf hH va_S.rf hl
def fX11_image_18 (a1 : Int32) (k18 : Int32 → gS → Option (Int32 × gS)) (l2 : Int32) (st : gS) : Option (Int32 × gS) :=
  if 18 ≤ l2 then (gc (gI 16 18) (some (st.1 28 (16 : Int32).toNatClampNeg, st))) else (gc (gI l2 18) (gc (gI ((18 * a1) + l2) 54) (k18 (l2 + 1) (wi st 46 ((18 * a1) + l2).toNatClampNeg (st.1 28 l2.toNatClampNeg)))))
set_option maxRecDepth 100000 in
set_option maxHeartbeats 4000000 in
theorem bX11_image_18 {a1 : Int32} (hC : CallFix p m c cX11_image 3 s args lw_good RX11) (hret : meth.sig.returnType = (some .int)) (hlk : meth.locks = false) (hU : gU 1 D cA ad s)  {r : Int32} {st' : gS} {k18 : Int32 → gS → Option (Int32 × gS)} (hk18 : ∀ {l2 : Int32} {st : gS} {H : Heap} {locs : List Loc} {ls : Array Slot}, k18 l2 st = some (r, st') → gP0 1 D cA ad st H → va_S (gA 1 ad) s.heap H locs → lv_has ls 3 [(0, .ref (ad 0)), (1, .int a1), (2, .int l2)] → W p l e (gRm 2) s m args below meth c H locs 0 0 (MQ below (gQc 1 D cA ad st' (some (.int r))) args s 0 0 (gA 1 ad)) (F0 m 18 ls [])) {l2 : Int32} {st : gS} {H : Heap} {locs : List Loc} {ls : Array Slot} (hf : fX11_image_18 a1 k18 l2 st = some (r, st')) (hH : gP0 1 D cA ad st H) (hS : va_S (gA 1 ad) s.heap H locs) (hl : lv_has ls 3 [(0, .ref (ad 0)), (1, .int a1), (2, .int l2)]) : W p l e (gRm 2) s m args below meth c H locs 0 0 (MQ below (gQc 1 D cA ad st' (some (.int r))) args s 0 0 (gA 1 ad)) (F0 m 18 ls []) := by
  obtain ⟨hx, hb, hml, hown, hts⟩ := id hC
  unfold fX11_image_18 at hf
  refine lv_iload_n (pc := 18) hx hb dX11_image_18 rfl (lv_at hl 2 rfl) ?_
  refine lv_bipush (v := 18) (pc := 19) hx hb dX11_image_19 (by decide) ?_
  refine lv_icmp_ge (tgt := 47) (pc := 21) hx hb dX11_image_21 (by decide) (fun hc => ?_) (fun hc => ?_)
  · have hf := gif_p hc hf
    refine lv_aload_n (pc := 47) hx hb dX11_image_47 rfl (lv_at hl 0 rfl) ?_
    refine g_get (pc := 48) (v := .ref (ad 28)) hC hU hH gk1_0 g_cl11 55 (by decide) kf_X11_100 rfl dX11_image_48 ?_
    refine lv_bipush (v := 16) (pc := 51) hx hb dX11_image_51 (by decide) ?_
    obtain ⟨h18_1, hf⟩ := gc_s hf
    refine g_iald (pc := 53) hC hU hH gk1_28 gn1_28 h18_1 dX11_image_53 ?_
    exact g_iret (pc := 54) hC hret hlk hH hS hf dX11_image_54
  · have hf := gif_n hc hf
    refine lv_aload_n (pc := 24) hx hb dX11_image_24 rfl (lv_at hl 0 rfl) ?_
    refine g_get (pc := 25) (v := .ref (ad 46)) hC hU hH gk1_0 g_cl11 78 (by decide) kf_X11_154 rfl dX11_image_25 ?_
    refine lv_bipush (v := 18) (pc := 28) hx hb dX11_image_28 (by decide) ?_
    refine lv_iload_n (pc := 30) hx hb dX11_image_30 rfl (lv_at hl 1 rfl) ?_
    refine lv_imul (pc := 31) hx hb dX11_image_31 ?_
    refine lv_iload_n (pc := 32) hx hb dX11_image_32 rfl (lv_at hl 2 rfl) ?_
    refine lv_iadd (pc := 33) hx hb dX11_image_33 ?_
    refine lv_aload_n (pc := 34) hx hb dX11_image_34 rfl (lv_at hl 0 rfl) ?_
    refine g_get (pc := 35) (v := .ref (ad 28)) hC hU hH gk1_0 g_cl11 55 (by decide) kf_X11_100 rfl dX11_image_35 ?_
    refine lv_iload_n (pc := 38) hx hb dX11_image_38 rfl (lv_at hl 2 rfl) ?_
    obtain ⟨h18_2, hf⟩ := gc_s hf
    refine g_iald (pc := 39) hC hU hH gk1_28 gn1_28 h18_2 dX11_image_39 ?_
    obtain ⟨h18_3, hf⟩ := gc_s hf
    refine g_iast (pc := 40) hC hU hH hS gk1_46 gn1_46 h18_3 dX11_image_40 (fun H locs hH hS => ?_)
    refine lv_iinc (v := l2 + 1) (lv' := [(2, .int (l2 + 1)), (0, .ref (ad 0)), (1, .int a1)]) (k := 2) (pc := 41) hx hb dX11_image_41 hl rfl rfl (by decide) rfl (fun ls hl => ?_)
    refine lv_goto (tgt := 18) (pc := 44) hx hb dX11_image_44 (by decide) ?_
    exact hk18 hf hH hS (lv_sub hl [1, 2, 0] rfl)
def hX11_image_18 (a1 : Int32)  : Nat → Int32 → gS → Option (Int32 × gS)
  | 0 => fun _ _ => none
  | n + 1 => fun l2 st => fX11_image_18 a1 (hX11_image_18 a1 n) l2 st
set_option maxRecDepth 100000 in
set_option maxHeartbeats 4000000 in
theorem wX11_image_18 {a1 : Int32} (hC : CallFix p m c cX11_image 3 s args lw_good RX11) (hret : meth.sig.returnType = (some .int)) (hlk : meth.locks = false) (hU : gU 1 D cA ad s)  {r : Int32} {st' : gS}  : ∀ (n : Nat) {l2 : Int32} {st : gS} {H : Heap} {locs : List Loc} {ls : Array Slot}, hX11_image_18 a1 n l2 st = some (r, st') → gP0 1 D cA ad st H → va_S (gA 1 ad) s.heap H locs → lv_has ls 3 [(0, .ref (ad 0)), (1, .int a1), (2, .int l2)] → W p l e (gRm 2) s m args below meth c H locs 0 0 (MQ below (gQc 1 D cA ad st' (some (.int r))) args s 0 0 (gA 1 ad)) (F0 m 18 ls []) := by
  intro n
  induction n with
  | zero => intro l2 st H locs ls hf hH hS hl; cases hf
  | succ n ih =>
    intro l2 st H locs ls hf hH hS hl
    exact bX11_image_18 (a1 := a1) hC hret hlk hU (fun hf hH hS hl => ih hf hH hS hl) hf hH hS hl
def fX11_image (a1 : Int32)   (st : gS) : Option (Int32 × gS) :=
  (fX11_isBox a1 st).bind fun q0_1 => (if q0_1.1 = 0 then (some ((-1), q0_1.2)) else (gc (gI a1 3) (hX11_image_18 a1 FU 0 (wi q0_1.2 45 a1.toNatClampNeg (vp_nar .boolean 1)))))
set_option maxRecDepth 100000 in
set_option maxHeartbeats 4000000 in
theorem bX11_image_0 {a1 : Int32} (hC : CallFix p m c cX11_image 3 s args lw_good RX11) (hret : meth.sig.returnType = (some .int)) (hlk : meth.locks = false) (hU : gU 1 D cA ad s)  {r : Int32} {st' : gS}   {st : gS} {H : Heap} {locs : List Loc} {ls : Array Slot} (hf : fX11_image a1 st = some (r, st')) (hH : gP0 1 D cA ad st H) (hS : va_S (gA 1 ad) s.heap H locs) (hl : lv_has ls 3 [(0, .ref (ad 0)), (1, .int a1)]) : W p l e (gRm 2) s m args below meth c H locs 0 0 (MQ below (gQc 1 D cA ad st' (some (.int r))) args s 0 0 (gA 1 ad)) (F0 m 0 ls []) := by
  obtain ⟨hx, hb, hml, hown, hts⟩ := id hC
  unfold fX11_image at hf
  refine lv_iload_n (pc := 0) hx hb dX11_image_0 rfl (lv_at hl 1 rfl) ?_
  obtain ⟨q0_1, hq0_1, hf⟩ := gbd hf
  refine g_callSi (pc := 1) (rest := []) hC hU hH hS hl.1 (mX11_isBox  hq0_1) ky_X11_isBox km_X11_532 ⟨Nat.le_of_ble_eq_true rfl, Nat.le_of_ble_eq_true rfl⟩ ⟨Nat.zero_le _, Nat.zero_le _⟩ rfl (Nat.le_of_ble_eq_true rfl) dX11_image_1 rfl (fun H locs hH hS => ?_)
  refine lv_if_ne (tgt := 9) (pc := 4) hx hb dX11_image_4 (by decide) (fun hc => ?_) (fun hc => ?_)
  · have hf := gif_n hc hf
    refine lv_aload_n (pc := 9) hx hb dX11_image_9 rfl (lv_at hl 0 rfl) ?_
    refine g_get (pc := 10) (v := .ref (ad 45)) hC hU hH gk1_0 g_cl11 77 (by decide) kf_X11_151 rfl dX11_image_10 ?_
    refine lv_iload_n (pc := 13) hx hb dX11_image_13 rfl (lv_at hl 1 rfl) ?_
    refine lv_iconst (v := 1) (pc := 14) hx hb dX11_image_14 (by decide) ?_
    obtain ⟨h0_1, hf⟩ := gc_s hf
    refine g_zast (pc := 15) hC hU hH hS gk1_45 gn1_45 h0_1 dX11_image_15 (fun H locs hH hS => ?_)
    refine lv_iconst (v := 0) (pc := 16) hx hb dX11_image_16 (by decide) ?_
    refine lv_istore_n (lv' := [(2, .int 0), (0, .ref (ad 0)), (1, .int a1)]) (pc := 17) hx hb dX11_image_17 rfl hl (by decide) rfl (fun ls hl => ?_)
    exact wX11_image_18 hC hret hlk hU FU hf hH hS (lv_sub hl [1, 2, 0] rfl)
  · have hf := gif_p hc hf
    refine lv_iconst (v := (-1)) (pc := 7) hx hb dX11_image_7 (by decide) ?_
    exact g_iret (pc := 8) hC hret hlk hH hS hf dX11_image_8
set_option maxRecDepth 100000 in
set_option maxHeartbeats 4000000 in
theorem mX11_image {l : Launch} {D : va_G} {cA : Nat → ClassId} {ad : Nat → Nat} {a1 : Int32}  {r : Int32} {st st' : gS} (hf : fX11_image a1 st = some (r, st')) : gM l yX11_image cX11_image 3 (some .int) 2 1 D cA ad st [.ref (ad 0), .int a1] (some (.int r)) st' := by
  refine g_met (by decide) (Nat.le_of_ble_eq_true rfl) ?_
  intro p e s m args below meth c ls hC hret hlk hU hH hl
  exact bX11_image_0 hC hret hlk hU hf hH va_S.rf hl
def fX11_back_20 (a1 : Int32) (k20 : Int32 → gS → Option (Int32 × gS)) (l2 : Int32) (st : gS) : Option (Int32 × gS) :=
  if 18 ≤ l2 then (gc (gI 16 18) (some ((wi (wi st 0 58 0) 0 59 0).1 28 (16 : Int32).toNatClampNeg, wi (wi st 0 58 0) 0 59 0))) else (gc (gI ((18 * a1) + l2) 54) (gc (gI l2 18) (k20 (l2 + 1) (wi st 28 l2.toNatClampNeg (st.1 46 ((18 * a1) + l2).toNatClampNeg)))))
set_option maxRecDepth 100000 in
set_option maxHeartbeats 4000000 in
theorem bX11_back_20 {a1 : Int32} (hC : CallFix p m c cX11_back 3 s args lw_good RX11) (hret : meth.sig.returnType = (some .int)) (hlk : meth.locks = false) (hU : gU 1 D cA ad s)  {r : Int32} {st' : gS} {k20 : Int32 → gS → Option (Int32 × gS)} (hk20 : ∀ {l2 : Int32} {st : gS} {H : Heap} {locs : List Loc} {ls : Array Slot}, k20 l2 st = some (r, st') → gP0 1 D cA ad st H → va_S (gA 1 ad) s.heap H locs → lv_has ls 3 [(0, .ref (ad 0)), (1, .int a1), (2, .int l2)] → W p l e (gRm 2) s m args below meth c H locs 0 0 (MQ below (gQc 1 D cA ad st' (some (.int r))) args s 0 0 (gA 1 ad)) (F0 m 20 ls [])) {l2 : Int32} {st : gS} {H : Heap} {locs : List Loc} {ls : Array Slot} (hf : fX11_back_20 a1 k20 l2 st = some (r, st')) (hH : gP0 1 D cA ad st H) (hS : va_S (gA 1 ad) s.heap H locs) (hl : lv_has ls 3 [(0, .ref (ad 0)), (1, .int a1), (2, .int l2)]) : W p l e (gRm 2) s m args below meth c H locs 0 0 (MQ below (gQc 1 D cA ad st' (some (.int r))) args s 0 0 (gA 1 ad)) (F0 m 20 ls []) := by
  obtain ⟨hx, hb, hml, hown, hts⟩ := id hC
  unfold fX11_back_20 at hf
  refine lv_iload_n (pc := 20) hx hb dX11_back_20 rfl (lv_at hl 2 rfl) ?_
  refine lv_bipush (v := 18) (pc := 21) hx hb dX11_back_21 (by decide) ?_
  refine lv_icmp_ge (tgt := 49) (pc := 23) hx hb dX11_back_23 (by decide) (fun hc => ?_) (fun hc => ?_)
  · have hf := gif_p hc hf
    refine lv_aload_n (pc := 49) hx hb dX11_back_49 rfl (lv_at hl 0 rfl) ?_
    refine lv_iconst (v := 0) (pc := 50) hx hb dX11_back_50 (by decide) ?_
    refine g_puti (pc := 51) hC hU hH hS gk1_0 g_cl11 58 (by decide) kf_X11_404 rfl rfl rfl rfl dX11_back_51 (fun H locs hH hS => ?_)
    refine lv_aload_n (pc := 54) hx hb dX11_back_54 rfl (lv_at hl 0 rfl) ?_
    refine lv_iconst (v := 0) (pc := 55) hx hb dX11_back_55 (by decide) ?_
    refine g_puti (pc := 56) hC hU hH hS gk1_0 g_cl11 59 (by decide) kf_X11_407 rfl rfl rfl rfl dX11_back_56 (fun H locs hH hS => ?_)
    refine lv_aload_n (pc := 59) hx hb dX11_back_59 rfl (lv_at hl 0 rfl) ?_
    refine g_get (pc := 60) (v := .ref (ad 28)) hC hU hH gk1_0 g_cl11 55 (by decide) kf_X11_100 rfl dX11_back_60 ?_
    refine lv_bipush (v := 16) (pc := 63) hx hb dX11_back_63 (by decide) ?_
    obtain ⟨h20_1, hf⟩ := gc_s hf
    refine g_iald (pc := 65) hC hU hH gk1_28 gn1_28 h20_1 dX11_back_65 ?_
    exact g_iret (pc := 66) hC hret hlk hH hS hf dX11_back_66
  · have hf := gif_n hc hf
    refine lv_aload_n (pc := 26) hx hb dX11_back_26 rfl (lv_at hl 0 rfl) ?_
    refine g_get (pc := 27) (v := .ref (ad 28)) hC hU hH gk1_0 g_cl11 55 (by decide) kf_X11_100 rfl dX11_back_27 ?_
    refine lv_iload_n (pc := 30) hx hb dX11_back_30 rfl (lv_at hl 2 rfl) ?_
    refine lv_aload_n (pc := 31) hx hb dX11_back_31 rfl (lv_at hl 0 rfl) ?_
    refine g_get (pc := 32) (v := .ref (ad 46)) hC hU hH gk1_0 g_cl11 78 (by decide) kf_X11_154 rfl dX11_back_32 ?_
    refine lv_bipush (v := 18) (pc := 35) hx hb dX11_back_35 (by decide) ?_
    refine lv_iload_n (pc := 37) hx hb dX11_back_37 rfl (lv_at hl 1 rfl) ?_
    refine lv_imul (pc := 38) hx hb dX11_back_38 ?_
    refine lv_iload_n (pc := 39) hx hb dX11_back_39 rfl (lv_at hl 2 rfl) ?_
    refine lv_iadd (pc := 40) hx hb dX11_back_40 ?_
    obtain ⟨h20_2, hf⟩ := gc_s hf
    refine g_iald (pc := 41) hC hU hH gk1_46 gn1_46 h20_2 dX11_back_41 ?_
    obtain ⟨h20_3, hf⟩ := gc_s hf
    refine g_iast (pc := 42) hC hU hH hS gk1_28 gn1_28 h20_3 dX11_back_42 (fun H locs hH hS => ?_)
    refine lv_iinc (v := l2 + 1) (lv' := [(2, .int (l2 + 1)), (0, .ref (ad 0)), (1, .int a1)]) (k := 2) (pc := 43) hx hb dX11_back_43 hl rfl rfl (by decide) rfl (fun ls hl => ?_)
    refine lv_goto (tgt := 20) (pc := 46) hx hb dX11_back_46 (by decide) ?_
    exact hk20 hf hH hS (lv_sub hl [1, 2, 0] rfl)
def hX11_back_20 (a1 : Int32)  : Nat → Int32 → gS → Option (Int32 × gS)
  | 0 => fun _ _ => none
  | n + 1 => fun l2 st => fX11_back_20 a1 (hX11_back_20 a1 n) l2 st
set_option maxRecDepth 100000 in
set_option maxHeartbeats 4000000 in
theorem wX11_back_20 {a1 : Int32} (hC : CallFix p m c cX11_back 3 s args lw_good RX11) (hret : meth.sig.returnType = (some .int)) (hlk : meth.locks = false) (hU : gU 1 D cA ad s)  {r : Int32} {st' : gS}  : ∀ (n : Nat) {l2 : Int32} {st : gS} {H : Heap} {locs : List Loc} {ls : Array Slot}, hX11_back_20 a1 n l2 st = some (r, st') → gP0 1 D cA ad st H → va_S (gA 1 ad) s.heap H locs → lv_has ls 3 [(0, .ref (ad 0)), (1, .int a1), (2, .int l2)] → W p l e (gRm 2) s m args below meth c H locs 0 0 (MQ below (gQc 1 D cA ad st' (some (.int r))) args s 0 0 (gA 1 ad)) (F0 m 20 ls []) := by
  intro n
  induction n with
  | zero => intro l2 st H locs ls hf hH hS hl; cases hf
  | succ n ih =>
    intro l2 st H locs ls hf hH hS hl
    exact bX11_back_20 (a1 := a1) hC hret hlk hU (fun hf hH hS hl => ih hf hH hS hl) hf hH hS hl
def fX11_back (a1 : Int32)   (st : gS) : Option (Int32 × gS) :=
  (fX11_isBox a1 st).bind fun q0_1 => (if q0_1.1 = 0 then (some ((-1), q0_1.2)) else (gc (gI a1 3) (if (q0_1.2.1 45 a1.toNatClampNeg) = 0 then (some ((-1), q0_1.2)) else (hX11_back_20 a1 FU 0 q0_1.2))))
set_option maxRecDepth 100000 in
set_option maxHeartbeats 4000000 in
theorem bX11_back_0 {a1 : Int32} (hC : CallFix p m c cX11_back 3 s args lw_good RX11) (hret : meth.sig.returnType = (some .int)) (hlk : meth.locks = false) (hU : gU 1 D cA ad s)  {r : Int32} {st' : gS}   {st : gS} {H : Heap} {locs : List Loc} {ls : Array Slot} (hf : fX11_back a1 st = some (r, st')) (hH : gP0 1 D cA ad st H) (hS : va_S (gA 1 ad) s.heap H locs) (hl : lv_has ls 3 [(0, .ref (ad 0)), (1, .int a1)]) : W p l e (gRm 2) s m args below meth c H locs 0 0 (MQ below (gQc 1 D cA ad st' (some (.int r))) args s 0 0 (gA 1 ad)) (F0 m 0 ls []) := by
  obtain ⟨hx, hb, hml, hown, hts⟩ := id hC
  unfold fX11_back at hf
  refine lv_iload_n (pc := 0) hx hb dX11_back_0 rfl (lv_at hl 1 rfl) ?_
  obtain ⟨q0_1, hq0_1, hf⟩ := gbd hf
  refine g_callSi (pc := 1) (rest := []) hC hU hH hS hl.1 (mX11_isBox  hq0_1) ky_X11_isBox km_X11_532 ⟨Nat.le_of_ble_eq_true rfl, Nat.le_of_ble_eq_true rfl⟩ ⟨Nat.zero_le _, Nat.zero_le _⟩ rfl (Nat.le_of_ble_eq_true rfl) dX11_back_1 rfl (fun H locs hH hS => ?_)
  refine lv_if_eq (tgt := 16) (pc := 4) hx hb dX11_back_4 (by decide) (fun hc => ?_) (fun hc => ?_)
  · have hf := gif_p hc hf
    refine lv_iconst (v := (-1)) (pc := 16) hx hb dX11_back_16 (by decide) ?_
    exact g_iret (pc := 17) hC hret hlk hH hS hf dX11_back_17
  · have hf := gif_n hc hf
    refine lv_aload_n (pc := 7) hx hb dX11_back_7 rfl (lv_at hl 0 rfl) ?_
    refine g_get (pc := 8) (v := .ref (ad 45)) hC hU hH gk1_0 g_cl11 77 (by decide) kf_X11_151 rfl dX11_back_8 ?_
    refine lv_iload_n (pc := 11) hx hb dX11_back_11 rfl (lv_at hl 1 rfl) ?_
    obtain ⟨h0_1, hf⟩ := gc_s hf
    refine g_zald (pc := 12) hC hU hH gk1_45 gn1_45 h0_1 dX11_back_12 ?_
    refine lv_if_ne (tgt := 18) (pc := 13) hx hb dX11_back_13 (by decide) (fun hc => ?_) (fun hc => ?_)
    · have hf := gif_n hc hf
      refine lv_iconst (v := 0) (pc := 18) hx hb dX11_back_18 (by decide) ?_
      refine lv_istore_n (lv' := [(2, .int 0), (0, .ref (ad 0)), (1, .int a1)]) (pc := 19) hx hb dX11_back_19 rfl hl (by decide) rfl (fun ls hl => ?_)
      exact wX11_back_20 hC hret hlk hU FU hf hH hS (lv_sub hl [1, 2, 0] rfl)
    · have hf := gif_p hc hf
      refine lv_iconst (v := (-1)) (pc := 16) hx hb dX11_back_16 (by decide) ?_
      exact g_iret (pc := 17) hC hret hlk hH hS hf dX11_back_17
set_option maxRecDepth 100000 in
set_option maxHeartbeats 4000000 in
theorem mX11_back {l : Launch} {D : va_G} {cA : Nat → ClassId} {ad : Nat → Nat} {a1 : Int32}  {r : Int32} {st st' : gS} (hf : fX11_back a1 st = some (r, st')) : gM l yX11_back cX11_back 3 (some .int) 2 1 D cA ad st [.ref (ad 0), .int a1] (some (.int r)) st' := by
  refine g_met (by decide) (Nat.le_of_ble_eq_true rfl) ?_
  intro p e s m args below meth c ls hC hret hlk hU hH hl
  exact bX11_back_0 hC hret hlk hU hf hH va_S.rf hl
def fX11_about (a1 : Int32)   (st : gS) : Option (Int32 × gS) :=
  if a1 = 0 then (some (st.1 0 48, st)) else if a1 = 1 then (some (st.1 0 49, st)) else if a1 = 2 then (some (st.1 0 50, st)) else if a1 = 3 then (gc (gI 0 18) (some (st.1 28 (0 : Int32).toNatClampNeg, st))) else if a1 = 4 then (gc (gI 1 18) (some (st.1 28 (1 : Int32).toNatClampNeg, st))) else if a1 = 5 then (gc (gI 2 18) (some (st.1 28 (2 : Int32).toNatClampNeg, st))) else if a1 = 6 then (gc (gI 3 18) (some (st.1 28 (3 : Int32).toNatClampNeg, st))) else if a1 = 7 then (gc (gI 14 18) (some (st.1 28 (14 : Int32).toNatClampNeg, st))) else if a1 = 8 then (gc (gI 15 18) (some (st.1 28 (15 : Int32).toNatClampNeg, st))) else if a1 = 9 then (gc (gI 16 18) (some (st.1 28 (16 : Int32).toNatClampNeg, st))) else if a1 = 10 then (gc (gI 17 18) (some (st.1 28 (17 : Int32).toNatClampNeg, st))) else if a1 = 11 then (some (st.1 0 58, st)) else if a1 = 12 then (some (st.1 0 59, st)) else if a1 = 13 then (some (st.1 0 73, st)) else if a1 = 14 then (some (st.1 0 74, st)) else if a1 = 15 then (some (st.1 0 1, st)) else if a1 = 16 then (some (st.1 0 21, st)) else if a1 = 17 then (some (st.1 0 62, st)) else (some ((-1), st))
set_option maxRecDepth 100000 in
set_option maxHeartbeats 4000000 in
theorem bX11_about_0 {a1 : Int32} (hC : CallFix p m c cX11_about 2 s args lw_good RX11) (hret : meth.sig.returnType = (some .int)) (hlk : meth.locks = false) (hU : gU 1 D cA ad s)  {r : Int32} {st' : gS}   {st : gS} {H : Heap} {locs : List Loc} {ls : Array Slot} (hf : fX11_about a1 st = some (r, st')) (hH : gP0 1 D cA ad st H) (hS : va_S (gA 1 ad) s.heap H locs) (hl : lv_has ls 2 [(0, .ref (ad 0)), (1, .int a1)]) : W p l e (gRm 1) s m args below meth c H locs 0 0 (MQ below (gQc 1 D cA ad st' (some (.int r))) args s 0 0 (gA 1 ad)) (F0 m 0 ls []) := by
  obtain ⟨hx, hb, hml, hown, hts⟩ := id hC
  unfold fX11_about at hf
  refine lv_iload_n (pc := 0) hx hb dX11_about_0 rfl (lv_at hl 1 rfl) ?_
  by_cases hw1_0 : a1 = 0
  · have hf := gif_p hw1_0 hf
    refine g_tswI (tgt := 88) (off := 87) (pc := 1) hx hb hw1_0 dX11_about_1 (by decide) (by decide) (by decide) (by decide) ?_
    refine lv_aload_n (pc := 88) hx hb dX11_about_88 rfl (lv_at hl 0 rfl) ?_
    refine g_get (pc := 89) (v := .int (st.1 0 48)) hC hU hH gk1_0 g_cl11 48 (by decide) kf_X11_392 rfl dX11_about_89 ?_
    exact g_iret (pc := 92) hC hret hlk hH hS hf dX11_about_92
  · have hf := gif_n hw1_0 hf
    by_cases hw1_1 : a1 = 1
    · have hf := gif_p hw1_1 hf
      refine g_tswI (tgt := 93) (off := 92) (pc := 1) hx hb hw1_1 dX11_about_1 (by decide) (by decide) (by decide) (by decide) ?_
      refine lv_aload_n (pc := 93) hx hb dX11_about_93 rfl (lv_at hl 0 rfl) ?_
      refine g_get (pc := 94) (v := .int (st.1 0 49)) hC hU hH gk1_0 g_cl11 49 (by decide) kf_X11_395 rfl dX11_about_94 ?_
      exact g_iret (pc := 97) hC hret hlk hH hS hf dX11_about_97
    · have hf := gif_n hw1_1 hf
      by_cases hw1_2 : a1 = 2
      · have hf := gif_p hw1_2 hf
        refine g_tswI (tgt := 98) (off := 97) (pc := 1) hx hb hw1_2 dX11_about_1 (by decide) (by decide) (by decide) (by decide) ?_
        refine lv_aload_n (pc := 98) hx hb dX11_about_98 rfl (lv_at hl 0 rfl) ?_
        refine g_get (pc := 99) (v := .int (st.1 0 50)) hC hU hH gk1_0 g_cl11 50 (by decide) kf_X11_398 rfl dX11_about_99 ?_
        exact g_iret (pc := 102) hC hret hlk hH hS hf dX11_about_102
      · have hf := gif_n hw1_2 hf
        by_cases hw1_3 : a1 = 3
        · have hf := gif_p hw1_3 hf
          refine g_tswI (tgt := 103) (off := 102) (pc := 1) hx hb hw1_3 dX11_about_1 (by decide) (by decide) (by decide) (by decide) ?_
          refine lv_aload_n (pc := 103) hx hb dX11_about_103 rfl (lv_at hl 0 rfl) ?_
          refine g_get (pc := 104) (v := .ref (ad 28)) hC hU hH gk1_0 g_cl11 55 (by decide) kf_X11_100 rfl dX11_about_104 ?_
          refine lv_iconst (v := 0) (pc := 107) hx hb dX11_about_107 (by decide) ?_
          obtain ⟨h0_1, hf⟩ := gc_s hf
          refine g_iald (pc := 108) hC hU hH gk1_28 gn1_28 h0_1 dX11_about_108 ?_
          exact g_iret (pc := 109) hC hret hlk hH hS hf dX11_about_109
        · have hf := gif_n hw1_3 hf
          by_cases hw1_4 : a1 = 4
          · have hf := gif_p hw1_4 hf
            refine g_tswI (tgt := 110) (off := 109) (pc := 1) hx hb hw1_4 dX11_about_1 (by decide) (by decide) (by decide) (by decide) ?_
            refine lv_aload_n (pc := 110) hx hb dX11_about_110 rfl (lv_at hl 0 rfl) ?_
            refine g_get (pc := 111) (v := .ref (ad 28)) hC hU hH gk1_0 g_cl11 55 (by decide) kf_X11_100 rfl dX11_about_111 ?_
            refine lv_iconst (v := 1) (pc := 114) hx hb dX11_about_114 (by decide) ?_
            obtain ⟨h0_2, hf⟩ := gc_s hf
            refine g_iald (pc := 115) hC hU hH gk1_28 gn1_28 h0_2 dX11_about_115 ?_
            exact g_iret (pc := 116) hC hret hlk hH hS hf dX11_about_116
          · have hf := gif_n hw1_4 hf
            by_cases hw1_5 : a1 = 5
            · have hf := gif_p hw1_5 hf
              refine g_tswI (tgt := 117) (off := 116) (pc := 1) hx hb hw1_5 dX11_about_1 (by decide) (by decide) (by decide) (by decide) ?_
              refine lv_aload_n (pc := 117) hx hb dX11_about_117 rfl (lv_at hl 0 rfl) ?_
              refine g_get (pc := 118) (v := .ref (ad 28)) hC hU hH gk1_0 g_cl11 55 (by decide) kf_X11_100 rfl dX11_about_118 ?_
              refine lv_iconst (v := 2) (pc := 121) hx hb dX11_about_121 (by decide) ?_
              obtain ⟨h0_3, hf⟩ := gc_s hf
              refine g_iald (pc := 122) hC hU hH gk1_28 gn1_28 h0_3 dX11_about_122 ?_
              exact g_iret (pc := 123) hC hret hlk hH hS hf dX11_about_123
            · have hf := gif_n hw1_5 hf
              by_cases hw1_6 : a1 = 6
              · have hf := gif_p hw1_6 hf
                refine g_tswI (tgt := 124) (off := 123) (pc := 1) hx hb hw1_6 dX11_about_1 (by decide) (by decide) (by decide) (by decide) ?_
                refine lv_aload_n (pc := 124) hx hb dX11_about_124 rfl (lv_at hl 0 rfl) ?_
                refine g_get (pc := 125) (v := .ref (ad 28)) hC hU hH gk1_0 g_cl11 55 (by decide) kf_X11_100 rfl dX11_about_125 ?_
                refine lv_iconst (v := 3) (pc := 128) hx hb dX11_about_128 (by decide) ?_
                obtain ⟨h0_4, hf⟩ := gc_s hf
                refine g_iald (pc := 129) hC hU hH gk1_28 gn1_28 h0_4 dX11_about_129 ?_
                exact g_iret (pc := 130) hC hret hlk hH hS hf dX11_about_130
              · have hf := gif_n hw1_6 hf
                by_cases hw1_7 : a1 = 7
                · have hf := gif_p hw1_7 hf
                  refine g_tswI (tgt := 131) (off := 130) (pc := 1) hx hb hw1_7 dX11_about_1 (by decide) (by decide) (by decide) (by decide) ?_
                  refine lv_aload_n (pc := 131) hx hb dX11_about_131 rfl (lv_at hl 0 rfl) ?_
                  refine g_get (pc := 132) (v := .ref (ad 28)) hC hU hH gk1_0 g_cl11 55 (by decide) kf_X11_100 rfl dX11_about_132 ?_
                  refine lv_bipush (v := 14) (pc := 135) hx hb dX11_about_135 (by decide) ?_
                  obtain ⟨h0_5, hf⟩ := gc_s hf
                  refine g_iald (pc := 137) hC hU hH gk1_28 gn1_28 h0_5 dX11_about_137 ?_
                  exact g_iret (pc := 138) hC hret hlk hH hS hf dX11_about_138
                · have hf := gif_n hw1_7 hf
                  by_cases hw1_8 : a1 = 8
                  · have hf := gif_p hw1_8 hf
                    refine g_tswI (tgt := 139) (off := 138) (pc := 1) hx hb hw1_8 dX11_about_1 (by decide) (by decide) (by decide) (by decide) ?_
                    refine lv_aload_n (pc := 139) hx hb dX11_about_139 rfl (lv_at hl 0 rfl) ?_
                    refine g_get (pc := 140) (v := .ref (ad 28)) hC hU hH gk1_0 g_cl11 55 (by decide) kf_X11_100 rfl dX11_about_140 ?_
                    refine lv_bipush (v := 15) (pc := 143) hx hb dX11_about_143 (by decide) ?_
                    obtain ⟨h0_6, hf⟩ := gc_s hf
                    refine g_iald (pc := 145) hC hU hH gk1_28 gn1_28 h0_6 dX11_about_145 ?_
                    exact g_iret (pc := 146) hC hret hlk hH hS hf dX11_about_146
                  · have hf := gif_n hw1_8 hf
                    by_cases hw1_9 : a1 = 9
                    · have hf := gif_p hw1_9 hf
                      refine g_tswI (tgt := 147) (off := 146) (pc := 1) hx hb hw1_9 dX11_about_1 (by decide) (by decide) (by decide) (by decide) ?_
                      refine lv_aload_n (pc := 147) hx hb dX11_about_147 rfl (lv_at hl 0 rfl) ?_
                      refine g_get (pc := 148) (v := .ref (ad 28)) hC hU hH gk1_0 g_cl11 55 (by decide) kf_X11_100 rfl dX11_about_148 ?_
                      refine lv_bipush (v := 16) (pc := 151) hx hb dX11_about_151 (by decide) ?_
                      obtain ⟨h0_7, hf⟩ := gc_s hf
                      refine g_iald (pc := 153) hC hU hH gk1_28 gn1_28 h0_7 dX11_about_153 ?_
                      exact g_iret (pc := 154) hC hret hlk hH hS hf dX11_about_154
                    · have hf := gif_n hw1_9 hf
                      by_cases hw1_10 : a1 = 10
                      · have hf := gif_p hw1_10 hf
                        refine g_tswI (tgt := 155) (off := 154) (pc := 1) hx hb hw1_10 dX11_about_1 (by decide) (by decide) (by decide) (by decide) ?_
                        refine lv_aload_n (pc := 155) hx hb dX11_about_155 rfl (lv_at hl 0 rfl) ?_
                        refine g_get (pc := 156) (v := .ref (ad 28)) hC hU hH gk1_0 g_cl11 55 (by decide) kf_X11_100 rfl dX11_about_156 ?_
                        refine lv_bipush (v := 17) (pc := 159) hx hb dX11_about_159 (by decide) ?_
                        obtain ⟨h0_8, hf⟩ := gc_s hf
                        refine g_iald (pc := 161) hC hU hH gk1_28 gn1_28 h0_8 dX11_about_161 ?_
                        exact g_iret (pc := 162) hC hret hlk hH hS hf dX11_about_162
                      · have hf := gif_n hw1_10 hf
                        by_cases hw1_11 : a1 = 11
                        · have hf := gif_p hw1_11 hf
                          refine g_tswI (tgt := 163) (off := 162) (pc := 1) hx hb hw1_11 dX11_about_1 (by decide) (by decide) (by decide) (by decide) ?_
                          refine lv_aload_n (pc := 163) hx hb dX11_about_163 rfl (lv_at hl 0 rfl) ?_
                          refine g_get (pc := 164) (v := .int (st.1 0 58)) hC hU hH gk1_0 g_cl11 58 (by decide) kf_X11_404 rfl dX11_about_164 ?_
                          exact g_iret (pc := 167) hC hret hlk hH hS hf dX11_about_167
                        · have hf := gif_n hw1_11 hf
                          by_cases hw1_12 : a1 = 12
                          · have hf := gif_p hw1_12 hf
                            refine g_tswI (tgt := 168) (off := 167) (pc := 1) hx hb hw1_12 dX11_about_1 (by decide) (by decide) (by decide) (by decide) ?_
                            refine lv_aload_n (pc := 168) hx hb dX11_about_168 rfl (lv_at hl 0 rfl) ?_
                            refine g_get (pc := 169) (v := .int (st.1 0 59)) hC hU hH gk1_0 g_cl11 59 (by decide) kf_X11_407 rfl dX11_about_169 ?_
                            exact g_iret (pc := 172) hC hret hlk hH hS hf dX11_about_172
                          · have hf := gif_n hw1_12 hf
                            by_cases hw1_13 : a1 = 13
                            · have hf := gif_p hw1_13 hf
                              refine g_tswI (tgt := 173) (off := 172) (pc := 1) hx hb hw1_13 dX11_about_1 (by decide) (by decide) (by decide) (by decide) ?_
                              refine lv_aload_n (pc := 173) hx hb dX11_about_173 rfl (lv_at hl 0 rfl) ?_
                              refine g_get (pc := 174) (v := .int (st.1 0 73)) hC hU hH gk1_0 g_cl11 73 (by decide) kf_X11_410 rfl dX11_about_174 ?_
                              exact g_iret (pc := 177) hC hret hlk hH hS hf dX11_about_177
                            · have hf := gif_n hw1_13 hf
                              by_cases hw1_14 : a1 = 14
                              · have hf := gif_p hw1_14 hf
                                refine g_tswI (tgt := 178) (off := 177) (pc := 1) hx hb hw1_14 dX11_about_1 (by decide) (by decide) (by decide) (by decide) ?_
                                refine lv_aload_n (pc := 178) hx hb dX11_about_178 rfl (lv_at hl 0 rfl) ?_
                                refine g_get (pc := 179) (v := .int (st.1 0 74)) hC hU hH gk1_0 g_cl11 74 (by decide) kf_X11_511 rfl dX11_about_179 ?_
                                exact g_iret (pc := 182) hC hret hlk hH hS hf dX11_about_182
                              · have hf := gif_n hw1_14 hf
                                by_cases hw1_15 : a1 = 15
                                · have hf := gif_p hw1_15 hf
                                  refine g_tswI (tgt := 183) (off := 182) (pc := 1) hx hb hw1_15 dX11_about_1 (by decide) (by decide) (by decide) (by decide) ?_
                                  refine lv_aload_n (pc := 183) hx hb dX11_about_183 rfl (lv_at hl 0 rfl) ?_
                                  refine g_get (pc := 184) (v := .int (st.1 0 1)) hC hU hH gk1_0 g_cl11 1 (by decide) kf_X11_157 rfl dX11_about_184 ?_
                                  exact g_iret (pc := 187) hC hret hlk hH hS hf dX11_about_187
                                · have hf := gif_n hw1_15 hf
                                  by_cases hw1_16 : a1 = 16
                                  · have hf := gif_p hw1_16 hf
                                    refine g_tswI (tgt := 188) (off := 187) (pc := 1) hx hb hw1_16 dX11_about_1 (by decide) (by decide) (by decide) (by decide) ?_
                                    refine lv_aload_n (pc := 188) hx hb dX11_about_188 rfl (lv_at hl 0 rfl) ?_
                                    refine g_get (pc := 189) (v := .int (st.1 0 21)) hC hU hH gk1_0 g_cl11 21 (by decide) kf_X11_401 rfl dX11_about_189 ?_
                                    exact g_iret (pc := 192) hC hret hlk hH hS hf dX11_about_192
                                  · have hf := gif_n hw1_16 hf
                                    by_cases hw1_17 : a1 = 17
                                    · have hf := gif_p hw1_17 hf
                                      refine g_tswI (tgt := 193) (off := 192) (pc := 1) hx hb hw1_17 dX11_about_1 (by decide) (by decide) (by decide) (by decide) ?_
                                      refine lv_aload_n (pc := 193) hx hb dX11_about_193 rfl (lv_at hl 0 rfl) ?_
                                      refine g_get (pc := 194) (v := .int (st.1 0 62)) hC hU hH gk1_0 g_cl11 62 (by decide) kf_X11_413 rfl dX11_about_194 ?_
                                      exact g_iret (pc := 197) hC hret hlk hH hS hf dX11_about_197
                                    · have hf := gif_n hw1_17 hf
                                      refine g_tswO (tgt := 198) (n := 18) (pc := 1) hx hb dX11_about_1 (by intro j hj; match j, hj with | 0, _ => exact hw1_0 | 1, _ => exact hw1_1 | 2, _ => exact hw1_2 | 3, _ => exact hw1_3 | 4, _ => exact hw1_4 | 5, _ => exact hw1_5 | 6, _ => exact hw1_6 | 7, _ => exact hw1_7 | 8, _ => exact hw1_8 | 9, _ => exact hw1_9 | 10, _ => exact hw1_10 | 11, _ => exact hw1_11 | 12, _ => exact hw1_12 | 13, _ => exact hw1_13 | 14, _ => exact hw1_14 | 15, _ => exact hw1_15 | 16, _ => exact hw1_16 | 17, _ => exact hw1_17 | n + 18, h => exact absurd h (by omega)) rfl (by decide) ?_
                                      refine lv_iconst (v := (-1)) (pc := 198) hx hb dX11_about_198 (by decide) ?_
                                      exact g_iret (pc := 199) hC hret hlk hH hS hf dX11_about_199
set_option maxRecDepth 100000 in
set_option maxHeartbeats 4000000 in
theorem mX11_about {l : Launch} {D : va_G} {cA : Nat → ClassId} {ad : Nat → Nat} {a1 : Int32}  {r : Int32} {st st' : gS} (hf : fX11_about a1 st = some (r, st')) : gM l yX11_about cX11_about 2 (some .int) 1 1 D cA ad st [.ref (ad 0), .int a1] (some (.int r)) st' := by
  refine g_met (by decide) (Nat.le_of_ble_eq_true rfl) ?_
  intro p e s m args below meth c ls hC hret hlk hU hH hl
  exact bX11_about_0 hC hret hlk hU hf hH va_S.rf hl
end
