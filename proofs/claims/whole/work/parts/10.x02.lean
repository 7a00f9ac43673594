section
variable {p : Program} {l : Launch} {e : Env} {s : State} {m : MethodId} {args : Array Value} {below : List Frame} {meth : Method} {c : Code} {D : va_G} {cA : Nat → ClassId} {ad : Nat → Nat}
def fX4_readNot  (rc ro : gS → Option (Int32 × gS))   (st : gS) : Option (Int32 × gS) :=
  if (st.1 3 4) ≤ 6 then ((fX7_step (wi st 3 4 ((st.1 3 4) + 1))).bind fun q0_1 => ((ro q0_1).bind fun q0_2 => (if q0_2.1 = 0 then (some (0, q0_2.2)) else (gc (gK 0 ((wi q0_2.2 3 4 ((q0_2.2.1 3 4) - 1)).2.2 3 1) = 8) ((fX0_addStep (((wi q0_2.2 3 4 ((q0_2.2.1 3 4) - 1)).2.2 3 1) + 1 + 11) 15 (wi q0_2.2 3 4 ((q0_2.2.1 3 4) - 1))).bind fun q0_3 => (some (1, q0_3))))))) else ((fX4_refuse 2 st).bind fun q0_4 => (gc (gB q0_4.1) (some (q0_4.1, q0_4.2))))
set_option maxRecDepth 100000 in
set_option maxHeartbeats 4000000 in
theorem bX4_readNot_0  (hC : CallFix p m c cX4_readNot 1 s args lw_good RX4) (hret : meth.sig.returnType = (some .boolean)) (hlk : meth.locks = false) (hU : gU 0 D cA ad s)  {rc ro : gS → Option (Int32 × gS)} {Lr : Nat} (hLr : 20 ≤ Lr) (hrc : ∀ {st st' : gS} {r : Int32}, rc st = some (r, st') → gM l yX4_readOr cX4_readOr 2 (some .boolean) (Lr + 2) 0 D cA ad st [.ref (ad 3)] (some (.int r)) st') (hro : ∀ {st st' : gS} {r : Int32}, ro st = some (r, st') → gM l yX4_readOne cX4_readOne 2 (some .boolean) Lr 0 D cA ad st [.ref (ad 3)] (some (.int r)) st') {r : Int32} {st' : gS}   {st : gS} {H : Heap} {locs : List Loc} {ls : Array Slot} (hf : fX4_readNot rc ro st = some (r, st')) (hH : gP0 0 D cA ad st H) (hS : va_S (gA 0 ad) s.heap H locs) (hl : lv_has ls 1 [(0, .ref (ad 3))]) : W p l e (gRm (Lr + 6)) s m args below meth c H locs 0 0 (MQ below (gQc 0 D cA ad st' (some (.int r))) args s 0 0 (gA 0 ad)) (F0 m 0 ls []) := by
  obtain ⟨hx, hb, hml, hown, hts⟩ := id hC
  unfold fX4_readNot at hf
  refine lv_aload_n (pc := 0) hx hb dX4_readNot_0 rfl (lv_at hl 0 rfl) ?_
  refine g_get (pc := 1) (v := .int (st.1 3 4)) hC hU hH gk0_3 g_cl4 4 (by decide) kf_X4_25 rfl dX4_readNot_1 ?_
  refine lv_bipush (v := 6) (pc := 4) hx hb dX4_readNot_4 (by decide) ?_
  refine lv_icmp_le (tgt := 15) (pc := 6) hx hb dX4_readNot_6 (by decide) (fun hc => ?_) (fun hc => ?_)
  · have hf := gif_p hc hf
    refine lv_aload_n (pc := 15) hx hb dX4_readNot_15 rfl (lv_at hl 0 rfl) ?_
    refine lv_dup (pc := 16) hx hb dX4_readNot_16 rfl ?_
    refine g_get (pc := 17) (v := .int (st.1 3 4)) hC hU hH gk0_3 g_cl4 4 (by decide) kf_X4_25 rfl dX4_readNot_17 ?_
    refine lv_iconst (v := 1) (pc := 20) hx hb dX4_readNot_20 (by decide) ?_
    refine lv_iadd (pc := 21) hx hb dX4_readNot_21 ?_
    refine g_puti (pc := 22) hC hU hH hS gk0_3 g_cl4 4 (by decide) kf_X4_25 rfl rfl rfl rfl dX4_readNot_22 (fun H locs hH hS => ?_)
    refine lv_aload_n (pc := 25) hx hb dX4_readNot_25 rfl (lv_at hl 0 rfl) ?_
    refine g_get (pc := 26) (v := .ref (ad 19)) hC hU hH gk0_3 g_cl4 0 (by decide) kf_X4_40 rfl dX4_readNot_26 ?_
    obtain ⟨q0_1, hq0_1, hf⟩ := gbd hf
    refine g_callVv (pc := 29) (rest := []) hC hU hH hS hl.1 gk0_19 rfl (by decide) (mX7_step  hq0_1) ky_X7_step km_X4_83 (g_rm (by omega) (by decide)) ⟨Nat.zero_le _, Nat.zero_le _⟩ rfl (Nat.le_of_ble_eq_true rfl) dX4_readNot_29 rfl (fun H locs hH hS => ?_)
    refine lv_aload_n (pc := 32) hx hb dX4_readNot_32 rfl (lv_at hl 0 rfl) ?_
    obtain ⟨q0_2, hq0_2, hf⟩ := gbd hf
    refine g_callVi (pc := 33) (rest := []) hC hU hH hS hl.1 gk0_3 rfl (by decide) (hro hq0_2) ky_X4_readOne km_X4_174 (g_rm (by omega) (by decide)) ⟨Nat.zero_le _, Nat.zero_le _⟩ rfl (Nat.le_of_ble_eq_true rfl) dX4_readNot_33 rfl (fun H locs hH hS => ?_)
    refine lv_if_ne (tgt := 41) (pc := 36) hx hb dX4_readNot_36 (by decide) (fun hc => ?_) (fun hc => ?_)
    · have hf := gif_n hc hf
      refine lv_aload_n (pc := 41) hx hb dX4_readNot_41 rfl (lv_at hl 0 rfl) ?_
      refine lv_dup (pc := 42) hx hb dX4_readNot_42 rfl ?_
      refine g_get (pc := 43) (v := .int (q0_2.2.1 3 4)) hC hU hH gk0_3 g_cl4 4 (by decide) kf_X4_25 rfl dX4_readNot_43 ?_
      refine lv_iconst (v := 1) (pc := 46) hx hb dX4_readNot_46 (by decide) ?_
      refine lv_isub (pc := 47) hx hb dX4_readNot_47 ?_
      refine g_puti (pc := 48) hC hU hH hS gk0_3 g_cl4 4 (by decide) kf_X4_25 rfl rfl rfl rfl dX4_readNot_48 (fun H locs hH hS => ?_)
      refine lv_aload_n (pc := 51) hx hb dX4_readNot_51 rfl (lv_at hl 0 rfl) ?_
      refine g_get (pc := 52) (v := .ref (ad ((wi q0_2.2 3 4 ((q0_2.2.1 3 4) - 1)).2.2 3 1))) hC hU hH gk0_3 g_cl4 1 (by decide) kf_X4_12 rfl dX4_readNot_52 ?_
      obtain ⟨h0_1, hf⟩ := gc_s hf
      refine g_get (pc := 55) (v := .ref (ad (((wi q0_2.2 3 4 ((q0_2.2.1 3 4) - 1)).2.2 3 1) + 1 + 11))) hC hU hH h0_1 g_cl8 11 (by decide) kf_X4_155 rfl dX4_readNot_55 ?_
      refine lv_bipush (v := 15) (pc := 58) hx hb dX4_readNot_58 (by decide) ?_
      obtain ⟨q0_3, hq0_3, hf⟩ := gbd hf
      refine g_callVv (pc := 60) (rest := []) hC hU hH hS hl.1 (gk_8_11 h0_1) rfl (by decide) (mX0_addStep (gk_8_11 h0_1) hq0_3) ky_X0_addStep km_X4_170 (g_rm (by omega) (by decide)) ⟨Nat.zero_le _, Nat.zero_le _⟩ rfl (Nat.le_of_ble_eq_true rfl) dX4_readNot_60 rfl (fun H locs hH hS => ?_)
      refine lv_iconst (v := 1) (pc := 63) hx hb dX4_readNot_63 (by decide) ?_
      exact g_zret (pc := 64) hC hret hlk hH hS (by decide) hf dX4_readNot_64
    · have hf := gif_p hc hf
      refine lv_iconst (v := 0) (pc := 39) hx hb dX4_readNot_39 (by decide) ?_
      exact g_zret (pc := 40) hC hret hlk hH hS (by decide) hf dX4_readNot_40
  · have hf := gif_n hc hf
    refine lv_aload_n (pc := 9) hx hb dX4_readNot_9 rfl (lv_at hl 0 rfl) ?_
    refine lv_iconst (v := 2) (pc := 10) hx hb dX4_readNot_10 (by decide) ?_
    obtain ⟨q0_4, hq0_4, hf⟩ := gbd hf
    refine g_callVi (pc := 11) (rest := []) hC hU hH hS hl.1 gk0_3 rfl (by decide) (mX4_refuse  hq0_4) ky_X4_refuse km_X4_79 (g_rm (by omega) (by decide)) ⟨Nat.zero_le _, Nat.zero_le _⟩ rfl (Nat.le_of_ble_eq_true rfl) dX4_readNot_11 rfl (fun H locs hH hS => ?_)
    obtain ⟨h0_2, hf⟩ := gc_s hf
    exact g_zret (pc := 14) hC hret hlk hH hS h0_2 hf dX4_readNot_14
set_option maxRecDepth 100000 in
set_option maxHeartbeats 4000000 in
theorem mX4_readNot {l : Launch} {D : va_G} {cA : Nat → ClassId} {ad : Nat → Nat}   {rc ro : gS → Option (Int32 × gS)} {Lr : Nat} (hLr : 20 ≤ Lr) (hrc : ∀ {st st' : gS} {r : Int32}, rc st = some (r, st') → gM l yX4_readOr cX4_readOr 2 (some .boolean) (Lr + 2) 0 D cA ad st [.ref (ad 3)] (some (.int r)) st') (hro : ∀ {st st' : gS} {r : Int32}, ro st = some (r, st') → gM l yX4_readOne cX4_readOne 2 (some .boolean) Lr 0 D cA ad st [.ref (ad 3)] (some (.int r)) st') {r : Int32} {st st' : gS} (hf : fX4_readNot rc ro st = some (r, st')) : gM l yX4_readNot cX4_readNot 1 (some .boolean) (Lr + 6) 0 D cA ad st [.ref (ad 3)] (some (.int r)) st' := by
  refine g_met (by decide) (Nat.le_of_ble_eq_true rfl) ?_
  intro p e s m args below meth c ls hC hret hlk hU hH hl
  exact bX4_readNot_0 hC hret hlk hU hLr hrc hro hf hH va_S.rf hl
def fX4_readOne_54  (rc ro : gS → Option (Int32 × gS))  (l1 : Int32) (st : gS) : Option (Int32 × gS) :=
  (fX7_step st).bind fun q54_1 => ((fX4_readSum rc ro q54_1).bind fun q54_2 => (if q54_2.1 = 0 then (some (0, q54_2.2)) else (gc (gK 0 (q54_2.2.2.2 3 1) = 8) ((fX0_addStep ((q54_2.2.2.2 3 1) + 1 + 11) l1 q54_2.2).bind fun q54_3 => (some (1, q54_3))))))
set_option maxRecDepth 100000 in
set_option maxHeartbeats 4000000 in
theorem bX4_readOne_54  (hC : CallFix p m c cX4_readOne 2 s args lw_good RX4) (hret : meth.sig.returnType = (some .boolean)) (hlk : meth.locks = false) (hU : gU 0 D cA ad s)  {rc ro : gS → Option (Int32 × gS)} {Lr : Nat} (hLr : 20 ≤ Lr) (hrc : ∀ {st st' : gS} {r : Int32}, rc st = some (r, st') → gM l yX4_readOr cX4_readOr 2 (some .boolean) (Lr + 2) 0 D cA ad st [.ref (ad 3)] (some (.int r)) st') (hro : ∀ {st st' : gS} {r : Int32}, ro st = some (r, st') → gM l yX4_readOne cX4_readOne 2 (some .boolean) Lr 0 D cA ad st [.ref (ad 3)] (some (.int r)) st') {r : Int32} {st' : gS}  {l1 : Int32} {st : gS} {H : Heap} {locs : List Loc} {ls : Array Slot} (hf : fX4_readOne_54 rc ro l1 st = some (r, st')) (hH : gP0 0 D cA ad st H) (hS : va_S (gA 0 ad) s.heap H locs) (hl : lv_has ls 2 [(0, .ref (ad 3)), (1, .int l1)]) : W p l e (gRm (Lr + 9)) s m args below meth c H locs 0 0 (MQ below (gQc 0 D cA ad st' (some (.int r))) args s 0 0 (gA 0 ad)) (F0 m 54 ls []) := by
  obtain ⟨hx, hb, hml, hown, hts⟩ := id hC
  unfold fX4_readOne_54 at hf
  refine lv_aload_n (pc := 54) hx hb dX4_readOne_54 rfl (lv_at hl 0 rfl) ?_
  refine g_get (pc := 55) (v := .ref (ad 19)) hC hU hH gk0_3 g_cl4 0 (by decide) kf_X4_40 rfl dX4_readOne_55 ?_
  obtain ⟨q54_1, hq54_1, hf⟩ := gbd hf
  refine g_callVv (pc := 58) (rest := []) hC hU hH hS hl.1 gk0_19 rfl (by decide) (mX7_step  hq54_1) ky_X7_step km_X4_83 (g_rm (by omega) (by decide)) ⟨Nat.zero_le _, Nat.zero_le _⟩ rfl (Nat.le_of_ble_eq_true rfl) dX4_readOne_58 rfl (fun H locs hH hS => ?_)
  refine lv_aload_n (pc := 61) hx hb dX4_readOne_61 rfl (lv_at hl 0 rfl) ?_
  obtain ⟨q54_2, hq54_2, hf⟩ := gbd hf
  refine g_callVi (pc := 62) (rest := []) hC hU hH hS hl.1 gk0_3 rfl (by decide) (mX4_readSum hLr hrc hro hq54_2) ky_X4_readSum km_X4_180 (g_rm (by omega) (by decide)) ⟨Nat.zero_le _, Nat.zero_le _⟩ rfl (Nat.le_of_ble_eq_true rfl) dX4_readOne_62 rfl (fun H locs hH hS => ?_)
  refine lv_if_ne (tgt := 70) (pc := 65) hx hb dX4_readOne_65 (by decide) (fun hc => ?_) (fun hc => ?_)
  · have hf := gif_n hc hf
    refine lv_aload_n (pc := 70) hx hb dX4_readOne_70 rfl (lv_at hl 0 rfl) ?_
    refine g_get (pc := 71) (v := .ref (ad (q54_2.2.2.2 3 1))) hC hU hH gk0_3 g_cl4 1 (by decide) kf_X4_12 rfl dX4_readOne_71 ?_
    obtain ⟨h54_1, hf⟩ := gc_s hf
    refine g_get (pc := 74) (v := .ref (ad ((q54_2.2.2.2 3 1) + 1 + 11))) hC hU hH h54_1 g_cl8 11 (by decide) kf_X4_155 rfl dX4_readOne_74 ?_
    refine lv_iload_n (pc := 77) hx hb dX4_readOne_77 rfl (lv_at hl 1 rfl) ?_
    obtain ⟨q54_3, hq54_3, hf⟩ := gbd hf
    refine g_callVv (pc := 78) (rest := []) hC hU hH hS hl.1 (gk_8_11 h54_1) rfl (by decide) (mX0_addStep (gk_8_11 h54_1) hq54_3) ky_X0_addStep km_X4_170 (g_rm (by omega) (by decide)) ⟨Nat.zero_le _, Nat.zero_le _⟩ rfl (Nat.le_of_ble_eq_true rfl) dX4_readOne_78 rfl (fun H locs hH hS => ?_)
    refine lv_iconst (v := 1) (pc := 81) hx hb dX4_readOne_81 (by decide) ?_
    exact g_zret (pc := 82) hC hret hlk hH hS (by decide) hf dX4_readOne_82
  · have hf := gif_p hc hf
    refine lv_iconst (v := 0) (pc := 68) hx hb dX4_readOne_68 (by decide) ?_
    exact g_zret (pc := 69) hC hret hlk hH hS (by decide) hf dX4_readOne_69
def fX4_readOne  (rc ro : gS → Option (Int32 × gS))   (st : gS) : Option (Int32 × gS) :=
  if (st.1 19 2) = 15 then ((fX4_readNot rc ro st).bind fun q0_2 => (gc (gB q0_2.1) (some (q0_2.1, q0_2.2)))) else ((fX4_readSum rc ro st).bind fun q0_1 => (if q0_1.1 = 0 then (some (0, q0_1.2)) else (if (q0_1.2.1 19 2) = 60 then (fX4_readOne_54 rc ro (q0_1.2.1 19 2) q0_1.2) else (if (q0_1.2.1 19 2) = 62 then (fX4_readOne_54 rc ro (q0_1.2.1 19 2) q0_1.2) else (if (q0_1.2.1 19 2) = 61 then (fX4_readOne_54 rc ro (q0_1.2.1 19 2) q0_1.2) else (some (1, q0_1.2)))))))
set_option maxRecDepth 100000 in
set_option maxHeartbeats 4000000 in
theorem bX4_readOne_0  (hC : CallFix p m c cX4_readOne 2 s args lw_good RX4) (hret : meth.sig.returnType = (some .boolean)) (hlk : meth.locks = false) (hU : gU 0 D cA ad s)  {rc ro : gS → Option (Int32 × gS)} {Lr : Nat} (hLr : 20 ≤ Lr) (hrc : ∀ {st st' : gS} {r : Int32}, rc st = some (r, st') → gM l yX4_readOr cX4_readOr 2 (some .boolean) (Lr + 2) 0 D cA ad st [.ref (ad 3)] (some (.int r)) st') (hro : ∀ {st st' : gS} {r : Int32}, ro st = some (r, st') → gM l yX4_readOne cX4_readOne 2 (some .boolean) Lr 0 D cA ad st [.ref (ad 3)] (some (.int r)) st') {r : Int32} {st' : gS}   {st : gS} {H : Heap} {locs : List Loc} {ls : Array Slot} (hf : fX4_readOne rc ro st = some (r, st')) (hH : gP0 0 D cA ad st H) (hS : va_S (gA 0 ad) s.heap H locs) (hl : lv_has ls 2 [(0, .ref (ad 3))]) : W p l e (gRm (Lr + 9)) s m args below meth c H locs 0 0 (MQ below (gQc 0 D cA ad st' (some (.int r))) args s 0 0 (gA 0 ad)) (F0 m 0 ls []) := by
  obtain ⟨hx, hb, hml, hown, hts⟩ := id hC
  unfold fX4_readOne at hf
  refine lv_aload_n (pc := 0) hx hb dX4_readOne_0 rfl (lv_at hl 0 rfl) ?_
  refine g_get (pc := 1) (v := .ref (ad 19)) hC hU hH gk0_3 g_cl4 0 (by decide) kf_X4_40 rfl dX4_readOne_1 ?_
  refine g_get (pc := 4) (v := .int (st.1 19 2)) hC hU hH gk0_19 g_cl7 2 (by decide) kf_X4_53 rfl dX4_readOne_4 ?_
  refine lv_bipush (v := 15) (pc := 7) hx hb dX4_readOne_7 (by decide) ?_
  refine lv_icmp_ne (tgt := 17) (pc := 9) hx hb dX4_readOne_9 (by decide) (fun hc => ?_) (fun hc => ?_)
  · have hf := gif_n hc hf
    refine lv_aload_n (pc := 17) hx hb dX4_readOne_17 rfl (lv_at hl 0 rfl) ?_
    obtain ⟨q0_1, hq0_1, hf⟩ := gbd hf
    refine g_callVi (pc := 18) (rest := []) hC hU hH hS hl.1 gk0_3 rfl (by decide) (mX4_readSum hLr hrc hro hq0_1) ky_X4_readSum km_X4_180 (g_rm (by omega) (by decide)) ⟨Nat.zero_le _, Nat.zero_le _⟩ rfl (Nat.le_of_ble_eq_true rfl) dX4_readOne_18 rfl (fun H locs hH hS => ?_)
    refine lv_if_ne (tgt := 26) (pc := 21) hx hb dX4_readOne_21 (by decide) (fun hc => ?_) (fun hc => ?_)
    · have hf := gif_n hc hf
      refine lv_aload_n (pc := 26) hx hb dX4_readOne_26 rfl (lv_at hl 0 rfl) ?_
      refine g_get (pc := 27) (v := .ref (ad 19)) hC hU hH gk0_3 g_cl4 0 (by decide) kf_X4_40 rfl dX4_readOne_27 ?_
      refine g_get (pc := 30) (v := .int (q0_1.2.1 19 2)) hC hU hH gk0_19 g_cl7 2 (by decide) kf_X4_53 rfl dX4_readOne_30 ?_
      refine lv_istore_n (lv' := [(1, .int (q0_1.2.1 19 2)), (0, .ref (ad 3))]) (pc := 33) hx hb dX4_readOne_33 rfl hl (by decide) rfl (fun ls hl => ?_)
      refine lv_iload_n (pc := 34) hx hb dX4_readOne_34 rfl (lv_at hl 0 rfl) ?_
      refine lv_bipush (v := 60) (pc := 35) hx hb dX4_readOne_35 (by decide) ?_
      refine lv_icmp_eq (tgt := 54) (pc := 37) hx hb dX4_readOne_37 (by decide) (fun hc => ?_) (fun hc => ?_)
      · have hf := gif_p hc hf
        exact bX4_readOne_54 hC hret hlk hU hLr hrc hro hf hH hS (lv_sub hl [1, 0] rfl)
      · have hf := gif_n hc hf
        refine lv_iload_n (pc := 40) hx hb dX4_readOne_40 rfl (lv_at hl 0 rfl) ?_
        refine lv_bipush (v := 62) (pc := 41) hx hb dX4_readOne_41 (by decide) ?_
        refine lv_icmp_eq (tgt := 54) (pc := 43) hx hb dX4_readOne_43 (by decide) (fun hc => ?_) (fun hc => ?_)
        · have hf := gif_p hc hf
          exact bX4_readOne_54 hC hret hlk hU hLr hrc hro hf hH hS (lv_sub hl [1, 0] rfl)
        · have hf := gif_n hc hf
          refine lv_iload_n (pc := 46) hx hb dX4_readOne_46 rfl (lv_at hl 0 rfl) ?_
          refine lv_bipush (v := 61) (pc := 47) hx hb dX4_readOne_47 (by decide) ?_
          refine lv_icmp_eq (tgt := 54) (pc := 49) hx hb dX4_readOne_49 (by decide) (fun hc => ?_) (fun hc => ?_)
          · have hf := gif_p hc hf
            exact bX4_readOne_54 hC hret hlk hU hLr hrc hro hf hH hS (lv_sub hl [1, 0] rfl)
          · have hf := gif_n hc hf
            refine lv_iconst (v := 1) (pc := 52) hx hb dX4_readOne_52 (by decide) ?_
            exact g_zret (pc := 53) hC hret hlk hH hS (by decide) hf dX4_readOne_53
    · have hf := gif_p hc hf
      refine lv_iconst (v := 0) (pc := 24) hx hb dX4_readOne_24 (by decide) ?_
      exact g_zret (pc := 25) hC hret hlk hH hS (by decide) hf dX4_readOne_25
  · have hf := gif_p hc hf
    refine lv_aload_n (pc := 12) hx hb dX4_readOne_12 rfl (lv_at hl 0 rfl) ?_
    obtain ⟨q0_2, hq0_2, hf⟩ := gbd hf
    refine g_callVi (pc := 13) (rest := []) hC hU hH hS hl.1 gk0_3 rfl (by decide) (mX4_readNot hLr hrc hro hq0_2) ky_X4_readNot km_X4_177 (g_rm (by omega) (by decide)) ⟨Nat.zero_le _, Nat.zero_le _⟩ rfl (Nat.le_of_ble_eq_true rfl) dX4_readOne_13 rfl (fun H locs hH hS => ?_)
    obtain ⟨h0_1, hf⟩ := gc_s hf
    exact g_zret (pc := 16) hC hret hlk hH hS h0_1 hf dX4_readOne_16
set_option maxRecDepth 100000 in
set_option maxHeartbeats 4000000 in
theorem mX4_readOne {l : Launch} {D : va_G} {cA : Nat → ClassId} {ad : Nat → Nat}   {rc ro : gS → Option (Int32 × gS)} {Lr : Nat} (hLr : 20 ≤ Lr) (hrc : ∀ {st st' : gS} {r : Int32}, rc st = some (r, st') → gM l yX4_readOr cX4_readOr 2 (some .boolean) (Lr + 2) 0 D cA ad st [.ref (ad 3)] (some (.int r)) st') (hro : ∀ {st st' : gS} {r : Int32}, ro st = some (r, st') → gM l yX4_readOne cX4_readOne 2 (some .boolean) Lr 0 D cA ad st [.ref (ad 3)] (some (.int r)) st') {r : Int32} {st st' : gS} (hf : fX4_readOne rc ro st = some (r, st')) : gM l yX4_readOne cX4_readOne 2 (some .boolean) (Lr + 9) 0 D cA ad st [.ref (ad 3)] (some (.int r)) st' := by
  refine g_met (by decide) (Nat.le_of_ble_eq_true rfl) ?_
  intro p e s m args below meth c ls hC hret hlk hU hH hl
  exact bX4_readOne_0 hC hret hlk hU hLr hrc hro hf hH va_S.rf hl
def fX4_readAnd_11  (rc ro : gS → Option (Int32 × gS)) (k11 : Int32 → gS → Option (Int32 × gS)) (l1 : Int32) (st : gS) : Option (Int32 × gS) :=
  if 30 ≤ l1 then (some (1, st)) else (if (st.1 19 2) = 14 then ((fX7_step st).bind fun q11_1 => ((fX4_readOne rc ro q11_1).bind fun q11_2 => (if q11_2.1 = 0 then (some (0, q11_2.2)) else (gc (gK 0 (q11_2.2.2.2 3 1) = 8) ((fX0_addStep ((q11_2.2.2.2 3 1) + 1 + 11) 14 q11_2.2).bind fun q11_3 => (k11 (l1 + 1) q11_3)))))) else (some (1, st)))
set_option maxRecDepth 100000 in
set_option maxHeartbeats 4000000 in
theorem bX4_readAnd_11  (hC : CallFix p m c cX4_readAnd 2 s args lw_good RX4) (hret : meth.sig.returnType = (some .boolean)) (hlk : meth.locks = false) (hU : gU 0 D cA ad s)  {rc ro : gS → Option (Int32 × gS)} {Lr : Nat} (hLr : 20 ≤ Lr) (hrc : ∀ {st st' : gS} {r : Int32}, rc st = some (r, st') → gM l yX4_readOr cX4_readOr 2 (some .boolean) (Lr + 2) 0 D cA ad st [.ref (ad 3)] (some (.int r)) st') (hro : ∀ {st st' : gS} {r : Int32}, ro st = some (r, st') → gM l yX4_readOne cX4_readOne 2 (some .boolean) Lr 0 D cA ad st [.ref (ad 3)] (some (.int r)) st') {r : Int32} {st' : gS} {k11 : Int32 → gS → Option (Int32 × gS)} (hk11 : ∀ {l1 : Int32} {st : gS} {H : Heap} {locs : List Loc} {ls : Array Slot}, k11 l1 st = some (r, st') → gP0 0 D cA ad st H → va_S (gA 0 ad) s.heap H locs → lv_has ls 2 [(0, .ref (ad 3)), (1, .int l1)] → W p l e (gRm (Lr + 10)) s m args below meth c H locs 0 0 (MQ below (gQc 0 D cA ad st' (some (.int r))) args s 0 0 (gA 0 ad)) (F0 m 11 ls [])) {l1 : Int32} {st : gS} {H : Heap} {locs : List Loc} {ls : Array Slot} (hf : fX4_readAnd_11 rc ro k11 l1 st = some (r, st')) (hH : gP0 0 D cA ad st H) (hS : va_S (gA 0 ad) s.heap H locs) (hl : lv_has ls 2 [(0, .ref (ad 3)), (1, .int l1)]) : W p l e (gRm (Lr + 10)) s m args below meth c H locs 0 0 (MQ below (gQc 0 D cA ad st' (some (.int r))) args s 0 0 (gA 0 ad)) (F0 m 11 ls []) := by
  obtain ⟨hx, hb, hml, hown, hts⟩ := id hC
  unfold fX4_readAnd_11 at hf
  refine lv_iload_n (pc := 11) hx hb dX4_readAnd_11 rfl (lv_at hl 1 rfl) ?_
  refine lv_bipush (v := 30) (pc := 12) hx hb dX4_readAnd_12 (by decide) ?_
  refine lv_icmp_ge (tgt := 63) (pc := 14) hx hb dX4_readAnd_14 (by decide) (fun hc => ?_) (fun hc => ?_)
  · have hf := gif_p hc hf
    refine lv_iconst (v := 1) (pc := 63) hx hb dX4_readAnd_63 (by decide) ?_
    exact g_zret (pc := 64) hC hret hlk hH hS (by decide) hf dX4_readAnd_64
  · have hf := gif_n hc hf
    refine lv_aload_n (pc := 17) hx hb dX4_readAnd_17 rfl (lv_at hl 0 rfl) ?_
    refine g_get (pc := 18) (v := .ref (ad 19)) hC hU hH gk0_3 g_cl4 0 (by decide) kf_X4_40 rfl dX4_readAnd_18 ?_
    refine g_get (pc := 21) (v := .int (st.1 19 2)) hC hU hH gk0_19 g_cl7 2 (by decide) kf_X4_53 rfl dX4_readAnd_21 ?_
    refine lv_bipush (v := 14) (pc := 24) hx hb dX4_readAnd_24 (by decide) ?_
    refine lv_icmp_ne (tgt := 63) (pc := 26) hx hb dX4_readAnd_26 (by decide) (fun hc => ?_) (fun hc => ?_)
    · have hf := gif_n hc hf
      refine lv_iconst (v := 1) (pc := 63) hx hb dX4_readAnd_63 (by decide) ?_
      exact g_zret (pc := 64) hC hret hlk hH hS (by decide) hf dX4_readAnd_64
    · have hf := gif_p hc hf
      refine lv_aload_n (pc := 29) hx hb dX4_readAnd_29 rfl (lv_at hl 0 rfl) ?_
      refine g_get (pc := 30) (v := .ref (ad 19)) hC hU hH gk0_3 g_cl4 0 (by decide) kf_X4_40 rfl dX4_readAnd_30 ?_
      obtain ⟨q11_1, hq11_1, hf⟩ := gbd hf
      refine g_callVv (pc := 33) (rest := []) hC hU hH hS hl.1 gk0_19 rfl (by decide) (mX7_step  hq11_1) ky_X7_step km_X4_83 (g_rm (by omega) (by decide)) ⟨Nat.zero_le _, Nat.zero_le _⟩ rfl (Nat.le_of_ble_eq_true rfl) dX4_readAnd_33 rfl (fun H locs hH hS => ?_)
      refine lv_aload_n (pc := 36) hx hb dX4_readAnd_36 rfl (lv_at hl 0 rfl) ?_
      obtain ⟨q11_2, hq11_2, hf⟩ := gbd hf
      refine g_callVi (pc := 37) (rest := []) hC hU hH hS hl.1 gk0_3 rfl (by decide) (mX4_readOne hLr hrc hro hq11_2) ky_X4_readOne km_X4_174 (g_rm (by omega) (by decide)) ⟨Nat.zero_le _, Nat.zero_le _⟩ rfl (Nat.le_of_ble_eq_true rfl) dX4_readAnd_37 rfl (fun H locs hH hS => ?_)
      refine lv_if_ne (tgt := 45) (pc := 40) hx hb dX4_readAnd_40 (by decide) (fun hc => ?_) (fun hc => ?_)
      · have hf := gif_n hc hf
        refine lv_aload_n (pc := 45) hx hb dX4_readAnd_45 rfl (lv_at hl 0 rfl) ?_
        refine g_get (pc := 46) (v := .ref (ad (q11_2.2.2.2 3 1))) hC hU hH gk0_3 g_cl4 1 (by decide) kf_X4_12 rfl dX4_readAnd_46 ?_
        obtain ⟨h11_1, hf⟩ := gc_s hf
        refine g_get (pc := 49) (v := .ref (ad ((q11_2.2.2.2 3 1) + 1 + 11))) hC hU hH h11_1 g_cl8 11 (by decide) kf_X4_155 rfl dX4_readAnd_49 ?_
        refine lv_bipush (v := 14) (pc := 52) hx hb dX4_readAnd_52 (by decide) ?_
        obtain ⟨q11_3, hq11_3, hf⟩ := gbd hf
        refine g_callVv (pc := 54) (rest := []) hC hU hH hS hl.1 (gk_8_11 h11_1) rfl (by decide) (mX0_addStep (gk_8_11 h11_1) hq11_3) ky_X0_addStep km_X4_170 (g_rm (by omega) (by decide)) ⟨Nat.zero_le _, Nat.zero_le _⟩ rfl (Nat.le_of_ble_eq_true rfl) dX4_readAnd_54 rfl (fun H locs hH hS => ?_)
        refine lv_iinc (v := l1 + 1) (lv' := [(1, .int (l1 + 1)), (0, .ref (ad 3))]) (k := 1) (pc := 57) hx hb dX4_readAnd_57 hl rfl rfl (by decide) rfl (fun ls hl => ?_)
        refine lv_goto (tgt := 11) (pc := 60) hx hb dX4_readAnd_60 (by decide) ?_
        exact hk11 hf hH hS (lv_sub hl [1, 0] rfl)
      · have hf := gif_p hc hf
        refine lv_iconst (v := 0) (pc := 43) hx hb dX4_readAnd_43 (by decide) ?_
        exact g_zret (pc := 44) hC hret hlk hH hS (by decide) hf dX4_readAnd_44
def hX4_readAnd_11  (rc ro : gS → Option (Int32 × gS))  : Nat → Int32 → gS → Option (Int32 × gS)
  | 0 => fun _ _ => none
  | n + 1 => fun l1 st => fX4_readAnd_11 rc ro (hX4_readAnd_11 rc ro n) l1 st
set_option maxRecDepth 100000 in
set_option maxHeartbeats 4000000 in
theorem wX4_readAnd_11  (hC : CallFix p m c cX4_readAnd 2 s args lw_good RX4) (hret : meth.sig.returnType = (some .boolean)) (hlk : meth.locks = false) (hU : gU 0 D cA ad s)  {rc ro : gS → Option (Int32 × gS)} {Lr : Nat} (hLr : 20 ≤ Lr) (hrc : ∀ {st st' : gS} {r : Int32}, rc st = some (r, st') → gM l yX4_readOr cX4_readOr 2 (some .boolean) (Lr + 2) 0 D cA ad st [.ref (ad 3)] (some (.int r)) st') (hro : ∀ {st st' : gS} {r : Int32}, ro st = some (r, st') → gM l yX4_readOne cX4_readOne 2 (some .boolean) Lr 0 D cA ad st [.ref (ad 3)] (some (.int r)) st') {r : Int32} {st' : gS}  : ∀ (n : Nat) {l1 : Int32} {st : gS} {H : Heap} {locs : List Loc} {ls : Array Slot}, hX4_readAnd_11 rc ro n l1 st = some (r, st') → gP0 0 D cA ad st H → va_S (gA 0 ad) s.heap H locs → lv_has ls 2 [(0, .ref (ad 3)), (1, .int l1)] → W p l e (gRm (Lr + 10)) s m args below meth c H locs 0 0 (MQ below (gQc 0 D cA ad st' (some (.int r))) args s 0 0 (gA 0 ad)) (F0 m 11 ls []) := by
  intro n
  induction n with
  | zero => intro l1 st H locs ls hf hH hS hl; cases hf
  | succ n ih =>
    intro l1 st H locs ls hf hH hS hl
    exact bX4_readAnd_11 (rc := rc) (ro := ro) hC hret hlk hU hLr hrc hro (fun hf hH hS hl => ih hf hH hS hl) hf hH hS hl
def fX4_readAnd  (rc ro : gS → Option (Int32 × gS))   (st : gS) : Option (Int32 × gS) :=
  (fX4_readOne rc ro st).bind fun q0_1 => (if q0_1.1 = 0 then (some (0, q0_1.2)) else (hX4_readAnd_11 rc ro FU 0 q0_1.2))
set_option maxRecDepth 100000 in
set_option maxHeartbeats 4000000 in
theorem bX4_readAnd_0  (hC : CallFix p m c cX4_readAnd 2 s args lw_good RX4) (hret : meth.sig.returnType = (some .boolean)) (hlk : meth.locks = false) (hU : gU 0 D cA ad s)  {rc ro : gS → Option (Int32 × gS)} {Lr : Nat} (hLr : 20 ≤ Lr) (hrc : ∀ {st st' : gS} {r : Int32}, rc st = some (r, st') → gM l yX4_readOr cX4_readOr 2 (some .boolean) (Lr + 2) 0 D cA ad st [.ref (ad 3)] (some (.int r)) st') (hro : ∀ {st st' : gS} {r : Int32}, ro st = some (r, st') → gM l yX4_readOne cX4_readOne 2 (some .boolean) Lr 0 D cA ad st [.ref (ad 3)] (some (.int r)) st') {r : Int32} {st' : gS}   {st : gS} {H : Heap} {locs : List Loc} {ls : Array Slot} (hf : fX4_readAnd rc ro st = some (r, st')) (hH : gP0 0 D cA ad st H) (hS : va_S (gA 0 ad) s.heap H locs) (hl : lv_has ls 2 [(0, .ref (ad 3))]) : W p l e (gRm (Lr + 10)) s m args below meth c H locs 0 0 (MQ below (gQc 0 D cA ad st' (some (.int r))) args s 0 0 (gA 0 ad)) (F0 m 0 ls []) := by
  obtain ⟨hx, hb, hml, hown, hts⟩ := id hC
  unfold fX4_readAnd at hf
  refine lv_aload_n (pc := 0) hx hb dX4_readAnd_0 rfl (lv_at hl 0 rfl) ?_
  obtain ⟨q0_1, hq0_1, hf⟩ := gbd hf
  refine g_callVi (pc := 1) (rest := []) hC hU hH hS hl.1 gk0_3 rfl (by decide) (mX4_readOne hLr hrc hro hq0_1) ky_X4_readOne km_X4_174 (g_rm (by omega) (by decide)) ⟨Nat.zero_le _, Nat.zero_le _⟩ rfl (Nat.le_of_ble_eq_true rfl) dX4_readAnd_1 rfl (fun H locs hH hS => ?_)
  refine lv_if_ne (tgt := 9) (pc := 4) hx hb dX4_readAnd_4 (by decide) (fun hc => ?_) (fun hc => ?_)
  · have hf := gif_n hc hf
    refine lv_iconst (v := 0) (pc := 9) hx hb dX4_readAnd_9 (by decide) ?_
    refine lv_istore_n (lv' := [(1, .int 0), (0, .ref (ad 3))]) (pc := 10) hx hb dX4_readAnd_10 rfl hl (by decide) rfl (fun ls hl => ?_)
    exact wX4_readAnd_11 hC hret hlk hU hLr hrc hro FU hf hH hS (lv_sub hl [1, 0] rfl)
  · have hf := gif_p hc hf
    refine lv_iconst (v := 0) (pc := 7) hx hb dX4_readAnd_7 (by decide) ?_
    exact g_zret (pc := 8) hC hret hlk hH hS (by decide) hf dX4_readAnd_8
set_option maxRecDepth 100000 in
set_option maxHeartbeats 4000000 in
theorem mX4_readAnd {l : Launch} {D : va_G} {cA : Nat → ClassId} {ad : Nat → Nat}   {rc ro : gS → Option (Int32 × gS)} {Lr : Nat} (hLr : 20 ≤ Lr) (hrc : ∀ {st st' : gS} {r : Int32}, rc st = some (r, st') → gM l yX4_readOr cX4_readOr 2 (some .boolean) (Lr + 2) 0 D cA ad st [.ref (ad 3)] (some (.int r)) st') (hro : ∀ {st st' : gS} {r : Int32}, ro st = some (r, st') → gM l yX4_readOne cX4_readOne 2 (some .boolean) Lr 0 D cA ad st [.ref (ad 3)] (some (.int r)) st') {r : Int32} {st st' : gS} (hf : fX4_readAnd rc ro st = some (r, st')) : gM l yX4_readAnd cX4_readAnd 2 (some .boolean) (Lr + 10) 0 D cA ad st [.ref (ad 3)] (some (.int r)) st' := by
  refine g_met (by decide) (Nat.le_of_ble_eq_true rfl) ?_
  intro p e s m args below meth c ls hC hret hlk hU hH hl
  exact bX4_readAnd_0 hC hret hlk hU hLr hrc hro hf hH va_S.rf hl
def fX4_readOr_11  (rc ro : gS → Option (Int32 × gS)) (k11 : Int32 → gS → Option (Int32 × gS)) (l1 : Int32) (st : gS) : Option (Int32 × gS) :=
  if 30 ≤ l1 then (some (1, st)) else (if (st.1 19 2) = 13 then ((fX7_step st).bind fun q11_1 => ((fX4_readAnd rc ro q11_1).bind fun q11_2 => (if q11_2.1 = 0 then (some (0, q11_2.2)) else (gc (gK 0 (q11_2.2.2.2 3 1) = 8) ((fX0_addStep ((q11_2.2.2.2 3 1) + 1 + 11) 13 q11_2.2).bind fun q11_3 => (k11 (l1 + 1) q11_3)))))) else (some (1, st)))
set_option maxRecDepth 100000 in
set_option maxHeartbeats 4000000 in
theorem bX4_readOr_11  (hC : CallFix p m c cX4_readOr 2 s args lw_good RX4) (hret : meth.sig.returnType = (some .boolean)) (hlk : meth.locks = false) (hU : gU 0 D cA ad s)  {rc ro : gS → Option (Int32 × gS)} {Lr : Nat} (hLr : 20 ≤ Lr) (hrc : ∀ {st st' : gS} {r : Int32}, rc st = some (r, st') → gM l yX4_readOr cX4_readOr 2 (some .boolean) (Lr + 2) 0 D cA ad st [.ref (ad 3)] (some (.int r)) st') (hro : ∀ {st st' : gS} {r : Int32}, ro st = some (r, st') → gM l yX4_readOne cX4_readOne 2 (some .boolean) Lr 0 D cA ad st [.ref (ad 3)] (some (.int r)) st') {r : Int32} {st' : gS} {k11 : Int32 → gS → Option (Int32 × gS)} (hk11 : ∀ {l1 : Int32} {st : gS} {H : Heap} {locs : List Loc} {ls : Array Slot}, k11 l1 st = some (r, st') → gP0 0 D cA ad st H → va_S (gA 0 ad) s.heap H locs → lv_has ls 2 [(0, .ref (ad 3)), (1, .int l1)] → W p l e (gRm (Lr + 11)) s m args below meth c H locs 0 0 (MQ below (gQc 0 D cA ad st' (some (.int r))) args s 0 0 (gA 0 ad)) (F0 m 11 ls [])) {l1 : Int32} {st : gS} {H : Heap} {locs : List Loc} {ls : Array Slot} (hf : fX4_readOr_11 rc ro k11 l1 st = some (r, st')) (hH : gP0 0 D cA ad st H) (hS : va_S (gA 0 ad) s.heap H locs) (hl : lv_has ls 2 [(0, .ref (ad 3)), (1, .int l1)]) : W p l e (gRm (Lr + 11)) s m args below meth c H locs 0 0 (MQ below (gQc 0 D cA ad st' (some (.int r))) args s 0 0 (gA 0 ad)) (F0 m 11 ls []) := by
  obtain ⟨hx, hb, hml, hown, hts⟩ := id hC
  unfold fX4_readOr_11 at hf
  refine lv_iload_n (pc := 11) hx hb dX4_readOr_11 rfl (lv_at hl 1 rfl) ?_
  refine lv_bipush (v := 30) (pc := 12) hx hb dX4_readOr_12 (by decide) ?_
  refine lv_icmp_ge (tgt := 63) (pc := 14) hx hb dX4_readOr_14 (by decide) (fun hc => ?_) (fun hc => ?_)
  · have hf := gif_p hc hf
    refine lv_iconst (v := 1) (pc := 63) hx hb dX4_readOr_63 (by decide) ?_
    exact g_zret (pc := 64) hC hret hlk hH hS (by decide) hf dX4_readOr_64
  · have hf := gif_n hc hf
    refine lv_aload_n (pc := 17) hx hb dX4_readOr_17 rfl (lv_at hl 0 rfl) ?_
    refine g_get (pc := 18) (v := .ref (ad 19)) hC hU hH gk0_3 g_cl4 0 (by decide) kf_X4_40 rfl dX4_readOr_18 ?_
    refine g_get (pc := 21) (v := .int (st.1 19 2)) hC hU hH gk0_19 g_cl7 2 (by decide) kf_X4_53 rfl dX4_readOr_21 ?_
    refine lv_bipush (v := 13) (pc := 24) hx hb dX4_readOr_24 (by decide) ?_
    refine lv_icmp_ne (tgt := 63) (pc := 26) hx hb dX4_readOr_26 (by decide) (fun hc => ?_) (fun hc => ?_)
    · have hf := gif_n hc hf
      refine lv_iconst (v := 1) (pc := 63) hx hb dX4_readOr_63 (by decide) ?_
      exact g_zret (pc := 64) hC hret hlk hH hS (by decide) hf dX4_readOr_64
    · have hf := gif_p hc hf
      refine lv_aload_n (pc := 29) hx hb dX4_readOr_29 rfl (lv_at hl 0 rfl) ?_
      refine g_get (pc := 30) (v := .ref (ad 19)) hC hU hH gk0_3 g_cl4 0 (by decide) kf_X4_40 rfl dX4_readOr_30 ?_
      obtain ⟨q11_1, hq11_1, hf⟩ := gbd hf
      refine g_callVv (pc := 33) (rest := []) hC hU hH hS hl.1 gk0_19 rfl (by decide) (mX7_step  hq11_1) ky_X7_step km_X4_83 (g_rm (by omega) (by decide)) ⟨Nat.zero_le _, Nat.zero_le _⟩ rfl (Nat.le_of_ble_eq_true rfl) dX4_readOr_33 rfl (fun H locs hH hS => ?_)
      refine lv_aload_n (pc := 36) hx hb dX4_readOr_36 rfl (lv_at hl 0 rfl) ?_
      obtain ⟨q11_2, hq11_2, hf⟩ := gbd hf
      refine g_callVi (pc := 37) (rest := []) hC hU hH hS hl.1 gk0_3 rfl (by decide) (mX4_readAnd hLr hrc hro hq11_2) ky_X4_readAnd km_X4_167 (g_rm (by omega) (by decide)) ⟨Nat.zero_le _, Nat.zero_le _⟩ rfl (Nat.le_of_ble_eq_true rfl) dX4_readOr_37 rfl (fun H locs hH hS => ?_)
      refine lv_if_ne (tgt := 45) (pc := 40) hx hb dX4_readOr_40 (by decide) (fun hc => ?_) (fun hc => ?_)
      · have hf := gif_n hc hf
        refine lv_aload_n (pc := 45) hx hb dX4_readOr_45 rfl (lv_at hl 0 rfl) ?_
        refine g_get (pc := 46) (v := .ref (ad (q11_2.2.2.2 3 1))) hC hU hH gk0_3 g_cl4 1 (by decide) kf_X4_12 rfl dX4_readOr_46 ?_
        obtain ⟨h11_1, hf⟩ := gc_s hf
        refine g_get (pc := 49) (v := .ref (ad ((q11_2.2.2.2 3 1) + 1 + 11))) hC hU hH h11_1 g_cl8 11 (by decide) kf_X4_155 rfl dX4_readOr_49 ?_
        refine lv_bipush (v := 13) (pc := 52) hx hb dX4_readOr_52 (by decide) ?_
        obtain ⟨q11_3, hq11_3, hf⟩ := gbd hf
        refine g_callVv (pc := 54) (rest := []) hC hU hH hS hl.1 (gk_8_11 h11_1) rfl (by decide) (mX0_addStep (gk_8_11 h11_1) hq11_3) ky_X0_addStep km_X4_170 (g_rm (by omega) (by decide)) ⟨Nat.zero_le _, Nat.zero_le _⟩ rfl (Nat.le_of_ble_eq_true rfl) dX4_readOr_54 rfl (fun H locs hH hS => ?_)
        refine lv_iinc (v := l1 + 1) (lv' := [(1, .int (l1 + 1)), (0, .ref (ad 3))]) (k := 1) (pc := 57) hx hb dX4_readOr_57 hl rfl rfl (by decide) rfl (fun ls hl => ?_)
        refine lv_goto (tgt := 11) (pc := 60) hx hb dX4_readOr_60 (by decide) ?_
        exact hk11 hf hH hS (lv_sub hl [1, 0] rfl)
      · have hf := gif_p hc hf
        refine lv_iconst (v := 0) (pc := 43) hx hb dX4_readOr_43 (by decide) ?_
        exact g_zret (pc := 44) hC hret hlk hH hS (by decide) hf dX4_readOr_44
def hX4_readOr_11  (rc ro : gS → Option (Int32 × gS))  : Nat → Int32 → gS → Option (Int32 × gS)
  | 0 => fun _ _ => none
  | n + 1 => fun l1 st => fX4_readOr_11 rc ro (hX4_readOr_11 rc ro n) l1 st
set_option maxRecDepth 100000 in
set_option maxHeartbeats 4000000 in
theorem wX4_readOr_11  (hC : CallFix p m c cX4_readOr 2 s args lw_good RX4) (hret : meth.sig.returnType = (some .boolean)) (hlk : meth.locks = false) (hU : gU 0 D cA ad s)  {rc ro : gS → Option (Int32 × gS)} {Lr : Nat} (hLr : 20 ≤ Lr) (hrc : ∀ {st st' : gS} {r : Int32}, rc st = some (r, st') → gM l yX4_readOr cX4_readOr 2 (some .boolean) (Lr + 2) 0 D cA ad st [.ref (ad 3)] (some (.int r)) st') (hro : ∀ {st st' : gS} {r : Int32}, ro st = some (r, st') → gM l yX4_readOne cX4_readOne 2 (some .boolean) Lr 0 D cA ad st [.ref (ad 3)] (some (.int r)) st') {r : Int32} {st' : gS}  : ∀ (n : Nat) {l1 : Int32} {st : gS} {H : Heap} {locs : List Loc} {ls : Array Slot}, hX4_readOr_11 rc ro n l1 st = some (r, st') → gP0 0 D cA ad st H → va_S (gA 0 ad) s.heap H locs → lv_has ls 2 [(0, .ref (ad 3)), (1, .int l1)] → W p l e (gRm (Lr + 11)) s m args below meth c H locs 0 0 (MQ below (gQc 0 D cA ad st' (some (.int r))) args s 0 0 (gA 0 ad)) (F0 m 11 ls []) := by
  intro n
  induction n with
  | zero => intro l1 st H locs ls hf hH hS hl; cases hf
  | succ n ih =>
    intro l1 st H locs ls hf hH hS hl
    exact bX4_readOr_11 (rc := rc) (ro := ro) hC hret hlk hU hLr hrc hro (fun hf hH hS hl => ih hf hH hS hl) hf hH hS hl
def fX4_readOr  (rc ro : gS → Option (Int32 × gS))   (st : gS) : Option (Int32 × gS) :=
  (fX4_readAnd rc ro st).bind fun q0_1 => (if q0_1.1 = 0 then (some (0, q0_1.2)) else (hX4_readOr_11 rc ro FU 0 q0_1.2))
set_option maxRecDepth 100000 in
set_option maxHeartbeats 4000000 in
theorem bX4_readOr_0  (hC : CallFix p m c cX4_readOr 2 s args lw_good RX4) (hret : meth.sig.returnType = (some .boolean)) (hlk : meth.locks = false) (hU : gU 0 D cA ad s)  {rc ro : gS → Option (Int32 × gS)} {Lr : Nat} (hLr : 20 ≤ Lr) (hrc : ∀ {st st' : gS} {r : Int32}, rc st = some (r, st') → gM l yX4_readOr cX4_readOr 2 (some .boolean) (Lr + 2) 0 D cA ad st [.ref (ad 3)] (some (.int r)) st') (hro : ∀ {st st' : gS} {r : Int32}, ro st = some (r, st') → gM l yX4_readOne cX4_readOne 2 (some .boolean) Lr 0 D cA ad st [.ref (ad 3)] (some (.int r)) st') {r : Int32} {st' : gS}   {st : gS} {H : Heap} {locs : List Loc} {ls : Array Slot} (hf : fX4_readOr rc ro st = some (r, st')) (hH : gP0 0 D cA ad st H) (hS : va_S (gA 0 ad) s.heap H locs) (hl : lv_has ls 2 [(0, .ref (ad 3))]) : W p l e (gRm (Lr + 11)) s m args below meth c H locs 0 0 (MQ below (gQc 0 D cA ad st' (some (.int r))) args s 0 0 (gA 0 ad)) (F0 m 0 ls []) := by
  obtain ⟨hx, hb, hml, hown, hts⟩ := id hC
  unfold fX4_readOr at hf
  refine lv_aload_n (pc := 0) hx hb dX4_readOr_0 rfl (lv_at hl 0 rfl) ?_
  obtain ⟨q0_1, hq0_1, hf⟩ := gbd hf
  refine g_callVi (pc := 1) (rest := []) hC hU hH hS hl.1 gk0_3 rfl (by decide) (mX4_readAnd hLr hrc hro hq0_1) ky_X4_readAnd km_X4_167 (g_rm (by omega) (by decide)) ⟨Nat.zero_le _, Nat.zero_le _⟩ rfl (Nat.le_of_ble_eq_true rfl) dX4_readOr_1 rfl (fun H locs hH hS => ?_)
  refine lv_if_ne (tgt := 9) (pc := 4) hx hb dX4_readOr_4 (by decide) (fun hc => ?_) (fun hc => ?_)
  · have hf := gif_n hc hf
    refine lv_iconst (v := 0) (pc := 9) hx hb dX4_readOr_9 (by decide) ?_
    refine lv_istore_n (lv' := [(1, .int 0), (0, .ref (ad 3))]) (pc := 10) hx hb dX4_readOr_10 rfl hl (by decide) rfl (fun ls hl => ?_)
    exact wX4_readOr_11 hC hret hlk hU hLr hrc hro FU hf hH hS (lv_sub hl [1, 0] rfl)
  · have hf := gif_p hc hf
    refine lv_iconst (v := 0) (pc := 7) hx hb dX4_readOr_7 (by decide) ?_
    exact g_zret (pc := 8) hC hret hlk hH hS (by decide) hf dX4_readOr_8
set_option maxRecDepth 100000 in
set_option maxHeartbeats 4000000 in
theorem mX4_readOr {l : Launch} {D : va_G} {cA : Nat → ClassId} {ad : Nat → Nat}   {rc ro : gS → Option (Int32 × gS)} {Lr : Nat} (hLr : 20 ≤ Lr) (hrc : ∀ {st st' : gS} {r : Int32}, rc st = some (r, st') → gM l yX4_readOr cX4_readOr 2 (some .boolean) (Lr + 2) 0 D cA ad st [.ref (ad 3)] (some (.int r)) st') (hro : ∀ {st st' : gS} {r : Int32}, ro st = some (r, st') → gM l yX4_readOne cX4_readOne 2 (some .boolean) Lr 0 D cA ad st [.ref (ad 3)] (some (.int r)) st') {r : Int32} {st st' : gS} (hf : fX4_readOr rc ro st = some (r, st')) : gM l yX4_readOr cX4_readOr 2 (some .boolean) (Lr + 11) 0 D cA ad st [.ref (ad 3)] (some (.int r)) st' := by
  refine g_met (by decide) (Nat.le_of_ble_eq_true rfl) ?_
  intro p e s m args below meth c ls hC hret hlk hU hH hl
  exact bX4_readOr_0 hC hret hlk hU hLr hrc hro hf hH va_S.rf hl
def gRR : Nat → (gS → Option (Int32 × gS)) × (gS → Option (Int32 × gS))
  | 0 => (fun _ => none, fun _ => none)
  | d + 1 => (fX4_readOr (gRR d).1 (gRR d).2, fX4_readOne (gRR d).1 (gRR d).2)
def gRO (d : Nat) : gS → Option (Int32 × gS) := (gRR d).1
def gRN (d : Nat) : gS → Option (Int32 × gS) := (gRR d).2
theorem gRR_met {l : Launch} {D : va_G} {cA : Nat → ClassId} {ad : Nat → Nat} : ∀ d : Nat, (∀ {st st' : gS} {r : Int32}, gRO d st = some (r, st') → gM l yX4_readOr cX4_readOr 2 (some .boolean) (20 + 9 * d + 2) 0 D cA ad st [.ref (ad 3)] (some (.int r)) st') ∧ (∀ {st st' : gS} {r : Int32}, gRN d st = some (r, st') → gM l yX4_readOne cX4_readOne 2 (some .boolean) (20 + 9 * d) 0 D cA ad st [.ref (ad 3)] (some (.int r)) st') := by
  intro d
  induction d with
  | zero => exact ⟨(fun h => nomatch h), (fun h => nomatch h)⟩
  | succ d ih => exact ⟨(fun h => mX4_readOr (Lr := 20 + 9 * d) (by omega) ih.1 ih.2 h), fun h => mX4_readOne (Lr := 20 + 9 * d) (by omega) ih.1 ih.2 h⟩
theorem mX4_readOr_top {l : Launch} {D : va_G} {cA : Nat → ClassId} {ad : Nat → Nat} {r : Int32} {st st' : gS} (hf : fX4_readOr (gRO 9) (gRN 9) st = some (r, st')) : gM l yX4_readOr cX4_readOr 2 (some .boolean) 112 0 D cA ad st [.ref (ad 3)] (some (.int r)) st' :=
  mX4_readOr (Lr := 101) (by decide) (gRR_met 9).1 (gRR_met 9).2 hf

def fX4_readSlip    (st : gS) : Option (Int32 × gS) :=
  gc (gK 0 (st.2.2 3 1) = 8) ((fX0_isTold ((st.2.2 3 1) + 1 + 11) st).bind fun q0_1 => (if q0_1.1 = 0 then ((fX7_step q0_1.2).bind fun q0_2 => ((fX4_readOr (gRO 9) (gRN 9) q0_2).bind fun q0_3 => (if q0_3.1 = 0 then (some (0, q0_3.2)) else ((fX4_pass 59 q0_3.2).bind fun q0_4 => (if q0_4.1 = 0 then (some (0, q0_4.2)) else (some (1, q0_4.2))))))) else ((fX4_refuse 2 q0_1.2).bind fun q0_5 => (gc (gB q0_5.1) (some (q0_5.1, q0_5.2))))))
set_option maxRecDepth 100000 in
set_option maxHeartbeats 4000000 in
theorem bX4_readSlip_0  (hC : CallFix p m c cX4_readSlip 1 s args lw_good RX4) (hret : meth.sig.returnType = (some .boolean)) (hlk : meth.locks = false) (hU : gU 0 D cA ad s)  {r : Int32} {st' : gS}   {st : gS} {H : Heap} {locs : List Loc} {ls : Array Slot} (hf : fX4_readSlip st = some (r, st')) (hH : gP0 0 D cA ad st H) (hS : va_S (gA 0 ad) s.heap H locs) (hl : lv_has ls 1 [(0, .ref (ad 3))]) : W p l e (gRm 113) s m args below meth c H locs 0 0 (MQ below (gQc 0 D cA ad st' (some (.int r))) args s 0 0 (gA 0 ad)) (F0 m 0 ls []) := by
  obtain ⟨hx, hb, hml, hown, hts⟩ := id hC
  unfold fX4_readSlip at hf
  refine lv_aload_n (pc := 0) hx hb dX4_readSlip_0 rfl (lv_at hl 0 rfl) ?_
  refine g_get (pc := 1) (v := .ref (ad (st.2.2 3 1))) hC hU hH gk0_3 g_cl4 1 (by decide) kf_X4_12 rfl dX4_readSlip_1 ?_
  obtain ⟨h0_1, hf⟩ := gc_s hf
  refine g_get (pc := 4) (v := .ref (ad ((st.2.2 3 1) + 1 + 11))) hC hU hH h0_1 g_cl8 11 (by decide) kf_X4_155 rfl dX4_readSlip_4 ?_
  obtain ⟨q0_1, hq0_1, hf⟩ := gbd hf
  refine g_callVi (pc := 7) (rest := []) hC hU hH hS hl.1 (gk_8_11 h0_1) rfl (by decide) (mX0_isTold (gk_8_11 h0_1) hq0_1) ky_X0_isTold km_X4_159 ⟨Nat.le_of_ble_eq_true rfl, Nat.le_of_ble_eq_true rfl⟩ ⟨Nat.zero_le _, Nat.zero_le _⟩ rfl (Nat.le_of_ble_eq_true rfl) dX4_readSlip_7 rfl (fun H locs hH hS => ?_)
  refine lv_if_eq (tgt := 19) (pc := 10) hx hb dX4_readSlip_10 (by decide) (fun hc => ?_) (fun hc => ?_)
  · have hf := gif_p hc hf
    refine lv_aload_n (pc := 19) hx hb dX4_readSlip_19 rfl (lv_at hl 0 rfl) ?_
    refine g_get (pc := 20) (v := .ref (ad 19)) hC hU hH gk0_3 g_cl4 0 (by decide) kf_X4_40 rfl dX4_readSlip_20 ?_
    obtain ⟨q0_2, hq0_2, hf⟩ := gbd hf
    refine g_callVv (pc := 23) (rest := []) hC hU hH hS hl.1 gk0_19 rfl (by decide) (mX7_step  hq0_2) ky_X7_step km_X4_83 ⟨Nat.le_of_ble_eq_true rfl, Nat.le_of_ble_eq_true rfl⟩ ⟨Nat.zero_le _, Nat.zero_le _⟩ rfl (Nat.le_of_ble_eq_true rfl) dX4_readSlip_23 rfl (fun H locs hH hS => ?_)
    refine lv_aload_n (pc := 26) hx hb dX4_readSlip_26 rfl (lv_at hl 0 rfl) ?_
    obtain ⟨q0_3, hq0_3, hf⟩ := gbd hf
    refine g_callVi (pc := 27) (rest := []) hC hU hH hS hl.1 gk0_3 rfl (by decide) (mX4_readOr_top hq0_3) ky_X4_readOr km_X4_164 ⟨Nat.le_of_ble_eq_true rfl, Nat.le_of_ble_eq_true rfl⟩ ⟨Nat.zero_le _, Nat.zero_le _⟩ rfl (Nat.le_of_ble_eq_true rfl) dX4_readSlip_27 rfl (fun H locs hH hS => ?_)
    refine lv_if_eq (tgt := 46) (pc := 30) hx hb dX4_readSlip_30 (by decide) (fun hc => ?_) (fun hc => ?_)
    · have hf := gif_p hc hf
      refine lv_iconst (v := 0) (pc := 46) hx hb dX4_readSlip_46 (by decide) ?_
      exact g_zret (pc := 47) hC hret hlk hH hS (by decide) hf dX4_readSlip_47
    · have hf := gif_n hc hf
      refine lv_aload_n (pc := 33) hx hb dX4_readSlip_33 rfl (lv_at hl 0 rfl) ?_
      refine lv_bipush (v := 59) (pc := 34) hx hb dX4_readSlip_34 (by decide) ?_
      obtain ⟨q0_4, hq0_4, hf⟩ := gbd hf
      refine g_callVi (pc := 36) (rest := []) hC hU hH hS hl.1 gk0_3 rfl (by decide) (mX4_pass  hq0_4) ky_X4_pass km_X4_111 ⟨Nat.le_of_ble_eq_true rfl, Nat.le_of_ble_eq_true rfl⟩ ⟨Nat.zero_le _, Nat.zero_le _⟩ rfl (Nat.le_of_ble_eq_true rfl) dX4_readSlip_36 rfl (fun H locs hH hS => ?_)
      refine lv_if_eq (tgt := 46) (pc := 39) hx hb dX4_readSlip_39 (by decide) (fun hc => ?_) (fun hc => ?_)
      · have hf := gif_p hc hf
        refine lv_iconst (v := 0) (pc := 46) hx hb dX4_readSlip_46 (by decide) ?_
        exact g_zret (pc := 47) hC hret hlk hH hS (by decide) hf dX4_readSlip_47
      · have hf := gif_n hc hf
        refine lv_iconst (v := 1) (pc := 42) hx hb dX4_readSlip_42 (by decide) ?_
        refine lv_goto (tgt := 47) (pc := 43) hx hb dX4_readSlip_43 (by decide) ?_
        exact g_zret (pc := 47) hC hret hlk hH hS (by decide) hf dX4_readSlip_47
  · have hf := gif_n hc hf
    refine lv_aload_n (pc := 13) hx hb dX4_readSlip_13 rfl (lv_at hl 0 rfl) ?_
    refine lv_iconst (v := 2) (pc := 14) hx hb dX4_readSlip_14 (by decide) ?_
    obtain ⟨q0_5, hq0_5, hf⟩ := gbd hf
    refine g_callVi (pc := 15) (rest := []) hC hU hH hS hl.1 gk0_3 rfl (by decide) (mX4_refuse  hq0_5) ky_X4_refuse km_X4_79 ⟨Nat.le_of_ble_eq_true rfl, Nat.le_of_ble_eq_true rfl⟩ ⟨Nat.zero_le _, Nat.zero_le _⟩ rfl (Nat.le_of_ble_eq_true rfl) dX4_readSlip_15 rfl (fun H locs hH hS => ?_)
    obtain ⟨h0_2, hf⟩ := gc_s hf
    exact g_zret (pc := 18) hC hret hlk hH hS h0_2 hf dX4_readSlip_18
set_option maxRecDepth 100000 in
set_option maxHeartbeats 4000000 in
theorem mX4_readSlip {l : Launch} {D : va_G} {cA : Nat → ClassId} {ad : Nat → Nat}   {r : Int32} {st st' : gS} (hf : fX4_readSlip  st = some (r, st')) : gM l yX4_readSlip cX4_readSlip 1 (some .boolean) 113 0 D cA ad st [.ref (ad 3)] (some (.int r)) st' := by
  refine g_met (by decide) (Nat.le_of_ble_eq_true rfl) ?_
  intro p e s m args below meth c ls hC hret hlk hU hH hl
  exact bX4_readSlip_0 hC hret hlk hU hf hH va_S.rf hl
def fX4_readCord    (st : gS) : Option (Int32 × gS) :=
  if (st.1 3 2) = 0 then ((fX7_step (wi st 3 2 1)).bind fun q0_1 => ((fX4_passNumber 1 99 q0_1).bind fun q0_2 => (if q0_2.1 = (-1) then (some (0, q0_2.2)) else (gc (gK 0 (q0_2.2.2.2 3 1) = 8) ((fX4_pass 59 (wi q0_2.2 (q0_2.2.2.2 3 1) 16 q0_2.1)).bind fun q0_3 => (gc (gB q0_3.1) (some (q0_3.1, q0_3.2)))))))) else ((fX4_refuse 2 st).bind fun q0_4 => (gc (gB q0_4.1) (some (q0_4.1, q0_4.2))))
set_option maxRecDepth 100000 in
set_option maxHeartbeats 4000000 in
theorem bX4_readCord_0  (hC : CallFix p m c cX4_readCord 2 s args lw_good RX4) (hret : meth.sig.returnType = (some .boolean)) (hlk : meth.locks = false) (hU : gU 0 D cA ad s)  {r : Int32} {st' : gS}   {st : gS} {H : Heap} {locs : List Loc} {ls : Array Slot} (hf : fX4_readCord st = some (r, st')) (hH : gP0 0 D cA ad st H) (hS : va_S (gA 0 ad) s.heap H locs) (hl : lv_has ls 2 [(0, .ref (ad 3))]) : W p l e (gRm 7) s m args below meth c H locs 0 0 (MQ below (gQc 0 D cA ad st' (some (.int r))) args s 0 0 (gA 0 ad)) (F0 m 0 ls []) := by
  obtain ⟨hx, hb, hml, hown, hts⟩ := id hC
  unfold fX4_readCord at hf
  refine lv_aload_n (pc := 0) hx hb dX4_readCord_0 rfl (lv_at hl 0 rfl) ?_
  refine g_get (pc := 1) (v := .int (st.1 3 2)) hC hU hH gk0_3 g_cl4 2 (by decide) kf_X4_18 rfl dX4_readCord_1 ?_
  refine lv_if_eq (tgt := 13) (pc := 4) hx hb dX4_readCord_4 (by decide) (fun hc => ?_) (fun hc => ?_)
  · have hf := gif_p hc hf
    refine lv_aload_n (pc := 13) hx hb dX4_readCord_13 rfl (lv_at hl 0 rfl) ?_
    refine lv_iconst (v := 1) (pc := 14) hx hb dX4_readCord_14 (by decide) ?_
    refine g_puti (pc := 15) hC hU hH hS gk0_3 g_cl4 2 (by decide) kf_X4_18 rfl rfl rfl rfl dX4_readCord_15 (fun H locs hH hS => ?_)
    refine lv_aload_n (pc := 18) hx hb dX4_readCord_18 rfl (lv_at hl 0 rfl) ?_
    refine g_get (pc := 19) (v := .ref (ad 19)) hC hU hH gk0_3 g_cl4 0 (by decide) kf_X4_40 rfl dX4_readCord_19 ?_
    obtain ⟨q0_1, hq0_1, hf⟩ := gbd hf
    refine g_callVv (pc := 22) (rest := []) hC hU hH hS hl.1 gk0_19 rfl (by decide) (mX7_step  hq0_1) ky_X7_step km_X4_83 ⟨Nat.le_of_ble_eq_true rfl, Nat.le_of_ble_eq_true rfl⟩ ⟨Nat.zero_le _, Nat.zero_le _⟩ rfl (Nat.le_of_ble_eq_true rfl) dX4_readCord_22 rfl (fun H locs hH hS => ?_)
    refine lv_aload_n (pc := 25) hx hb dX4_readCord_25 rfl (lv_at hl 0 rfl) ?_
    refine lv_iconst (v := 1) (pc := 26) hx hb dX4_readCord_26 (by decide) ?_
    refine lv_bipush (v := 99) (pc := 27) hx hb dX4_readCord_27 (by decide) ?_
    obtain ⟨q0_2, hq0_2, hf⟩ := gbd hf
    refine g_callVi (pc := 29) (rest := []) hC hU hH hS hl.1 gk0_3 rfl (by decide) (mX4_passNumber  hq0_2) ky_X4_passNumber km_X4_117 ⟨Nat.le_of_ble_eq_true rfl, Nat.le_of_ble_eq_true rfl⟩ ⟨Nat.zero_le _, Nat.zero_le _⟩ rfl (Nat.le_of_ble_eq_true rfl) dX4_readCord_29 rfl (fun H locs hH hS => ?_)
    refine lv_istore_n (lv' := [(1, .int q0_2.1), (0, .ref (ad 3))]) (pc := 32) hx hb dX4_readCord_32 rfl hl (by decide) rfl (fun ls hl => ?_)
    refine lv_iload_n (pc := 33) hx hb dX4_readCord_33 rfl (lv_at hl 0 rfl) ?_
    refine lv_iconst (v := (-1)) (pc := 34) hx hb dX4_readCord_34 (by decide) ?_
    refine lv_icmp_ne (tgt := 40) (pc := 35) hx hb dX4_readCord_35 (by decide) (fun hc => ?_) (fun hc => ?_)
    · have hf := gif_n hc hf
      refine lv_aload_n (pc := 40) hx hb dX4_readCord_40 rfl (lv_at hl 1 rfl) ?_
      refine g_get (pc := 41) (v := .ref (ad (q0_2.2.2.2 3 1))) hC hU hH gk0_3 g_cl4 1 (by decide) kf_X4_12 rfl dX4_readCord_41 ?_
      refine lv_iload_n (pc := 44) hx hb dX4_readCord_44 rfl (lv_at hl 0 rfl) ?_
      obtain ⟨h0_1, hf⟩ := gc_s hf
      refine g_puti (pc := 45) hC hU hH hS h0_1 g_cl8 16 (by decide) kf_X4_149 rfl rfl rfl rfl dX4_readCord_45 (fun H locs hH hS => ?_)
      refine lv_aload_n (pc := 48) hx hb dX4_readCord_48 rfl (lv_at hl 1 rfl) ?_
      refine lv_bipush (v := 59) (pc := 49) hx hb dX4_readCord_49 (by decide) ?_
      obtain ⟨q0_3, hq0_3, hf⟩ := gbd hf
      refine g_callVi (pc := 51) (rest := []) hC hU hH hS hl.1 gk0_3 rfl (by decide) (mX4_pass  hq0_3) ky_X4_pass km_X4_111 ⟨Nat.le_of_ble_eq_true rfl, Nat.le_of_ble_eq_true rfl⟩ ⟨Nat.zero_le _, Nat.zero_le _⟩ rfl (Nat.le_of_ble_eq_true rfl) dX4_readCord_51 rfl (fun H locs hH hS => ?_)
      obtain ⟨h0_2, hf⟩ := gc_s hf
      exact g_zret (pc := 54) hC hret hlk hH hS h0_2 hf dX4_readCord_54
    · have hf := gif_p hc hf
      refine lv_iconst (v := 0) (pc := 38) hx hb dX4_readCord_38 (by decide) ?_
      exact g_zret (pc := 39) hC hret hlk hH hS (by decide) hf dX4_readCord_39
  · have hf := gif_n hc hf
    refine lv_aload_n (pc := 7) hx hb dX4_readCord_7 rfl (lv_at hl 0 rfl) ?_
    refine lv_iconst (v := 2) (pc := 8) hx hb dX4_readCord_8 (by decide) ?_
    obtain ⟨q0_4, hq0_4, hf⟩ := gbd hf
    refine g_callVi (pc := 9) (rest := []) hC hU hH hS hl.1 gk0_3 rfl (by decide) (mX4_refuse  hq0_4) ky_X4_refuse km_X4_79 ⟨Nat.le_of_ble_eq_true rfl, Nat.le_of_ble_eq_true rfl⟩ ⟨Nat.zero_le _, Nat.zero_le _⟩ rfl (Nat.le_of_ble_eq_true rfl) dX4_readCord_9 rfl (fun H locs hH hS => ?_)
    obtain ⟨h0_3, hf⟩ := gc_s hf
    exact g_zret (pc := 12) hC hret hlk hH hS h0_3 hf dX4_readCord_12
set_option maxRecDepth 100000 in
set_option maxHeartbeats 4000000 in
theorem mX4_readCord {l : Launch} {D : va_G} {cA : Nat → ClassId} {ad : Nat → Nat}   {r : Int32} {st st' : gS} (hf : fX4_readCord  st = some (r, st')) : gM l yX4_readCord cX4_readCord 2 (some .boolean) 7 0 D cA ad st [.ref (ad 3)] (some (.int r)) st' := by
  refine g_met (by decide) (Nat.le_of_ble_eq_true rfl) ?_
  intro p e s m args below meth c ls hC hret hlk hU hH hl
  exact bX4_readCord_0 hC hret hlk hU hf hH va_S.rf hl
def fX4_readDraw    (st : gS) : Option (Int32 × gS) :=
  if (st.1 3 3) = 0 then ((fX7_step (wi st 3 3 1)).bind fun q0_1 => ((fX4_passNumber 0 999 q0_1).bind fun q0_2 => (if q0_2.1 = (-1) then (some (0, q0_2.2)) else (gc (gK 0 (q0_2.2.2.2 3 1) = 8) ((fX4_pass 59 (wi q0_2.2 (q0_2.2.2.2 3 1) 17 q0_2.1)).bind fun q0_3 => (gc (gB q0_3.1) (some (q0_3.1, q0_3.2)))))))) else ((fX4_refuse 2 st).bind fun q0_4 => (gc (gB q0_4.1) (some (q0_4.1, q0_4.2))))
set_option maxRecDepth 100000 in
set_option maxHeartbeats 4000000 in
theorem bX4_readDraw_0  (hC : CallFix p m c cX4_readDraw 2 s args lw_good RX4) (hret : meth.sig.returnType = (some .boolean)) (hlk : meth.locks = false) (hU : gU 0 D cA ad s)  {r : Int32} {st' : gS}   {st : gS} {H : Heap} {locs : List Loc} {ls : Array Slot} (hf : fX4_readDraw st = some (r, st')) (hH : gP0 0 D cA ad st H) (hS : va_S (gA 0 ad) s.heap H locs) (hl : lv_has ls 2 [(0, .ref (ad 3))]) : W p l e (gRm 7) s m args below meth c H locs 0 0 (MQ below (gQc 0 D cA ad st' (some (.int r))) args s 0 0 (gA 0 ad)) (F0 m 0 ls []) := by
  obtain ⟨hx, hb, hml, hown, hts⟩ := id hC
  unfold fX4_readDraw at hf
  refine lv_aload_n (pc := 0) hx hb dX4_readDraw_0 rfl (lv_at hl 0 rfl) ?_
  refine g_get (pc := 1) (v := .int (st.1 3 3)) hC hU hH gk0_3 g_cl4 3 (by decide) kf_X4_22 rfl dX4_readDraw_1 ?_
  refine lv_if_eq (tgt := 13) (pc := 4) hx hb dX4_readDraw_4 (by decide) (fun hc => ?_) (fun hc => ?_)
  · have hf := gif_p hc hf
    refine lv_aload_n (pc := 13) hx hb dX4_readDraw_13 rfl (lv_at hl 0 rfl) ?_
    refine lv_iconst (v := 1) (pc := 14) hx hb dX4_readDraw_14 (by decide) ?_
    refine g_puti (pc := 15) hC hU hH hS gk0_3 g_cl4 3 (by decide) kf_X4_22 rfl rfl rfl rfl dX4_readDraw_15 (fun H locs hH hS => ?_)
    refine lv_aload_n (pc := 18) hx hb dX4_readDraw_18 rfl (lv_at hl 0 rfl) ?_
    refine g_get (pc := 19) (v := .ref (ad 19)) hC hU hH gk0_3 g_cl4 0 (by decide) kf_X4_40 rfl dX4_readDraw_19 ?_
    obtain ⟨q0_1, hq0_1, hf⟩ := gbd hf
    refine g_callVv (pc := 22) (rest := []) hC hU hH hS hl.1 gk0_19 rfl (by decide) (mX7_step  hq0_1) ky_X7_step km_X4_83 ⟨Nat.le_of_ble_eq_true rfl, Nat.le_of_ble_eq_true rfl⟩ ⟨Nat.zero_le _, Nat.zero_le _⟩ rfl (Nat.le_of_ble_eq_true rfl) dX4_readDraw_22 rfl (fun H locs hH hS => ?_)
    refine lv_aload_n (pc := 25) hx hb dX4_readDraw_25 rfl (lv_at hl 0 rfl) ?_
    refine lv_iconst (v := 0) (pc := 26) hx hb dX4_readDraw_26 (by decide) ?_
    refine lv_sipush (v := 999) (pc := 27) hx hb dX4_readDraw_27 (by decide) ?_
    obtain ⟨q0_2, hq0_2, hf⟩ := gbd hf
    refine g_callVi (pc := 30) (rest := []) hC hU hH hS hl.1 gk0_3 rfl (by decide) (mX4_passNumber  hq0_2) ky_X4_passNumber km_X4_117 ⟨Nat.le_of_ble_eq_true rfl, Nat.le_of_ble_eq_true rfl⟩ ⟨Nat.zero_le _, Nat.zero_le _⟩ rfl (Nat.le_of_ble_eq_true rfl) dX4_readDraw_30 rfl (fun H locs hH hS => ?_)
    refine lv_istore_n (lv' := [(1, .int q0_2.1), (0, .ref (ad 3))]) (pc := 33) hx hb dX4_readDraw_33 rfl hl (by decide) rfl (fun ls hl => ?_)
    refine lv_iload_n (pc := 34) hx hb dX4_readDraw_34 rfl (lv_at hl 0 rfl) ?_
    refine lv_iconst (v := (-1)) (pc := 35) hx hb dX4_readDraw_35 (by decide) ?_
    refine lv_icmp_ne (tgt := 41) (pc := 36) hx hb dX4_readDraw_36 (by decide) (fun hc => ?_) (fun hc => ?_)
    · have hf := gif_n hc hf
      refine lv_aload_n (pc := 41) hx hb dX4_readDraw_41 rfl (lv_at hl 1 rfl) ?_
      refine g_get (pc := 42) (v := .ref (ad (q0_2.2.2.2 3 1))) hC hU hH gk0_3 g_cl4 1 (by decide) kf_X4_12 rfl dX4_readDraw_42 ?_
      refine lv_iload_n (pc := 45) hx hb dX4_readDraw_45 rfl (lv_at hl 0 rfl) ?_
      obtain ⟨h0_1, hf⟩ := gc_s hf
      refine g_puti (pc := 46) hC hU hH hS h0_1 g_cl8 17 (by decide) kf_X4_152 rfl rfl rfl rfl dX4_readDraw_46 (fun H locs hH hS => ?_)
      refine lv_aload_n (pc := 49) hx hb dX4_readDraw_49 rfl (lv_at hl 1 rfl) ?_
      refine lv_bipush (v := 59) (pc := 50) hx hb dX4_readDraw_50 (by decide) ?_
      obtain ⟨q0_3, hq0_3, hf⟩ := gbd hf
      refine g_callVi (pc := 52) (rest := []) hC hU hH hS hl.1 gk0_3 rfl (by decide) (mX4_pass  hq0_3) ky_X4_pass km_X4_111 ⟨Nat.le_of_ble_eq_true rfl, Nat.le_of_ble_eq_true rfl⟩ ⟨Nat.zero_le _, Nat.zero_le _⟩ rfl (Nat.le_of_ble_eq_true rfl) dX4_readDraw_52 rfl (fun H locs hH hS => ?_)
      obtain ⟨h0_2, hf⟩ := gc_s hf
      exact g_zret (pc := 55) hC hret hlk hH hS h0_2 hf dX4_readDraw_55
    · have hf := gif_p hc hf
      refine lv_iconst (v := 0) (pc := 39) hx hb dX4_readDraw_39 (by decide) ?_
      exact g_zret (pc := 40) hC hret hlk hH hS (by decide) hf dX4_readDraw_40
  · have hf := gif_n hc hf
    refine lv_aload_n (pc := 7) hx hb dX4_readDraw_7 rfl (lv_at hl 0 rfl) ?_
    refine lv_iconst (v := 2) (pc := 8) hx hb dX4_readDraw_8 (by decide) ?_
    obtain ⟨q0_4, hq0_4, hf⟩ := gbd hf
    refine g_callVi (pc := 9) (rest := []) hC hU hH hS hl.1 gk0_3 rfl (by decide) (mX4_refuse  hq0_4) ky_X4_refuse km_X4_79 ⟨Nat.le_of_ble_eq_true rfl, Nat.le_of_ble_eq_true rfl⟩ ⟨Nat.zero_le _, Nat.zero_le _⟩ rfl (Nat.le_of_ble_eq_true rfl) dX4_readDraw_9 rfl (fun H locs hH hS => ?_)
    obtain ⟨h0_3, hf⟩ := gc_s hf
    exact g_zret (pc := 12) hC hret hlk hH hS h0_3 hf dX4_readDraw_12
set_option maxRecDepth 100000 in
set_option maxHeartbeats 4000000 in
theorem mX4_readDraw {l : Launch} {D : va_G} {cA : Nat → ClassId} {ad : Nat → Nat}   {r : Int32} {st st' : gS} (hf : fX4_readDraw  st = some (r, st')) : gM l yX4_readDraw cX4_readDraw 2 (some .boolean) 7 0 D cA ad st [.ref (ad 3)] (some (.int r)) st' := by
  refine g_met (by decide) (Nat.le_of_ble_eq_true rfl) ?_
  intro p e s m args below meth c ls hC hret hlk hU hH hl
  exact bX4_readDraw_0 hC hret hlk hU hf hH va_S.rf hl
def fX4_readLine_107    (st : gS) : Option (Int32 × gS) :=
  (fX4_refuse 2 st).bind fun q107_1 => (gc (gB q107_1.1) (some (q107_1.1, q107_1.2)))
set_option maxRecDepth 100000 in
set_option maxHeartbeats 4000000 in
theorem bX4_readLine_107  (hC : CallFix p m c cX4_readLine 1 s args lw_good RX4) (hret : meth.sig.returnType = (some .boolean)) (hlk : meth.locks = false) (hU : gU 0 D cA ad s)  {r : Int32} {st' : gS}   {st : gS} {H : Heap} {locs : List Loc} {ls : Array Slot} (hf : fX4_readLine_107 st = some (r, st')) (hH : gP0 0 D cA ad st H) (hS : va_S (gA 0 ad) s.heap H locs) (hl : lv_has ls 1 [(0, .ref (ad 3))]) : W p l e (gRm 114) s m args below meth c H locs 0 0 (MQ below (gQc 0 D cA ad st' (some (.int r))) args s 0 0 (gA 0 ad)) (F0 m 107 ls []) := by
  obtain ⟨hx, hb, hml, hown, hts⟩ := id hC
  unfold fX4_readLine_107 at hf
  refine lv_aload_n (pc := 107) hx hb dX4_readLine_107 rfl (lv_at hl 0 rfl) ?_
  refine lv_iconst (v := 2) (pc := 108) hx hb dX4_readLine_108 (by decide) ?_
  obtain ⟨q107_1, hq107_1, hf⟩ := gbd hf
  refine g_callVi (pc := 109) (rest := []) hC hU hH hS hl.1 gk0_3 rfl (by decide) (mX4_refuse  hq107_1) ky_X4_refuse km_X4_79 ⟨Nat.le_of_ble_eq_true rfl, Nat.le_of_ble_eq_true rfl⟩ ⟨Nat.zero_le _, Nat.zero_le _⟩ rfl (Nat.le_of_ble_eq_true rfl) dX4_readLine_109 rfl (fun H locs hH hS => ?_)
  obtain ⟨h107_1, hf⟩ := gc_s hf
  exact g_zret (pc := 112) hC hret hlk hH hS h107_1 hf dX4_readLine_112
def fX4_readLine    (st : gS) : Option (Int32 × gS) :=
  if (st.1 19 2) = 0 then ((fX4_readFigure st).bind fun q0_1 => (gc (gB q0_1.1) (some (q0_1.1, q0_1.2)))) else if (st.1 19 2) = 1 then ((fX4_readTribe st).bind fun q0_2 => (gc (gB q0_2.1) (some (q0_2.1, q0_2.2)))) else if (st.1 19 2) = 5 then ((fX4_readMove st).bind fun q0_3 => (gc (gB q0_3.1) (some (q0_3.1, q0_3.2)))) else if (st.1 19 2) = 9 then ((fX4_readWorth st).bind fun q0_4 => (gc (gB q0_4.1) (some (q0_4.1, q0_4.2)))) else if (st.1 19 2) = 10 then ((fX4_readSlip st).bind fun q0_5 => (gc (gB q0_5.1) (some (q0_5.1, q0_5.2)))) else if (st.1 19 2) = 11 then ((fX4_readCord st).bind fun q0_6 => (gc (gB q0_6.1) (some (q0_6.1, q0_6.2)))) else if (st.1 19 2) = 12 then ((fX4_readDraw st).bind fun q0_7 => (gc (gB q0_7.1) (some (q0_7.1, q0_7.2)))) else (fX4_readLine_107 st)
set_option maxRecDepth 100000 in
set_option maxHeartbeats 4000000 in
theorem bX4_readLine_0  (hC : CallFix p m c cX4_readLine 1 s args lw_good RX4) (hret : meth.sig.returnType = (some .boolean)) (hlk : meth.locks = false) (hU : gU 0 D cA ad s)  {r : Int32} {st' : gS}   {st : gS} {H : Heap} {locs : List Loc} {ls : Array Slot} (hf : fX4_readLine st = some (r, st')) (hH : gP0 0 D cA ad st H) (hS : va_S (gA 0 ad) s.heap H locs) (hl : lv_has ls 1 [(0, .ref (ad 3))]) : W p l e (gRm 114) s m args below meth c H locs 0 0 (MQ below (gQc 0 D cA ad st' (some (.int r))) args s 0 0 (gA 0 ad)) (F0 m 0 ls []) := by
  obtain ⟨hx, hb, hml, hown, hts⟩ := id hC
  unfold fX4_readLine at hf
  refine lv_aload_n (pc := 0) hx hb dX4_readLine_0 rfl (lv_at hl 0 rfl) ?_
  refine g_get (pc := 1) (v := .ref (ad 19)) hC hU hH gk0_3 g_cl4 0 (by decide) kf_X4_40 rfl dX4_readLine_1 ?_
  refine g_get (pc := 4) (v := .int (st.1 19 2)) hC hU hH gk0_19 g_cl7 2 (by decide) kf_X4_53 rfl dX4_readLine_4 ?_
  by_cases hw7_0 : (st.1 19 2) = 0
  · have hf := gif_p hw7_0 hf
    refine g_tswI (tgt := 72) (off := 65) (pc := 7) hx hb hw7_0 dX4_readLine_7 (by decide) (by decide) (by decide) (by decide) ?_
    refine lv_aload_n (pc := 72) hx hb dX4_readLine_72 rfl (lv_at hl 0 rfl) ?_
    obtain ⟨q0_1, hq0_1, hf⟩ := gbd hf
    refine g_callVi (pc := 73) (rest := []) hC hU hH hS hl.1 gk0_3 rfl (by decide) (mX4_readFigure  hq0_1) ky_X4_readFigure km_X4_57 ⟨Nat.le_of_ble_eq_true rfl, Nat.le_of_ble_eq_true rfl⟩ ⟨Nat.zero_le _, Nat.zero_le _⟩ rfl (Nat.le_of_ble_eq_true rfl) dX4_readLine_73 rfl (fun H locs hH hS => ?_)
    obtain ⟨h0_1, hf⟩ := gc_s hf
    exact g_zret (pc := 76) hC hret hlk hH hS h0_1 hf dX4_readLine_76
  · have hf := gif_n hw7_0 hf
    by_cases hw7_1 : (st.1 19 2) = 1
    · have hf := gif_p hw7_1 hf
      refine g_tswI (tgt := 77) (off := 70) (pc := 7) hx hb hw7_1 dX4_readLine_7 (by decide) (by decide) (by decide) (by decide) ?_
      refine lv_aload_n (pc := 77) hx hb dX4_readLine_77 rfl (lv_at hl 0 rfl) ?_
      obtain ⟨q0_2, hq0_2, hf⟩ := gbd hf
      refine g_callVi (pc := 78) (rest := []) hC hU hH hS hl.1 gk0_3 rfl (by decide) (mX4_readTribe  hq0_2) ky_X4_readTribe km_X4_61 ⟨Nat.le_of_ble_eq_true rfl, Nat.le_of_ble_eq_true rfl⟩ ⟨Nat.zero_le _, Nat.zero_le _⟩ rfl (Nat.le_of_ble_eq_true rfl) dX4_readLine_78 rfl (fun H locs hH hS => ?_)
      obtain ⟨h0_2, hf⟩ := gc_s hf
      exact g_zret (pc := 81) hC hret hlk hH hS h0_2 hf dX4_readLine_81
    · have hf := gif_n hw7_1 hf
      by_cases hw7_5 : (st.1 19 2) = 5
      · have hf := gif_p hw7_5 hf
        refine g_tswI (tgt := 82) (off := 75) (pc := 7) hx hb hw7_5 dX4_readLine_7 (by decide) (by decide) (by decide) (by decide) ?_
        refine lv_aload_n (pc := 82) hx hb dX4_readLine_82 rfl (lv_at hl 0 rfl) ?_
        obtain ⟨q0_3, hq0_3, hf⟩ := gbd hf
        refine g_callVi (pc := 83) (rest := []) hC hU hH hS hl.1 gk0_3 rfl (by decide) (mX4_readMove  hq0_3) ky_X4_readMove km_X4_64 ⟨Nat.le_of_ble_eq_true rfl, Nat.le_of_ble_eq_true rfl⟩ ⟨Nat.zero_le _, Nat.zero_le _⟩ rfl (Nat.le_of_ble_eq_true rfl) dX4_readLine_83 rfl (fun H locs hH hS => ?_)
        obtain ⟨h0_3, hf⟩ := gc_s hf
        exact g_zret (pc := 86) hC hret hlk hH hS h0_3 hf dX4_readLine_86
      · have hf := gif_n hw7_5 hf
        by_cases hw7_9 : (st.1 19 2) = 9
        · have hf := gif_p hw7_9 hf
          refine g_tswI (tgt := 87) (off := 80) (pc := 7) hx hb hw7_9 dX4_readLine_7 (by decide) (by decide) (by decide) (by decide) ?_
          refine lv_aload_n (pc := 87) hx hb dX4_readLine_87 rfl (lv_at hl 0 rfl) ?_
          obtain ⟨q0_4, hq0_4, hf⟩ := gbd hf
          refine g_callVi (pc := 88) (rest := []) hC hU hH hS hl.1 gk0_3 rfl (by decide) (mX4_readWorth  hq0_4) ky_X4_readWorth km_X4_67 ⟨Nat.le_of_ble_eq_true rfl, Nat.le_of_ble_eq_true rfl⟩ ⟨Nat.zero_le _, Nat.zero_le _⟩ rfl (Nat.le_of_ble_eq_true rfl) dX4_readLine_88 rfl (fun H locs hH hS => ?_)
          obtain ⟨h0_4, hf⟩ := gc_s hf
          exact g_zret (pc := 91) hC hret hlk hH hS h0_4 hf dX4_readLine_91
        · have hf := gif_n hw7_9 hf
          by_cases hw7_10 : (st.1 19 2) = 10
          · have hf := gif_p hw7_10 hf
            refine g_tswI (tgt := 92) (off := 85) (pc := 7) hx hb hw7_10 dX4_readLine_7 (by decide) (by decide) (by decide) (by decide) ?_
            refine lv_aload_n (pc := 92) hx hb dX4_readLine_92 rfl (lv_at hl 0 rfl) ?_
            obtain ⟨q0_5, hq0_5, hf⟩ := gbd hf
            refine g_callVi (pc := 93) (rest := []) hC hU hH hS hl.1 gk0_3 rfl (by decide) (mX4_readSlip  hq0_5) ky_X4_readSlip km_X4_70 ⟨Nat.le_of_ble_eq_true rfl, Nat.le_of_ble_eq_true rfl⟩ ⟨Nat.zero_le _, Nat.zero_le _⟩ rfl (Nat.le_of_ble_eq_true rfl) dX4_readLine_93 rfl (fun H locs hH hS => ?_)
            obtain ⟨h0_5, hf⟩ := gc_s hf
            exact g_zret (pc := 96) hC hret hlk hH hS h0_5 hf dX4_readLine_96
          · have hf := gif_n hw7_10 hf
            by_cases hw7_11 : (st.1 19 2) = 11
            · have hf := gif_p hw7_11 hf
              refine g_tswI (tgt := 97) (off := 90) (pc := 7) hx hb hw7_11 dX4_readLine_7 (by decide) (by decide) (by decide) (by decide) ?_
              refine lv_aload_n (pc := 97) hx hb dX4_readLine_97 rfl (lv_at hl 0 rfl) ?_
              obtain ⟨q0_6, hq0_6, hf⟩ := gbd hf
              refine g_callVi (pc := 98) (rest := []) hC hU hH hS hl.1 gk0_3 rfl (by decide) (mX4_readCord  hq0_6) ky_X4_readCord km_X4_73 ⟨Nat.le_of_ble_eq_true rfl, Nat.le_of_ble_eq_true rfl⟩ ⟨Nat.zero_le _, Nat.zero_le _⟩ rfl (Nat.le_of_ble_eq_true rfl) dX4_readLine_98 rfl (fun H locs hH hS => ?_)
              obtain ⟨h0_6, hf⟩ := gc_s hf
              exact g_zret (pc := 101) hC hret hlk hH hS h0_6 hf dX4_readLine_101
            · have hf := gif_n hw7_11 hf
              by_cases hw7_12 : (st.1 19 2) = 12
              · have hf := gif_p hw7_12 hf
                refine g_tswI (tgt := 102) (off := 95) (pc := 7) hx hb hw7_12 dX4_readLine_7 (by decide) (by decide) (by decide) (by decide) ?_
                refine lv_aload_n (pc := 102) hx hb dX4_readLine_102 rfl (lv_at hl 0 rfl) ?_
                obtain ⟨q0_7, hq0_7, hf⟩ := gbd hf
                refine g_callVi (pc := 103) (rest := []) hC hU hH hS hl.1 gk0_3 rfl (by decide) (mX4_readDraw  hq0_7) ky_X4_readDraw km_X4_76 ⟨Nat.le_of_ble_eq_true rfl, Nat.le_of_ble_eq_true rfl⟩ ⟨Nat.zero_le _, Nat.zero_le _⟩ rfl (Nat.le_of_ble_eq_true rfl) dX4_readLine_103 rfl (fun H locs hH hS => ?_)
                obtain ⟨h0_7, hf⟩ := gc_s hf
                exact g_zret (pc := 106) hC hret hlk hH hS h0_7 hf dX4_readLine_106
              · have hf := gif_n hw7_12 hf
                refine g_tswD (tgt := 107) (n := 13) (pc := 7) hx hb dX4_readLine_7 (by intro j hj hne; match j, hj with | 0, _ => exact absurd hne hw7_0 | 1, _ => exact absurd hne hw7_1 | 2, _ => rfl | 3, _ => rfl | 4, _ => rfl | 5, _ => exact absurd hne hw7_5 | 6, _ => rfl | 7, _ => rfl | 8, _ => rfl | 9, _ => exact absurd hne hw7_9 | 10, _ => exact absurd hne hw7_10 | 11, _ => exact absurd hne hw7_11 | 12, _ => exact absurd hne hw7_12 | n + 13, h => exact absurd h (by omega)) rfl (by decide) ?_
                exact bX4_readLine_107 hC hret hlk hU hf hH hS (lv_sub hl [0] rfl)
set_option maxRecDepth 100000 in
set_option maxHeartbeats 4000000 in
theorem mX4_readLine {l : Launch} {D : va_G} {cA : Nat → ClassId} {ad : Nat → Nat}   {r : Int32} {st st' : gS} (hf : fX4_readLine  st = some (r, st')) : gM l yX4_readLine cX4_readLine 1 (some .boolean) 114 0 D cA ad st [.ref (ad 3)] (some (.int r)) st' := by
  refine g_met (by decide) (Nat.le_of_ble_eq_true rfl) ?_
  intro p e s m args below meth c ls hC hret hlk hU hH hl
  exact bX4_readLine_0 hC hret hlk hU hf hH va_S.rf hl
def fX8_ableIf_38 (t : Nat) (a1 : Int32) (a2 : Int32) (k5 : Int32 → Int32 → gS → Option (Int32 × gS)) (l3 : Int32) (l4 : Int32) (s0 : Int32) (st : gS) : Option (Int32 × gS) :=
  (fX8_hasTribe t a1 st).bind fun q38_1 => (if q38_1.1 = 0 then (k5 l3 (l4 + 1) q38_1.2) else (gc (gI a1 5) (if (((q38_1.2.1 (t + 1 + 3) a1.toNatClampNeg) >>> (s0 &&& 31)) &&& 1) = 0 then (gl (l3 ||| (1 <<< (l4 &&& 31))) fun x68 => (k5 x68 (l4 + 1) q38_1.2)) else (k5 l3 (l4 + 1) q38_1.2))))
set_option maxRecDepth 100000 in
set_option maxHeartbeats 4000000 in
theorem bX8_ableIf_38 {t : Nat} {a1 : Int32} {a2 : Int32} (hC : CallFix p m c cX8_ableIf 6 s args lw_good RX8) (hret : meth.sig.returnType = (some .int)) (hlk : meth.locks = false) (hU : gU 0 D cA ad s) (ht : gK 0 t = 8) {r : Int32} {st' : gS} {k5 : Int32 → Int32 → gS → Option (Int32 × gS)} (hk5 : ∀ {l3 : Int32} {l4 : Int32} {st : gS} {H : Heap} {locs : List Loc} {ls : Array Slot}, k5 l3 l4 st = some (r, st') → gP0 0 D cA ad st H → va_S (gA 0 ad) s.heap H locs → lv_has ls 6 [(0, .ref (ad t)), (1, .int a1), (2, .int a2), (3, .int l3), (4, .int l4)] → W p l e (gRm 2) s m args below meth c H locs 0 0 (MQ below (gQc 0 D cA ad st' (some (.int r))) args s 0 0 (gA 0 ad)) (F0 m 5 ls [])) {l3 : Int32} {l4 : Int32} {s0 : Int32} {st : gS} {H : Heap} {locs : List Loc} {ls : Array Slot} (hf : fX8_ableIf_38 t a1 a2 k5 l3 l4 s0 st = some (r, st')) (hH : gP0 0 D cA ad st H) (hS : va_S (gA 0 ad) s.heap H locs) (hl : lv_has ls 6 [(0, .ref (ad t)), (1, .int a1), (2, .int a2), (3, .int l3), (4, .int l4)]) : W p l e (gRm 2) s m args below meth c H locs 0 0 (MQ below (gQc 0 D cA ad st' (some (.int r))) args s 0 0 (gA 0 ad)) (F0 m 38 ls [.int s0]) := by
  obtain ⟨hx, hb, hml, hown, hts⟩ := id hC
  unfold fX8_ableIf_38 at hf
  refine lv_istore (lv' := [(5, .int s0), (0, .ref (ad t)), (1, .int a1), (2, .int a2), (3, .int l3), (4, .int l4)]) (pc := 38) hx hb dX8_ableIf_38 hl (by decide) rfl (fun ls hl => ?_)
  refine lv_aload_n (pc := 40) hx hb dX8_ableIf_40 rfl (lv_at hl 1 rfl) ?_
  refine lv_iload_n (pc := 41) hx hb dX8_ableIf_41 rfl (lv_at hl 2 rfl) ?_
  obtain ⟨q38_1, hq38_1, hf⟩ := gbd hf
  refine g_callVi (pc := 42) (rest := []) hC hU hH hS hl.1 ht rfl (by decide) (mX8_hasTribe ht hq38_1) ky_X8_hasTribe km_X8_81 ⟨Nat.le_of_ble_eq_true rfl, Nat.le_of_ble_eq_true rfl⟩ ⟨Nat.zero_le _, Nat.zero_le _⟩ rfl (Nat.le_of_ble_eq_true rfl) dX8_ableIf_42 rfl (fun H locs hH hS => ?_)
  refine lv_if_eq (tgt := 69) (pc := 45) hx hb dX8_ableIf_45 (by decide) (fun hc => ?_) (fun hc => ?_)
  · have hf := gif_p hc hf
    refine lv_iinc (v := l4 + 1) (lv' := [(4, .int (l4 + 1)), (5, .int s0), (0, .ref (ad t)), (1, .int a1), (2, .int a2), (3, .int l3)]) (k := 5) (pc := 69) hx hb dX8_ableIf_69 hl rfl rfl (by decide) rfl (fun ls hl => ?_)
    refine lv_goto (tgt := 5) (pc := 72) hx hb dX8_ableIf_72 (by decide) ?_
    exact hk5 hf hH hS (lv_sub hl [2, 3, 4, 5, 0] rfl)
  · have hf := gif_n hc hf
    refine lv_aload_n (pc := 48) hx hb dX8_ableIf_48 rfl (lv_at hl 1 rfl) ?_
    refine g_get (pc := 49) (v := .ref (ad (t + 1 + 3))) hC hU hH ht g_cl8 3 (by decide) kf_X8_22 rfl dX8_ableIf_49 ?_
    refine lv_iload_n (pc := 52) hx hb dX8_ableIf_52 rfl (lv_at hl 2 rfl) ?_
    obtain ⟨h38_1, hf⟩ := gc_s hf
    refine g_iald (pc := 53) hC hU hH (gk_8_3 ht) (gn_8_3 ht) h38_1 dX8_ableIf_53 ?_
    refine lv_iload (pc := 54) hx hb dX8_ableIf_54 (lv_at hl 0 rfl) ?_
    refine lv_ishr (pc := 56) hx hb dX8_ableIf_56 ?_
    refine lv_iconst (v := 1) (pc := 57) hx hb dX8_ableIf_57 (by decide) ?_
    refine lv_iand (pc := 58) hx hb dX8_ableIf_58 ?_
    refine lv_if_ne (tgt := 69) (pc := 59) hx hb dX8_ableIf_59 (by decide) (fun hc => ?_) (fun hc => ?_)
    · have hf := gif_n hc hf
      refine lv_iinc (v := l4 + 1) (lv' := [(4, .int (l4 + 1)), (5, .int s0), (0, .ref (ad t)), (1, .int a1), (2, .int a2), (3, .int l3)]) (k := 5) (pc := 69) hx hb dX8_ableIf_69 hl rfl rfl (by decide) rfl (fun ls hl => ?_)
      refine lv_goto (tgt := 5) (pc := 72) hx hb dX8_ableIf_72 (by decide) ?_
      exact hk5 hf hH hS (lv_sub hl [2, 3, 4, 5, 0] rfl)
    · have hf := gif_p hc hf
      refine lv_iload_n (pc := 62) hx hb dX8_ableIf_62 rfl (lv_at hl 4 rfl) ?_
      refine lv_iconst (v := 1) (pc := 63) hx hb dX8_ableIf_63 (by decide) ?_
      refine lv_iload (pc := 64) hx hb dX8_ableIf_64 (lv_at hl 5 rfl) ?_
      refine lv_ishl (pc := 66) hx hb dX8_ableIf_66 ?_
      refine lv_ior (pc := 67) hx hb dX8_ableIf_67 ?_
      refine lv_topi (pc := 68) (fun x68 ex68 => ?_)
      have hf := gl_s ex68 hf
      refine lv_istore_n (lv' := [(3, .int x68), (5, .int s0), (0, .ref (ad t)), (1, .int a1), (2, .int a2), (4, .int l4)]) (pc := 68) hx hb dX8_ableIf_68 rfl hl (by decide) rfl (fun ls hl => ?_)
      refine lv_iinc (v := l4 + 1) (lv' := [(4, .int (l4 + 1)), (3, .int x68), (5, .int s0), (0, .ref (ad t)), (1, .int a1), (2, .int a2)]) (k := 5) (pc := 69) hx hb dX8_ableIf_69 hl rfl rfl (by decide) rfl (fun ls hl => ?_)
      refine lv_goto (tgt := 5) (pc := 72) hx hb dX8_ableIf_72 (by decide) ?_
      exact hk5 hf hH hS (lv_sub hl [3, 4, 5, 1, 0] rfl)
def fX8_ableIf_5 (t : Nat) (a1 : Int32) (a2 : Int32) (k5 : Int32 → Int32 → gS → Option (Int32 × gS)) (l3 : Int32) (l4 : Int32) (st : gS) : Option (Int32 × gS) :=
  if (st.1 t 14) ≤ l4 then (some (l3, st)) else (if a2 = 0 then (gc (gI l4 16) (fX8_ableIf_38 t a1 a2 k5 l3 l4 (st.1 (t + 1 + 8) l4.toNatClampNeg) st)) else (gc (gI l4 16) (fX8_ableIf_38 t a1 a2 k5 l3 l4 (9 - (st.1 (t + 1 + 8) l4.toNatClampNeg)) st)))
set_option maxRecDepth 100000 in
set_option maxHeartbeats 4000000 in
theorem bX8_ableIf_5 {t : Nat} {a1 : Int32} {a2 : Int32} (hC : CallFix p m c cX8_ableIf 6 s args lw_good RX8) (hret : meth.sig.returnType = (some .int)) (hlk : meth.locks = false) (hU : gU 0 D cA ad s) (ht : gK 0 t = 8) {r : Int32} {st' : gS} {k5 : Int32 → Int32 → gS → Option (Int32 × gS)} (hk5 : ∀ {l3 : Int32} {l4 : Int32} {st : gS} {H : Heap} {locs : List Loc} {ls : Array Slot}, k5 l3 l4 st = some (r, st') → gP0 0 D cA ad st H → va_S (gA 0 ad) s.heap H locs → lv_has ls 6 [(0, .ref (ad t)), (1, .int a1), (2, .int a2), (3, .int l3), (4, .int l4)] → W p l e (gRm 2) s m args below meth c H locs 0 0 (MQ below (gQc 0 D cA ad st' (some (.int r))) args s 0 0 (gA 0 ad)) (F0 m 5 ls [])) {l3 : Int32} {l4 : Int32} {st : gS} {H : Heap} {locs : List Loc} {ls : Array Slot} (hf : fX8_ableIf_5 t a1 a2 k5 l3 l4 st = some (r, st')) (hH : gP0 0 D cA ad st H) (hS : va_S (gA 0 ad) s.heap H locs) (hl : lv_has ls 6 [(0, .ref (ad t)), (1, .int a1), (2, .int a2), (3, .int l3), (4, .int l4)]) : W p l e (gRm 2) s m args below meth c H locs 0 0 (MQ below (gQc 0 D cA ad st' (some (.int r))) args s 0 0 (gA 0 ad)) (F0 m 5 ls []) := by
  obtain ⟨hx, hb, hml, hown, hts⟩ := id hC
  unfold fX8_ableIf_5 at hf
  refine lv_iload (pc := 5) hx hb dX8_ableIf_5 (lv_at hl 4 rfl) ?_
  refine lv_aload_n (pc := 7) hx hb dX8_ableIf_7 rfl (lv_at hl 0 rfl) ?_
  refine g_get (pc := 8) (v := .int (st.1 t 14)) hC hU hH ht g_cl8 14 (by decide) kf_X8_60 rfl dX8_ableIf_8 ?_
  refine lv_icmp_ge (tgt := 75) (pc := 11) hx hb dX8_ableIf_11 (by decide) (fun hc => ?_) (fun hc => ?_)
  · have hf := gif_p hc hf
    refine lv_iload_n (pc := 75) hx hb dX8_ableIf_75 rfl (lv_at hl 3 rfl) ?_
    exact g_iret (pc := 76) hC hret hlk hH hS hf dX8_ableIf_76
  · have hf := gif_n hc hf
    refine lv_iload_n (pc := 14) hx hb dX8_ableIf_14 rfl (lv_at hl 2 rfl) ?_
    refine lv_if_eq (tgt := 31) (pc := 15) hx hb dX8_ableIf_15 (by decide) (fun hc => ?_) (fun hc => ?_)
    · have hf := gif_p hc hf
      refine lv_aload_n (pc := 31) hx hb dX8_ableIf_31 rfl (lv_at hl 0 rfl) ?_
      refine g_get (pc := 32) (v := .ref (ad (t + 1 + 8))) hC hU hH ht g_cl8 8 (by decide) kf_X8_37 rfl dX8_ableIf_32 ?_
      refine lv_iload (pc := 35) hx hb dX8_ableIf_35 (lv_at hl 4 rfl) ?_
      obtain ⟨h5_1, hf⟩ := gc_s hf
      refine g_iald (pc := 37) hC hU hH (gk_8_8 ht) (gn_8_8 ht) h5_1 dX8_ableIf_37 ?_
      exact bX8_ableIf_38 hC hret hlk hU ht hk5 hf hH hS (lv_sub hl [0, 1, 2, 3, 4] rfl)
    · have hf := gif_n hc hf
      refine lv_bipush (v := 9) (pc := 18) hx hb dX8_ableIf_18 (by decide) ?_
      refine lv_aload_n (pc := 20) hx hb dX8_ableIf_20 rfl (lv_at hl 0 rfl) ?_
      refine g_get (pc := 21) (v := .ref (ad (t + 1 + 8))) hC hU hH ht g_cl8 8 (by decide) kf_X8_37 rfl dX8_ableIf_21 ?_
      refine lv_iload (pc := 24) hx hb dX8_ableIf_24 (lv_at hl 4 rfl) ?_
      obtain ⟨h5_2, hf⟩ := gc_s hf
      refine g_iald (pc := 26) hC hU hH (gk_8_8 ht) (gn_8_8 ht) h5_2 dX8_ableIf_26 ?_
      refine lv_isub (pc := 27) hx hb dX8_ableIf_27 ?_
      refine lv_goto (tgt := 38) (pc := 28) hx hb dX8_ableIf_28 (by decide) ?_
      exact bX8_ableIf_38 hC hret hlk hU ht hk5 hf hH hS (lv_sub hl [0, 1, 2, 3, 4] rfl)
def hX8_ableIf_5 (t : Nat) (a1 : Int32) (a2 : Int32)  : Nat → Int32 → Int32 → gS → Option (Int32 × gS)
  | 0 => fun _ _ _ => none
  | n + 1 => fun l3 l4 st => fX8_ableIf_5 t a1 a2 (hX8_ableIf_5 t a1 a2 n) l3 l4 st
set_option maxRecDepth 100000 in
set_option maxHeartbeats 4000000 in
theorem wX8_ableIf_5 {t : Nat} {a1 : Int32} {a2 : Int32} (hC : CallFix p m c cX8_ableIf 6 s args lw_good RX8) (hret : meth.sig.returnType = (some .int)) (hlk : meth.locks = false) (hU : gU 0 D cA ad s) (ht : gK 0 t = 8) {r : Int32} {st' : gS}  : ∀ (n : Nat) {l3 : Int32} {l4 : Int32} {st : gS} {H : Heap} {locs : List Loc} {ls : Array Slot}, hX8_ableIf_5 t a1 a2 n l3 l4 st = some (r, st') → gP0 0 D cA ad st H → va_S (gA 0 ad) s.heap H locs → lv_has ls 6 [(0, .ref (ad t)), (1, .int a1), (2, .int a2), (3, .int l3), (4, .int l4)] → W p l e (gRm 2) s m args below meth c H locs 0 0 (MQ below (gQc 0 D cA ad st' (some (.int r))) args s 0 0 (gA 0 ad)) (F0 m 5 ls []) := by
  intro n
  induction n with
  | zero => intro l3 l4 st H locs ls hf hH hS hl; cases hf
  | succ n ih =>
    intro l3 l4 st H locs ls hf hH hS hl
    exact bX8_ableIf_5 (t := t) (a1 := a1) (a2 := a2) hC hret hlk hU ht (fun hf hH hS hl => ih hf hH hS hl) hf hH hS hl
def fX8_ableIf (t : Nat) (a1 : Int32) (a2 : Int32)   (st : gS) : Option (Int32 × gS) :=
  hX8_ableIf_5 t a1 a2 FU 0 0 st
set_option maxRecDepth 100000 in
set_option maxHeartbeats 4000000 in
theorem bX8_ableIf_0 {t : Nat} {a1 : Int32} {a2 : Int32} (hC : CallFix p m c cX8_ableIf 6 s args lw_good RX8) (hret : meth.sig.returnType = (some .int)) (hlk : meth.locks = false) (hU : gU 0 D cA ad s) (ht : gK 0 t = 8) {r : Int32} {st' : gS}   {st : gS} {H : Heap} {locs : List Loc} {ls : Array Slot} (hf : fX8_ableIf t a1 a2 st = some (r, st')) (hH : gP0 0 D cA ad st H) (hS : va_S (gA 0 ad) s.heap H locs) (hl : lv_has ls 6 [(0, .ref (ad t)), (1, .int a1), (2, .int a2)]) : W p l e (gRm 2) s m args below meth c H locs 0 0 (MQ below (gQc 0 D cA ad st' (some (.int r))) args s 0 0 (gA 0 ad)) (F0 m 0 ls []) := by
  obtain ⟨hx, hb, hml, hown, hts⟩ := id hC
  unfold fX8_ableIf at hf
  refine lv_iconst (v := 0) (pc := 0) hx hb dX8_ableIf_0 (by decide) ?_
  refine lv_istore_n (lv' := [(3, .int 0), (0, .ref (ad t)), (1, .int a1), (2, .int a2)]) (pc := 1) hx hb dX8_ableIf_1 rfl hl (by decide) rfl (fun ls hl => ?_)
  refine lv_iconst (v := 0) (pc := 2) hx hb dX8_ableIf_2 (by decide) ?_
  refine lv_istore (lv' := [(4, .int 0), (3, .int 0), (0, .ref (ad t)), (1, .int a1), (2, .int a2)]) (pc := 3) hx hb dX8_ableIf_3 hl (by decide) rfl (fun ls hl => ?_)
  exact wX8_ableIf_5 hC hret hlk hU ht FU hf hH hS (lv_sub hl [2, 3, 4, 1, 0] rfl)
set_option maxRecDepth 100000 in
set_option maxHeartbeats 4000000 in
theorem mX8_ableIf {l : Launch} {D : va_G} {cA : Nat → ClassId} {ad : Nat → Nat} {t : Nat} {a1 : Int32} {a2 : Int32} (ht : gK 0 t = 8) {r : Int32} {st st' : gS} (hf : fX8_ableIf t a1 a2 st = some (r, st')) : gM l yX8_ableIf cX8_ableIf 6 (some .int) 2 0 D cA ad st [.ref (ad t), .int a1, .int a2] (some (.int r)) st' := by
  refine g_met (by decide) (Nat.le_of_ble_eq_true rfl) ?_
  intro p e s m args below meth c ls hC hret hlk hU hH hl
  exact bX8_ableIf_0 hC hret hlk hU ht hf hH va_S.rf hl
def fX8_seeWhoCan_33 (t : Nat) (k2 : Int32 → gS → Option (gS)) (l1 : Int32) (s0 : Int32) (s1 : Int32) (s3 : Int32) (st : gS) : Option (gS) :=
  (fX8_ableIf t s1 s0 st).bind fun q33_1 => (gc (gI s3 5) (k2 (l1 + 1) (wi q33_1.2 (t + 1 + 4) s3.toNatClampNeg q33_1.1)))
set_option maxRecDepth 100000 in
set_option maxHeartbeats 4000000 in
theorem bX8_seeWhoCan_33 {t : Nat} (hC : CallFix p m c cX8_seeWhoCan 2 s args lw_good RX8) (hret : meth.sig.returnType = none) (hlk : meth.locks = false) (hU : gU 0 D cA ad s) (ht : gK 0 t = 8) {st' : gS} {k2 : Int32 → gS → Option (gS)} (hk2 : ∀ {l1 : Int32} {st : gS} {H : Heap} {locs : List Loc} {ls : Array Slot}, k2 l1 st = some st' → gP0 0 D cA ad st H → va_S (gA 0 ad) s.heap H locs → lv_has ls 2 [(0, .ref (ad t)), (1, .int l1)] → W p l e (gRm 3) s m args below meth c H locs 0 0 (MQ below (gQc 0 D cA ad st' none) args s 0 0 (gA 0 ad)) (F0 m 2 ls [])) {l1 : Int32} {s0 : Int32} {s1 : Int32} {s3 : Int32} {st : gS} {H : Heap} {locs : List Loc} {ls : Array Slot} (hf : fX8_seeWhoCan_33 t k2 l1 s0 s1 s3 st = some st') (hH : gP0 0 D cA ad st H) (hS : va_S (gA 0 ad) s.heap H locs) (hl : lv_has ls 2 [(0, .ref (ad t)), (1, .int l1)]) : W p l e (gRm 3) s m args below meth c H locs 0 0 (MQ below (gQc 0 D cA ad st' none) args s 0 0 (gA 0 ad)) (F0 m 33 ls [.int s0, .int s1, .ref (ad t), .int s3, .ref (ad (t + 1 + 4))]) := by
  obtain ⟨hx, hb, hml, hown, hts⟩ := id hC
  unfold fX8_seeWhoCan_33 at hf
  obtain ⟨q33_1, hq33_1, hf⟩ := gbd hf
  refine g_callVi (pc := 33) (rest := [.int s3, .ref (ad (t + 1 + 4))]) hC hU hH hS hl.1 ht rfl (by decide) (mX8_ableIf ht hq33_1) ky_X8_ableIf km_X8_111 ⟨Nat.le_of_ble_eq_true rfl, Nat.le_of_ble_eq_true rfl⟩ ⟨Nat.zero_le _, Nat.zero_le _⟩ rfl (Nat.le_of_ble_eq_true rfl) dX8_seeWhoCan_33 rfl (fun H locs hH hS => ?_)
  obtain ⟨h33_1, hf⟩ := gc_s hf
  refine g_iast (pc := 36) hC hU hH hS (gk_8_4 ht) (gn_8_4 ht) h33_1 dX8_seeWhoCan_36 (fun H locs hH hS => ?_)
  refine lv_iinc (v := l1 + 1) (lv' := [(1, .int (l1 + 1)), (0, .ref (ad t))]) (k := 1) (pc := 37) hx hb dX8_seeWhoCan_37 hl rfl rfl (by decide) rfl (fun ls hl => ?_)
  refine lv_goto (tgt := 2) (pc := 40) hx hb dX8_seeWhoCan_40 (by decide) ?_
  exact hk2 hf hH hS (lv_sub hl [1, 0] rfl)
def fX8_seeWhoCan_2 (t : Nat) (k2 : Int32 → gS → Option (gS)) (l1 : Int32) (st : gS) : Option (gS) :=
  if (st.1 t 13) ≤ l1 then (some st) else (if (((st.1 t 15) >>> (l1 &&& 31)) &&& 1) = 0 then (fX8_seeWhoCan_33 t k2 l1 0 l1 l1 st) else (fX8_seeWhoCan_33 t k2 l1 1 l1 l1 st))
set_option maxRecDepth 100000 in
set_option maxHeartbeats 4000000 in
theorem bX8_seeWhoCan_2 {t : Nat} (hC : CallFix p m c cX8_seeWhoCan 2 s args lw_good RX8) (hret : meth.sig.returnType = none) (hlk : meth.locks = false) (hU : gU 0 D cA ad s) (ht : gK 0 t = 8) {st' : gS} {k2 : Int32 → gS → Option (gS)} (hk2 : ∀ {l1 : Int32} {st : gS} {H : Heap} {locs : List Loc} {ls : Array Slot}, k2 l1 st = some st' → gP0 0 D cA ad st H → va_S (gA 0 ad) s.heap H locs → lv_has ls 2 [(0, .ref (ad t)), (1, .int l1)] → W p l e (gRm 3) s m args below meth c H locs 0 0 (MQ below (gQc 0 D cA ad st' none) args s 0 0 (gA 0 ad)) (F0 m 2 ls [])) {l1 : Int32} {st : gS} {H : Heap} {locs : List Loc} {ls : Array Slot} (hf : fX8_seeWhoCan_2 t k2 l1 st = some st') (hH : gP0 0 D cA ad st H) (hS : va_S (gA 0 ad) s.heap H locs) (hl : lv_has ls 2 [(0, .ref (ad t)), (1, .int l1)]) : W p l e (gRm 3) s m args below meth c H locs 0 0 (MQ below (gQc 0 D cA ad st' none) args s 0 0 (gA 0 ad)) (F0 m 2 ls []) := by
  obtain ⟨hx, hb, hml, hown, hts⟩ := id hC
  unfold fX8_seeWhoCan_2 at hf
  refine lv_iload_n (pc := 2) hx hb dX8_seeWhoCan_2 rfl (lv_at hl 1 rfl) ?_
  refine lv_aload_n (pc := 3) hx hb dX8_seeWhoCan_3 rfl (lv_at hl 0 rfl) ?_
  refine g_get (pc := 4) (v := .int (st.1 t 13)) hC hU hH ht g_cl8 13 (by decide) kf_X8_57 rfl dX8_seeWhoCan_4 ?_
  refine lv_icmp_ge (tgt := 43) (pc := 7) hx hb dX8_seeWhoCan_7 (by decide) (fun hc => ?_) (fun hc => ?_)
  · have hf := gif_p hc hf
    exact g_vret (pc := 43) hC hret hlk hH hS hf dX8_seeWhoCan_43
  · have hf := gif_n hc hf
    refine lv_aload_n (pc := 10) hx hb dX8_seeWhoCan_10 rfl (lv_at hl 0 rfl) ?_
    refine g_get (pc := 11) (v := .ref (ad (t + 1 + 4))) hC hU hH ht g_cl8 4 (by decide) kf_X8_25 rfl dX8_seeWhoCan_11 ?_
    refine lv_iload_n (pc := 14) hx hb dX8_seeWhoCan_14 rfl (lv_at hl 1 rfl) ?_
    refine lv_aload_n (pc := 15) hx hb dX8_seeWhoCan_15 rfl (lv_at hl 0 rfl) ?_
    refine lv_iload_n (pc := 16) hx hb dX8_seeWhoCan_16 rfl (lv_at hl 1 rfl) ?_
    refine lv_aload_n (pc := 17) hx hb dX8_seeWhoCan_17 rfl (lv_at hl 0 rfl) ?_
    refine g_get (pc := 18) (v := .int (st.1 t 15)) hC hU hH ht g_cl8 15 (by decide) kf_X8_63 rfl dX8_seeWhoCan_18 ?_
    refine lv_iload_n (pc := 21) hx hb dX8_seeWhoCan_21 rfl (lv_at hl 1 rfl) ?_
    refine lv_ishr (pc := 22) hx hb dX8_seeWhoCan_22 ?_
    refine lv_iconst (v := 1) (pc := 23) hx hb dX8_seeWhoCan_23 (by decide) ?_
    refine lv_iand (pc := 24) hx hb dX8_seeWhoCan_24 ?_
    refine lv_if_eq (tgt := 32) (pc := 25) hx hb dX8_seeWhoCan_25 (by decide) (fun hc => ?_) (fun hc => ?_)
    · have hf := gif_p hc hf
      refine lv_iconst (v := 0) (pc := 32) hx hb dX8_seeWhoCan_32 (by decide) ?_
      exact bX8_seeWhoCan_33 hC hret hlk hU ht hk2 hf hH hS (lv_sub hl [0, 1] rfl)
    · have hf := gif_n hc hf
      refine lv_iconst (v := 1) (pc := 28) hx hb dX8_seeWhoCan_28 (by decide) ?_
      refine lv_goto (tgt := 33) (pc := 29) hx hb dX8_seeWhoCan_29 (by decide) ?_
      exact bX8_seeWhoCan_33 hC hret hlk hU ht hk2 hf hH hS (lv_sub hl [0, 1] rfl)
def hX8_seeWhoCan_2 (t : Nat)  : Nat → Int32 → gS → Option (gS)
  | 0 => fun _ _ => none
  | n + 1 => fun l1 st => fX8_seeWhoCan_2 t (hX8_seeWhoCan_2 t n) l1 st
set_option maxRecDepth 100000 in
set_option maxHeartbeats 4000000 in
theorem wX8_seeWhoCan_2 {t : Nat} (hC : CallFix p m c cX8_seeWhoCan 2 s args lw_good RX8) (hret : meth.sig.returnType = none) (hlk : meth.locks = false) (hU : gU 0 D cA ad s) (ht : gK 0 t = 8) {st' : gS}  : ∀ (n : Nat) {l1 : Int32} {st : gS} {H : Heap} {locs : List Loc} {ls : Array Slot}, hX8_seeWhoCan_2 t n l1 st = some st' → gP0 0 D cA ad st H → va_S (gA 0 ad) s.heap H locs → lv_has ls 2 [(0, .ref (ad t)), (1, .int l1)] → W p l e (gRm 3) s m args below meth c H locs 0 0 (MQ below (gQc 0 D cA ad st' none) args s 0 0 (gA 0 ad)) (F0 m 2 ls []) := by
  intro n
  induction n with
  | zero => intro l1 st H locs ls hf hH hS hl; cases hf
  | succ n ih =>
    intro l1 st H locs ls hf hH hS hl
    exact bX8_seeWhoCan_2 (t := t) hC hret hlk hU ht (fun hf hH hS hl => ih hf hH hS hl) hf hH hS hl
def fX8_seeWhoCan (t : Nat)   (st : gS) : Option (gS) :=
  hX8_seeWhoCan_2 t FU 0 st
set_option maxRecDepth 100000 in
set_option maxHeartbeats 4000000 in
theorem bX8_seeWhoCan_0 {t : Nat} (hC : CallFix p m c cX8_seeWhoCan 2 s args lw_good RX8) (hret : meth.sig.returnType = none) (hlk : meth.locks = false) (hU : gU 0 D cA ad s) (ht : gK 0 t = 8) {st' : gS}   {st : gS} {H : Heap} {locs : List Loc} {ls : Array Slot} (hf : fX8_seeWhoCan t st = some st') (hH : gP0 0 D cA ad st H) (hS : va_S (gA 0 ad) s.heap H locs) (hl : lv_has ls 2 [(0, .ref (ad t))]) : W p l e (gRm 3) s m args below meth c H locs 0 0 (MQ below (gQc 0 D cA ad st' none) args s 0 0 (gA 0 ad)) (F0 m 0 ls []) := by
  obtain ⟨hx, hb, hml, hown, hts⟩ := id hC
  unfold fX8_seeWhoCan at hf
  refine lv_iconst (v := 0) (pc := 0) hx hb dX8_seeWhoCan_0 (by decide) ?_
  refine lv_istore_n (lv' := [(1, .int 0), (0, .ref (ad t))]) (pc := 1) hx hb dX8_seeWhoCan_1 rfl hl (by decide) rfl (fun ls hl => ?_)
  exact wX8_seeWhoCan_2 hC hret hlk hU ht FU hf hH hS (lv_sub hl [1, 0] rfl)
set_option maxRecDepth 100000 in
set_option maxHeartbeats 4000000 in
theorem mX8_seeWhoCan {l : Launch} {D : va_G} {cA : Nat → ClassId} {ad : Nat → Nat} {t : Nat} (ht : gK 0 t = 8) {st st' : gS} (hf : fX8_seeWhoCan t st = some st') : gM l yX8_seeWhoCan cX8_seeWhoCan 2 none 3 0 D cA ad st [.ref (ad t)] none st' := by
  refine g_met (by decide) (Nat.le_of_ble_eq_true rfl) ?_
  intro p e s m args below meth c ls hC hret hlk hU hH hl
  exact bX8_seeWhoCan_0 hC hret hlk hU ht hf hH va_S.rf hl
def fX4_exchange (r1 : Nat)   (st : gS) : Option (Nat × gS) :=
  gc (gK 0 (st.2.2 3 1) = 8) ((fX8_seeWhoCan (st.2.2 3 1) st).bind fun q0_1 => (some ((q0_1.2.2 3 1), wr q0_1 3 1 r1)))
set_option maxRecDepth 100000 in
set_option maxHeartbeats 4000000 in
theorem bX4_exchange_0 {r1 : Nat} (hC : CallFix p m c cX4_exchange 3 s args lw_good RX4) (hret : meth.sig.returnType = (some (.object "CradleTreaty$Treaty"))) (hlk : meth.locks = false) (hU : gU 0 D cA ad s) (hr1 : gK 0 r1 = 8) {r : Nat} {st' : gS}   {st : gS} {H : Heap} {locs : List Loc} {ls : Array Slot} (hf : fX4_exchange r1 st = some (r, st')) (hH : gP0 0 D cA ad st H) (hS : va_S (gA 0 ad) s.heap H locs) (hl : lv_has ls 3 [(0, .ref (ad 3)), (1, .ref (ad r1))]) : W p l e (gRm 4) s m args below meth c H locs 0 0 (MQ below (gQc 0 D cA ad st' (some (.ref (ad r)))) args s 0 0 (gA 0 ad)) (F0 m 0 ls []) := by
  obtain ⟨hx, hb, hml, hown, hts⟩ := id hC
  unfold fX4_exchange at hf
  refine lv_aload_n (pc := 0) hx hb dX4_exchange_0 rfl (lv_at hl 0 rfl) ?_
  refine g_get (pc := 1) (v := .ref (ad (st.2.2 3 1))) hC hU hH gk0_3 g_cl4 1 (by decide) kf_X4_12 rfl dX4_exchange_1 ?_
  obtain ⟨h0_1, hf⟩ := gc_s hf
  obtain ⟨q0_1, hq0_1, hf⟩ := gbd hf
  refine g_callVv (pc := 4) (rest := []) hC hU hH hS hl.1 h0_1 rfl (by decide) (mX8_seeWhoCan h0_1 hq0_1) ky_X8_seeWhoCan km_X4_44 ⟨Nat.le_of_ble_eq_true rfl, Nat.le_of_ble_eq_true rfl⟩ ⟨Nat.zero_le _, Nat.zero_le _⟩ rfl (Nat.le_of_ble_eq_true rfl) dX4_exchange_4 rfl (fun H locs hH hS => ?_)
  refine lv_aload_n (pc := 7) hx hb dX4_exchange_7 rfl (lv_at hl 0 rfl) ?_
  refine g_get (pc := 8) (v := .ref (ad (q0_1.2.2 3 1))) hC hU hH gk0_3 g_cl4 1 (by decide) kf_X4_12 rfl dX4_exchange_8 ?_
  refine lv_astore_n (lv' := [(2, .ref (ad (q0_1.2.2 3 1))), (0, .ref (ad 3)), (1, .ref (ad r1))]) (pc := 11) hx hb dX4_exchange_11 rfl hl (by decide) rfl (fun ls hl => ?_)
  refine lv_aload_n (pc := 12) hx hb dX4_exchange_12 rfl (lv_at hl 1 rfl) ?_
  refine lv_aload_n (pc := 13) hx hb dX4_exchange_13 rfl (lv_at hl 2 rfl) ?_
  refine g_putr (pc := 14) hC hU hH hS gk0_3 g_cl4 1 (by decide) kf_X4_12 rfl rfl rfl rfl dX4_exchange_14 (fun H locs hH hS => ?_)
  refine lv_aload_n (pc := 17) hx hb dX4_exchange_17 rfl (lv_at hl 0 rfl) ?_
  exact g_aret (pc := 18) hC hret hlk hH hS hf dX4_exchange_18
set_option maxRecDepth 100000 in
set_option maxHeartbeats 4000000 in
theorem mX4_exchange {l : Launch} {D : va_G} {cA : Nat → ClassId} {ad : Nat → Nat} {r1 : Nat} (hr1 : gK 0 r1 = 8) {r : Nat} {st st' : gS} (hf : fX4_exchange r1 st = some (r, st')) : gM l yX4_exchange cX4_exchange 3 (some (.object "CradleTreaty$Treaty")) 4 0 D cA ad st [.ref (ad 3), .ref (ad r1)] (some (.ref (ad r))) st' := by
  refine g_met (by decide) (Nat.le_of_ble_eq_true rfl) ?_
  intro p e s m args below meth c ls hC hret hlk hU hH hl
  exact bX4_exchange_0 hC hret hlk hU hr1 hf hH va_S.rf hl
def fX10_treaty_46   (l1 : Int32) (st : gS) : Option (Int32 × gS) :=
  (fX6_cut 0 st).bind fun q46_1 => (if l1 = 0 then (some ((-1), q46_1.2)) else (gc (gK 0 (q46_1.2.2.2 0 9) = 8) ((fX4_exchange (q46_1.2.2.2 0 9) q46_1.2).bind fun q46_2 => ((fX10_beginAnew (wr q46_2.2 0 9 q46_2.1)).bind fun q46_3 => (gc (gK 0 (q46_3.2.2 0 9) = 8) (some (q46_3.1 (q46_3.2.2 0 9) 12, q46_3)))))))
set_option maxRecDepth 100000 in
set_option maxHeartbeats 4000000 in
theorem bX10_treaty_46  (hC : CallFix p m c cX10_treaty 3 s args lw_good RX10) (hret : meth.sig.returnType = (some .int)) (hlk : meth.locks = false) (hU : gU 0 D cA ad s)  {r : Int32} {st' : gS}  {l1 : Int32} {st : gS} {H : Heap} {locs : List Loc} {ls : Array Slot} (hf : fX10_treaty_46 l1 st = some (r, st')) (hH : gP0 0 D cA ad st H) (hS : va_S (gA 0 ad) s.heap H locs) (hl : lv_has ls 3 [(0, .ref (ad 0)), (1, .int l1)]) : W p l e (gRm 115) s m args below meth c H locs 0 0 (MQ below (gQc 0 D cA ad st' (some (.int r))) args s 0 0 (gA 0 ad)) (F0 m 46 ls []) := by
  obtain ⟨hx, hb, hml, hown, hts⟩ := id hC
  unfold fX10_treaty_46 at hf
  refine lv_aload_n (pc := 46) hx hb dX10_treaty_46 rfl (lv_at hl 0 rfl) ?_
  refine g_get (pc := 47) (v := .ref (ad 1)) hC hU hH gk0_0 g_cl10 0 (by decide) kf_X10_10 rfl dX10_treaty_47 ?_
  refine lv_iconst (v := 0) (pc := 50) hx hb dX10_treaty_50 (by decide) ?_
  obtain ⟨q46_1, hq46_1, hf⟩ := gbd hf
  refine g_callVi (pc := 51) (rest := []) hC hU hH hS hl.1 gk0_1 rfl (by decide) (mX6_cut  hq46_1) ky_X6_cut km_X10_103 ⟨Nat.le_of_ble_eq_true rfl, Nat.le_of_ble_eq_true rfl⟩ ⟨Nat.zero_le _, Nat.zero_le _⟩ rfl (Nat.le_of_ble_eq_true rfl) dX10_treaty_51 rfl (fun H locs hH hS => ?_)
  refine lv_pop (pc := 54) hx hb dX10_treaty_54 rfl ?_
  refine lv_iload_n (pc := 55) hx hb dX10_treaty_55 rfl (lv_at hl 1 rfl) ?_
  refine lv_if_ne (tgt := 61) (pc := 56) hx hb dX10_treaty_56 (by decide) (fun hc => ?_) (fun hc => ?_)
  · have hf := gif_n hc hf
    refine lv_aload_n (pc := 61) hx hb dX10_treaty_61 rfl (lv_at hl 0 rfl) ?_
    refine lv_aload_n (pc := 62) hx hb dX10_treaty_62 rfl (lv_at hl 0 rfl) ?_
    refine g_get (pc := 63) (v := .ref (ad 3)) hC hU hH gk0_0 g_cl10 1 (by decide) kf_X10_21 rfl dX10_treaty_63 ?_
    refine lv_aload_n (pc := 66) hx hb dX10_treaty_66 rfl (lv_at hl 0 rfl) ?_
    refine g_get (pc := 67) (v := .ref (ad (q46_1.2.2.2 0 9))) hC hU hH gk0_0 g_cl10 9 (by decide) kf_X10_71 rfl dX10_treaty_67 ?_
    obtain ⟨h46_1, hf⟩ := gc_s hf
    obtain ⟨q46_2, hq46_2, hf⟩ := gbd hf
    refine g_callVr (pc := 70) (rest := [.ref (ad 0)]) hC hU hH hS hl.1 gk0_3 rfl (by decide) (mX4_exchange h46_1 hq46_2) ky_X4_exchange km_X10_116 ⟨Nat.le_of_ble_eq_true rfl, Nat.le_of_ble_eq_true rfl⟩ ⟨Nat.zero_le _, Nat.zero_le _⟩ rfl (Nat.le_of_ble_eq_true rfl) dX10_treaty_70 rfl (fun H locs hH hS => ?_)
    refine g_putr (pc := 73) hC hU hH hS gk0_0 g_cl10 9 (by decide) kf_X10_71 rfl rfl rfl rfl dX10_treaty_73 (fun H locs hH hS => ?_)
    refine lv_aload_n (pc := 76) hx hb dX10_treaty_76 rfl (lv_at hl 0 rfl) ?_
    obtain ⟨q46_3, hq46_3, hf⟩ := gbd hf
    refine g_callVv (pc := 77) (rest := []) hC hU hH hS hl.1 gk0_0 rfl (by decide) (mX10_beginAnew  hq46_3) ky_X10_beginAnew km_X10_75 ⟨Nat.le_of_ble_eq_true rfl, Nat.le_of_ble_eq_true rfl⟩ ⟨Nat.zero_le _, Nat.zero_le _⟩ rfl (Nat.le_of_ble_eq_true rfl) dX10_treaty_77 rfl (fun H locs hH hS => ?_)
    refine lv_aload_n (pc := 80) hx hb dX10_treaty_80 rfl (lv_at hl 0 rfl) ?_
    refine g_get (pc := 81) (v := .ref (ad (q46_3.2.2 0 9))) hC hU hH gk0_0 g_cl10 9 (by decide) kf_X10_71 rfl dX10_treaty_81 ?_
    obtain ⟨h46_2, hf⟩ := gc_s hf
    refine g_get (pc := 84) (v := .int (q46_3.1 (q46_3.2.2 0 9) 12)) hC hU hH h46_2 g_cl8 12 (by decide) kf_X10_120 rfl dX10_treaty_84 ?_
    exact g_iret (pc := 87) hC hret hlk hH hS hf dX10_treaty_87
  · have hf := gif_p hc hf
    refine lv_iconst (v := (-1)) (pc := 59) hx hb dX10_treaty_59 (by decide) ?_
    exact g_iret (pc := 60) hC hret hlk hH hS hf dX10_treaty_60
def fX10_treaty_11  (k11 : Int32 → Int32 → gS → Option (Int32 × gS)) (l1 : Int32) (l2 : Int32) (st : gS) : Option (Int32 × gS) :=
  if 1600 ≤ l2 then (fX10_treaty_46 l1 st) else (if l1 = 0 then (fX10_treaty_46 l1 st) else ((fX4_isAtEnd st).bind fun q11_1 => (if q11_1.1 = 0 then ((fX4_readLine q11_1.2).bind fun q11_2 => (k11 q11_2.1 (l2 + 1) q11_2.2)) else (fX10_treaty_46 l1 q11_1.2))))
set_option maxRecDepth 100000 in
set_option maxHeartbeats 4000000 in
theorem bX10_treaty_11  (hC : CallFix p m c cX10_treaty 3 s args lw_good RX10) (hret : meth.sig.returnType = (some .int)) (hlk : meth.locks = false) (hU : gU 0 D cA ad s)  {r : Int32} {st' : gS} {k11 : Int32 → Int32 → gS → Option (Int32 × gS)} (hk11 : ∀ {l1 : Int32} {l2 : Int32} {st : gS} {H : Heap} {locs : List Loc} {ls : Array Slot}, k11 l1 l2 st = some (r, st') → gP0 0 D cA ad st H → va_S (gA 0 ad) s.heap H locs → lv_has ls 3 [(0, .ref (ad 0)), (1, .int l1), (2, .int l2)] → W p l e (gRm 115) s m args below meth c H locs 0 0 (MQ below (gQc 0 D cA ad st' (some (.int r))) args s 0 0 (gA 0 ad)) (F0 m 11 ls [])) {l1 : Int32} {l2 : Int32} {st : gS} {H : Heap} {locs : List Loc} {ls : Array Slot} (hf : fX10_treaty_11 k11 l1 l2 st = some (r, st')) (hH : gP0 0 D cA ad st H) (hS : va_S (gA 0 ad) s.heap H locs) (hl : lv_has ls 3 [(0, .ref (ad 0)), (1, .int l1), (2, .int l2)]) : W p l e (gRm 115) s m args below meth c H locs 0 0 (MQ below (gQc 0 D cA ad st' (some (.int r))) args s 0 0 (gA 0 ad)) (F0 m 11 ls []) := by
  obtain ⟨hx, hb, hml, hown, hts⟩ := id hC
  unfold fX10_treaty_11 at hf
  refine lv_iload_n (pc := 11) hx hb dX10_treaty_11 rfl (lv_at hl 2 rfl) ?_
  refine lv_sipush (v := 1600) (pc := 12) hx hb dX10_treaty_12 (by decide) ?_
  refine lv_icmp_ge (tgt := 46) (pc := 15) hx hb dX10_treaty_15 (by decide) (fun hc => ?_) (fun hc => ?_)
  · have hf := gif_p hc hf
    exact bX10_treaty_46 hC hret hlk hU hf hH hS (lv_sub hl [0, 1] rfl)
  · have hf := gif_n hc hf
    refine lv_iload_n (pc := 18) hx hb dX10_treaty_18 rfl (lv_at hl 1 rfl) ?_
    refine lv_if_eq (tgt := 46) (pc := 19) hx hb dX10_treaty_19 (by decide) (fun hc => ?_) (fun hc => ?_)
    · have hf := gif_p hc hf
      exact bX10_treaty_46 hC hret hlk hU hf hH hS (lv_sub hl [0, 1] rfl)
    · have hf := gif_n hc hf
      refine lv_aload_n (pc := 22) hx hb dX10_treaty_22 rfl (lv_at hl 0 rfl) ?_
      refine g_get (pc := 23) (v := .ref (ad 3)) hC hU hH gk0_0 g_cl10 1 (by decide) kf_X10_21 rfl dX10_treaty_23 ?_
      obtain ⟨q11_1, hq11_1, hf⟩ := gbd hf
      refine g_callVi (pc := 26) (rest := []) hC hU hH hS hl.1 gk0_3 rfl (by decide) (mX4_isAtEnd  hq11_1) ky_X4_isAtEnd km_X10_109 ⟨Nat.le_of_ble_eq_true rfl, Nat.le_of_ble_eq_true rfl⟩ ⟨Nat.zero_le _, Nat.zero_le _⟩ rfl (Nat.le_of_ble_eq_true rfl) dX10_treaty_26 rfl (fun H locs hH hS => ?_)
      refine lv_if_ne (tgt := 46) (pc := 29) hx hb dX10_treaty_29 (by decide) (fun hc => ?_) (fun hc => ?_)
      · have hf := gif_n hc hf
        exact bX10_treaty_46 hC hret hlk hU hf hH hS (lv_sub hl [0, 1] rfl)
      · have hf := gif_p hc hf
        refine lv_aload_n (pc := 32) hx hb dX10_treaty_32 rfl (lv_at hl 0 rfl) ?_
        refine g_get (pc := 33) (v := .ref (ad 3)) hC hU hH gk0_0 g_cl10 1 (by decide) kf_X10_21 rfl dX10_treaty_33 ?_
        obtain ⟨q11_2, hq11_2, hf⟩ := gbd hf
        refine g_callVi (pc := 36) (rest := []) hC hU hH hS hl.1 gk0_3 rfl (by decide) (mX4_readLine  hq11_2) ky_X4_readLine km_X10_113 ⟨Nat.le_of_ble_eq_true rfl, Nat.le_of_ble_eq_true rfl⟩ ⟨Nat.zero_le _, Nat.zero_le _⟩ rfl (Nat.le_of_ble_eq_true rfl) dX10_treaty_36 rfl (fun H locs hH hS => ?_)
        refine lv_istore_n (lv' := [(1, .int q11_2.1), (0, .ref (ad 0)), (2, .int l2)]) (pc := 39) hx hb dX10_treaty_39 rfl hl (by decide) rfl (fun ls hl => ?_)
        refine lv_iinc (v := l2 + 1) (lv' := [(2, .int (l2 + 1)), (1, .int q11_2.1), (0, .ref (ad 0))]) (k := 2) (pc := 40) hx hb dX10_treaty_40 hl rfl rfl (by decide) rfl (fun ls hl => ?_)
        refine lv_goto (tgt := 11) (pc := 43) hx hb dX10_treaty_43 (by decide) ?_
        exact hk11 hf hH hS (lv_sub hl [2, 1, 0] rfl)
def hX10_treaty_11   : Nat → Int32 → Int32 → gS → Option (Int32 × gS)
  | 0 => fun _ _ _ => none
  | n + 1 => fun l1 l2 st => fX10_treaty_11 (hX10_treaty_11  n) l1 l2 st
set_option maxRecDepth 100000 in
set_option maxHeartbeats 4000000 in
theorem wX10_treaty_11  (hC : CallFix p m c cX10_treaty 3 s args lw_good RX10) (hret : meth.sig.returnType = (some .int)) (hlk : meth.locks = false) (hU : gU 0 D cA ad s)  {r : Int32} {st' : gS}  : ∀ (n : Nat) {l1 : Int32} {l2 : Int32} {st : gS} {H : Heap} {locs : List Loc} {ls : Array Slot}, hX10_treaty_11  n l1 l2 st = some (r, st') → gP0 0 D cA ad st H → va_S (gA 0 ad) s.heap H locs → lv_has ls 3 [(0, .ref (ad 0)), (1, .int l1), (2, .int l2)] → W p l e (gRm 115) s m args below meth c H locs 0 0 (MQ below (gQc 0 D cA ad st' (some (.int r))) args s 0 0 (gA 0 ad)) (F0 m 11 ls []) := by
  intro n
  induction n with
  | zero => intro l1 l2 st H locs ls hf hH hS hl; cases hf
  | succ n ih =>
    intro l1 l2 st H locs ls hf hH hS hl
    exact bX10_treaty_11  hC hret hlk hU (fun hf hH hS hl => ih hf hH hS hl) hf hH hS hl
def fX10_treaty    (st : gS) : Option (Int32 × gS) :=
  (fX4_start st).bind fun q0_1 => (hX10_treaty_11 FU 1 0 q0_1)
set_option maxRecDepth 100000 in
set_option maxHeartbeats 4000000 in
theorem bX10_treaty_0  (hC : CallFix p m c cX10_treaty 3 s args lw_good RX10) (hret : meth.sig.returnType = (some .int)) (hlk : meth.locks = false) (hU : gU 0 D cA ad s)  {r : Int32} {st' : gS}   {st : gS} {H : Heap} {locs : List Loc} {ls : Array Slot} (hf : fX10_treaty st = some (r, st')) (hH : gP0 0 D cA ad st H) (hS : va_S (gA 0 ad) s.heap H locs) (hl : lv_has ls 3 [(0, .ref (ad 0))]) : W p l e (gRm 115) s m args below meth c H locs 0 0 (MQ below (gQc 0 D cA ad st' (some (.int r))) args s 0 0 (gA 0 ad)) (F0 m 0 ls []) := by
  obtain ⟨hx, hb, hml, hown, hts⟩ := id hC
  unfold fX10_treaty at hf
  refine lv_aload_n (pc := 0) hx hb dX10_treaty_0 rfl (lv_at hl 0 rfl) ?_
  refine g_get (pc := 1) (v := .ref (ad 3)) hC hU hH gk0_0 g_cl10 1 (by decide) kf_X10_21 rfl dX10_treaty_1 ?_
  obtain ⟨q0_1, hq0_1, hf⟩ := gbd hf
  refine g_callVv (pc := 4) (rest := []) hC hU hH hS hl.1 gk0_3 rfl (by decide) (mX4_start  hq0_1) ky_X4_start km_X10_106 ⟨Nat.le_of_ble_eq_true rfl, Nat.le_of_ble_eq_true rfl⟩ ⟨Nat.zero_le _, Nat.zero_le _⟩ rfl (Nat.le_of_ble_eq_true rfl) dX10_treaty_4 rfl (fun H locs hH hS => ?_)
  refine lv_iconst (v := 1) (pc := 7) hx hb dX10_treaty_7 (by decide) ?_
  refine lv_istore_n (lv' := [(1, .int 1), (0, .ref (ad 0))]) (pc := 8) hx hb dX10_treaty_8 rfl hl (by decide) rfl (fun ls hl => ?_)
  refine lv_iconst (v := 0) (pc := 9) hx hb dX10_treaty_9 (by decide) ?_
  refine lv_istore_n (lv' := [(2, .int 0), (1, .int 1), (0, .ref (ad 0))]) (pc := 10) hx hb dX10_treaty_10 rfl hl (by decide) rfl (fun ls hl => ?_)
  exact wX10_treaty_11 hC hret hlk hU FU hf hH hS (lv_sub hl [2, 1, 0] rfl)
set_option maxRecDepth 100000 in
set_option maxHeartbeats 4000000 in
theorem mX10_treaty {l : Launch} {D : va_G} {cA : Nat → ClassId} {ad : Nat → Nat}   {r : Int32} {st st' : gS} (hf : fX10_treaty  st = some (r, st')) : gM l yX10_treaty cX10_treaty 3 (some .int) 115 0 D cA ad st [.ref (ad 0)] (some (.int r)) st' := by
  refine g_met (by decide) (Nat.le_of_ble_eq_true rfl) ?_
  intro p e s m args below meth c ls hC hret hlk hU hH hl
  exact bX10_treaty_0 hC hret hlk hU hf hH va_S.rf hl
def fX10_fault (a1 : Int32)   (st : gS) : Option (Int32 × gS) :=
  if a1 = 0 then (some (st.1 3 5, st)) else if a1 = 1 then (some (st.1 3 6, st)) else (some ((-1), st))
set_option maxRecDepth 100000 in
set_option maxHeartbeats 4000000 in
theorem bX10_fault_0 {a1 : Int32} (hC : CallFix p m c cX10_fault 2 s args lw_good RX10) (hret : meth.sig.returnType = (some .int)) (hlk : meth.locks = false) (hU : gU 0 D cA ad s)  {r : Int32} {st' : gS}   {st : gS} {H : Heap} {locs : List Loc} {ls : Array Slot} (hf : fX10_fault a1 st = some (r, st')) (hH : gP0 0 D cA ad st H) (hS : va_S (gA 0 ad) s.heap H locs) (hl : lv_has ls 2 [(0, .ref (ad 0)), (1, .int a1)]) : W p l e (gRm 1) s m args below meth c H locs 0 0 (MQ below (gQc 0 D cA ad st' (some (.int r))) args s 0 0 (gA 0 ad)) (F0 m 0 ls []) := by
  obtain ⟨hx, hb, hml, hown, hts⟩ := id hC
  unfold fX10_fault at hf
  refine lv_iload_n (pc := 0) hx hb dX10_fault_0 rfl (lv_at hl 1 rfl) ?_
  by_cases hw1_0 : a1 = 0
  · have hf := gif_p hw1_0 hf
    refine g_lswI (tgt := 28) (off := 27) (pc := 1) hx hb hw1_0 dX10_fault_1 (by decide) (by decide) (by decide) ?_
    refine lv_aload_n (pc := 28) hx hb dX10_fault_28 rfl (lv_at hl 0 rfl) ?_
    refine g_get (pc := 29) (v := .ref (ad 3)) hC hU hH gk0_0 g_cl10 1 (by decide) kf_X10_21 rfl dX10_fault_29 ?_
    refine g_get (pc := 32) (v := .int (st.1 3 5)) hC hU hH gk0_3 g_cl4 5 (by decide) kf_X10_124 rfl dX10_fault_32 ?_
    exact g_iret (pc := 35) hC hret hlk hH hS hf dX10_fault_35
  · have hf := gif_n hw1_0 hf
    by_cases hw1_1 : a1 = 1
    · have hf := gif_p hw1_1 hf
      refine g_lswI (tgt := 36) (off := 35) (pc := 1) hx hb hw1_1 dX10_fault_1 (by decide) (by decide) (by decide) ?_
      refine lv_aload_n (pc := 36) hx hb dX10_fault_36 rfl (lv_at hl 0 rfl) ?_
      refine g_get (pc := 37) (v := .ref (ad 3)) hC hU hH gk0_0 g_cl10 1 (by decide) kf_X10_21 rfl dX10_fault_37 ?_
      refine g_get (pc := 40) (v := .int (st.1 3 6)) hC hU hH gk0_3 g_cl4 6 (by decide) kf_X10_127 rfl dX10_fault_40 ?_
      exact g_iret (pc := 43) hC hret hlk hH hS hf dX10_fault_43
    · have hf := gif_n hw1_1 hf
      refine g_lswO (tgt := 44) (pc := 1) hx hb dX10_fault_1 (by decide) (by show Op.lookupswitch.offset [(0, 27), (1, 35)] (43) _ = (43); rw [lv_osw hw1_0 (by decide), lv_osw hw1_1 (by decide)]; rfl) (by decide) ?_
      refine lv_iconst (v := (-1)) (pc := 44) hx hb dX10_fault_44 (by decide) ?_
      exact g_iret (pc := 45) hC hret hlk hH hS hf dX10_fault_45
set_option maxRecDepth 100000 in
set_option maxHeartbeats 4000000 in
theorem mX10_fault {l : Launch} {D : va_G} {cA : Nat → ClassId} {ad : Nat → Nat} {a1 : Int32}  {r : Int32} {st st' : gS} (hf : fX10_fault a1 st = some (r, st')) : gM l yX10_fault cX10_fault 2 (some .int) 1 0 D cA ad st [.ref (ad 0), .int a1] (some (.int r)) st' := by
  refine g_met (by decide) (Nat.le_of_ble_eq_true rfl) ?_
  intro p e s m args below meth c ls hC hret hlk hU hH hl
  exact bX10_fault_0 hC hret hlk hU hf hH va_S.rf hl
def fX8_movesFrom_4 (t : Nat) (a1 : Int32) (k4 : Int32 → Int32 → gS → Option (Int32 × gS)) (l2 : Int32) (l3 : Int32) (st : gS) : Option (Int32 × gS) :=
  if (st.1 t 14) ≤ l3 then (some (l2, st)) else (gc (gI l3 16) (if (st.1 (t + 1 + 6) l3.toNatClampNeg) = a1 then (gl (l2 ||| (1 <<< (l3 &&& 31))) fun x27 => (k4 x27 (l3 + 1) st)) else (k4 l2 (l3 + 1) st)))
set_option maxRecDepth 100000 in
set_option maxHeartbeats 4000000 in
theorem bX8_movesFrom_4 {t : Nat} {a1 : Int32} (hC : CallFix p m c cX8_movesFrom 4 s args lw_good RX8) (hret : meth.sig.returnType = (some .int)) (hlk : meth.locks = false) (hU : gU 0 D cA ad s) (ht : gK 0 t = 8) {r : Int32} {st' : gS} {k4 : Int32 → Int32 → gS → Option (Int32 × gS)} (hk4 : ∀ {l2 : Int32} {l3 : Int32} {st : gS} {H : Heap} {locs : List Loc} {ls : Array Slot}, k4 l2 l3 st = some (r, st') → gP0 0 D cA ad st H → va_S (gA 0 ad) s.heap H locs → lv_has ls 4 [(0, .ref (ad t)), (1, .int a1), (2, .int l2), (3, .int l3)] → W p l e (gRm 1) s m args below meth c H locs 0 0 (MQ below (gQc 0 D cA ad st' (some (.int r))) args s 0 0 (gA 0 ad)) (F0 m 4 ls [])) {l2 : Int32} {l3 : Int32} {st : gS} {H : Heap} {locs : List Loc} {ls : Array Slot} (hf : fX8_movesFrom_4 t a1 k4 l2 l3 st = some (r, st')) (hH : gP0 0 D cA ad st H) (hS : va_S (gA 0 ad) s.heap H locs) (hl : lv_has ls 4 [(0, .ref (ad t)), (1, .int a1), (2, .int l2), (3, .int l3)]) : W p l e (gRm 1) s m args below meth c H locs 0 0 (MQ below (gQc 0 D cA ad st' (some (.int r))) args s 0 0 (gA 0 ad)) (F0 m 4 ls []) := by
  obtain ⟨hx, hb, hml, hown, hts⟩ := id hC
  unfold fX8_movesFrom_4 at hf
  refine lv_iload_n (pc := 4) hx hb dX8_movesFrom_4 rfl (lv_at hl 3 rfl) ?_
  refine lv_aload_n (pc := 5) hx hb dX8_movesFrom_5 rfl (lv_at hl 0 rfl) ?_
  refine g_get (pc := 6) (v := .int (st.1 t 14)) hC hU hH ht g_cl8 14 (by decide) kf_X8_60 rfl dX8_movesFrom_6 ?_
  refine lv_icmp_ge (tgt := 34) (pc := 9) hx hb dX8_movesFrom_9 (by decide) (fun hc => ?_) (fun hc => ?_)
  · have hf := gif_p hc hf
    refine lv_iload_n (pc := 34) hx hb dX8_movesFrom_34 rfl (lv_at hl 2 rfl) ?_
    exact g_iret (pc := 35) hC hret hlk hH hS hf dX8_movesFrom_35
  · have hf := gif_n hc hf
    refine lv_aload_n (pc := 12) hx hb dX8_movesFrom_12 rfl (lv_at hl 0 rfl) ?_
    refine g_get (pc := 13) (v := .ref (ad (t + 1 + 6))) hC hU hH ht g_cl8 6 (by decide) kf_X8_31 rfl dX8_movesFrom_13 ?_
    refine lv_iload_n (pc := 16) hx hb dX8_movesFrom_16 rfl (lv_at hl 3 rfl) ?_
    obtain ⟨h4_1, hf⟩ := gc_s hf
    refine g_iald (pc := 17) hC hU hH (gk_8_6 ht) (gn_8_6 ht) h4_1 dX8_movesFrom_17 ?_
    refine lv_iload_n (pc := 18) hx hb dX8_movesFrom_18 rfl (lv_at hl 1 rfl) ?_
    refine lv_icmp_ne (tgt := 28) (pc := 19) hx hb dX8_movesFrom_19 (by decide) (fun hc => ?_) (fun hc => ?_)
    · have hf := gif_n hc hf
      refine lv_iinc (v := l3 + 1) (lv' := [(3, .int (l3 + 1)), (0, .ref (ad t)), (1, .int a1), (2, .int l2)]) (k := 3) (pc := 28) hx hb dX8_movesFrom_28 hl rfl rfl (by decide) rfl (fun ls hl => ?_)
      refine lv_goto (tgt := 4) (pc := 31) hx hb dX8_movesFrom_31 (by decide) ?_
      exact hk4 hf hH hS (lv_sub hl [1, 2, 3, 0] rfl)
    · have hf := gif_p hc hf
      refine lv_iload_n (pc := 22) hx hb dX8_movesFrom_22 rfl (lv_at hl 2 rfl) ?_
      refine lv_iconst (v := 1) (pc := 23) hx hb dX8_movesFrom_23 (by decide) ?_
      refine lv_iload_n (pc := 24) hx hb dX8_movesFrom_24 rfl (lv_at hl 3 rfl) ?_
      refine lv_ishl (pc := 25) hx hb dX8_movesFrom_25 ?_
      refine lv_ior (pc := 26) hx hb dX8_movesFrom_26 ?_
      refine lv_topi (pc := 27) (fun x27 ex27 => ?_)
      have hf := gl_s ex27 hf
      refine lv_istore_n (lv' := [(2, .int x27), (0, .ref (ad t)), (1, .int a1), (3, .int l3)]) (pc := 27) hx hb dX8_movesFrom_27 rfl hl (by decide) rfl (fun ls hl => ?_)
      refine lv_iinc (v := l3 + 1) (lv' := [(3, .int (l3 + 1)), (2, .int x27), (0, .ref (ad t)), (1, .int a1)]) (k := 3) (pc := 28) hx hb dX8_movesFrom_28 hl rfl rfl (by decide) rfl (fun ls hl => ?_)
      refine lv_goto (tgt := 4) (pc := 31) hx hb dX8_movesFrom_31 (by decide) ?_
      exact hk4 hf hH hS (lv_sub hl [2, 3, 1, 0] rfl)
def hX8_movesFrom_4 (t : Nat) (a1 : Int32)  : Nat → Int32 → Int32 → gS → Option (Int32 × gS)
  | 0 => fun _ _ _ => none
  | n + 1 => fun l2 l3 st => fX8_movesFrom_4 t a1 (hX8_movesFrom_4 t a1 n) l2 l3 st
set_option maxRecDepth 100000 in
set_option maxHeartbeats 4000000 in
theorem wX8_movesFrom_4 {t : Nat} {a1 : Int32} (hC : CallFix p m c cX8_movesFrom 4 s args lw_good RX8) (hret : meth.sig.returnType = (some .int)) (hlk : meth.locks = false) (hU : gU 0 D cA ad s) (ht : gK 0 t = 8) {r : Int32} {st' : gS}  : ∀ (n : Nat) {l2 : Int32} {l3 : Int32} {st : gS} {H : Heap} {locs : List Loc} {ls : Array Slot}, hX8_movesFrom_4 t a1 n l2 l3 st = some (r, st') → gP0 0 D cA ad st H → va_S (gA 0 ad) s.heap H locs → lv_has ls 4 [(0, .ref (ad t)), (1, .int a1), (2, .int l2), (3, .int l3)] → W p l e (gRm 1) s m args below meth c H locs 0 0 (MQ below (gQc 0 D cA ad st' (some (.int r))) args s 0 0 (gA 0 ad)) (F0 m 4 ls []) := by
  intro n
  induction n with
  | zero => intro l2 l3 st H locs ls hf hH hS hl; cases hf
  | succ n ih =>
    intro l2 l3 st H locs ls hf hH hS hl
    exact bX8_movesFrom_4 (t := t) (a1 := a1) hC hret hlk hU ht (fun hf hH hS hl => ih hf hH hS hl) hf hH hS hl
def fX8_movesFrom (t : Nat) (a1 : Int32)   (st : gS) : Option (Int32 × gS) :=
  hX8_movesFrom_4 t a1 FU 0 0 st
set_option maxRecDepth 100000 in
set_option maxHeartbeats 4000000 in
theorem bX8_movesFrom_0 {t : Nat} {a1 : Int32} (hC : CallFix p m c cX8_movesFrom 4 s args lw_good RX8) (hret : meth.sig.returnType = (some .int)) (hlk : meth.locks = false) (hU : gU 0 D cA ad s) (ht : gK 0 t = 8) {r : Int32} {st' : gS}   {st : gS} {H : Heap} {locs : List Loc} {ls : Array Slot} (hf : fX8_movesFrom t a1 st = some (r, st')) (hH : gP0 0 D cA ad st H) (hS : va_S (gA 0 ad) s.heap H locs) (hl : lv_has ls 4 [(0, .ref (ad t)), (1, .int a1)]) : W p l e (gRm 1) s m args below meth c H locs 0 0 (MQ below (gQc 0 D cA ad st' (some (.int r))) args s 0 0 (gA 0 ad)) (F0 m 0 ls []) := by
  obtain ⟨hx, hb, hml, hown, hts⟩ := id hC
  unfold fX8_movesFrom at hf
  refine lv_iconst (v := 0) (pc := 0) hx hb dX8_movesFrom_0 (by decide) ?_
  refine lv_istore_n (lv' := [(2, .int 0), (0, .ref (ad t)), (1, .int a1)]) (pc := 1) hx hb dX8_movesFrom_1 rfl hl (by decide) rfl (fun ls hl => ?_)
  refine lv_iconst (v := 0) (pc := 2) hx hb dX8_movesFrom_2 (by decide) ?_
  refine lv_istore_n (lv' := [(3, .int 0), (2, .int 0), (0, .ref (ad t)), (1, .int a1)]) (pc := 3) hx hb dX8_movesFrom_3 rfl hl (by decide) rfl (fun ls hl => ?_)
  exact wX8_movesFrom_4 hC hret hlk hU ht FU hf hH hS (lv_sub hl [2, 3, 1, 0] rfl)
set_option maxRecDepth 100000 in
set_option maxHeartbeats 4000000 in
theorem mX8_movesFrom {l : Launch} {D : va_G} {cA : Nat → ClassId} {ad : Nat → Nat} {t : Nat} {a1 : Int32} (ht : gK 0 t = 8) {r : Int32} {st st' : gS} (hf : fX8_movesFrom t a1 st = some (r, st')) : gM l yX8_movesFrom cX8_movesFrom 4 (some .int) 1 0 D cA ad st [.ref (ad t), .int a1] (some (.int r)) st' := by
  refine g_met (by decide) (Nat.le_of_ble_eq_true rfl) ?_
  intro p e s m args below meth c ls hC hret hlk hU hH hl
  exact bX8_movesFrom_0 hC hret hlk hU ht hf hH va_S.rf hl
def fX10_tribe (a1 : Int32) (a2 : Int32)   (st : gS) : Option (Int32 × gS) :=
  gc (gK 0 (st.2.2 0 9) = 8) ((fX8_hasTribe (st.2.2 0 9) a1 st).bind fun q0_1 => (if q0_1.1 = 0 then (some ((-1), q0_1.2)) else (if a2 = 0 then (gc (gK 0 (q0_1.2.2.2 0 9) = 8) (gc (gI a1 5) (some (q0_1.2.1 ((q0_1.2.2.2 0 9) + 1 + 2) a1.toNatClampNeg, q0_1.2)))) else if a2 = 1 then (gc (gK 0 (q0_1.2.2.2 0 9) = 8) (gc (gI a1 5) (some (q0_1.2.1 ((q0_1.2.2.2 0 9) + 1 + 3) a1.toNatClampNeg, q0_1.2)))) else if a2 = 2 then (gc (gK 0 (q0_1.2.2.2 0 9) = 8) (some (((q0_1.2.1 (q0_1.2.2.2 0 9) 15) >>> (a1 &&& 31)) &&& 1, q0_1.2))) else if a2 = 3 then (gc (gI a1 5) (some (q0_1.2.1 21 a1.toNatClampNeg, q0_1.2))) else if a2 = 4 then (gc (gI a1 5) (some (q0_1.2.1 22 a1.toNatClampNeg, q0_1.2))) else if a2 = 5 then (gc (gK 0 (q0_1.2.2.2 0 9) = 8) (gc (gI a1 5) (some (q0_1.2.1 ((q0_1.2.2.2 0 9) + 1 + 4) a1.toNatClampNeg, q0_1.2)))) else if a2 = 6 then (if a1 = (q0_1.2.1 20 3) then (some (0, q0_1.2)) else (gc (gK 0 (q0_1.2.2.2 0 9) = 8) (gc (gI a1 5) (gc (gK 0 (q0_1.2.2.2 0 9) = 8) ((fX8_movesFrom (q0_1.2.2.2 0 9) (q0_1.2.1 20 2) q0_1.2).bind fun q0_2 => (some ((q0_1.2.1 ((q0_1.2.2.2 0 9) + 1 + 4) a1.toNatClampNeg) &&& q0_2.1, q0_2.2))))))) else (some ((-1), q0_1.2)))))
set_option maxRecDepth 100000 in
set_option maxHeartbeats 4000000 in
theorem bX10_tribe_0 {a1 : Int32} {a2 : Int32} (hC : CallFix p m c cX10_tribe 3 s args lw_good RX10) (hret : meth.sig.returnType = (some .int)) (hlk : meth.locks = false) (hU : gU 0 D cA ad s)  {r : Int32} {st' : gS}   {st : gS} {H : Heap} {locs : List Loc} {ls : Array Slot} (hf : fX10_tribe a1 a2 st = some (r, st')) (hH : gP0 0 D cA ad st H) (hS : va_S (gA 0 ad) s.heap H locs) (hl : lv_has ls 3 [(0, .ref (ad 0)), (1, .int a1), (2, .int a2)]) : W p l e (gRm 2) s m args below meth c H locs 0 0 (MQ below (gQc 0 D cA ad st' (some (.int r))) args s 0 0 (gA 0 ad)) (F0 m 0 ls []) := by
  obtain ⟨hx, hb, hml, hown, hts⟩ := id hC
  unfold fX10_tribe at hf
  refine lv_aload_n (pc := 0) hx hb dX10_tribe_0 rfl (lv_at hl 0 rfl) ?_
  refine g_get (pc := 1) (v := .ref (ad (st.2.2 0 9))) hC hU hH gk0_0 g_cl10 9 (by decide) kf_X10_71 rfl dX10_tribe_1 ?_
  refine lv_iload_n (pc := 4) hx hb dX10_tribe_4 rfl (lv_at hl 1 rfl) ?_
  obtain ⟨h0_1, hf⟩ := gc_s hf
  obtain ⟨q0_1, hq0_1, hf⟩ := gbd hf
  refine g_callVi (pc := 5) (rest := []) hC hU hH hS hl.1 h0_1 rfl (by decide) (mX8_hasTribe h0_1 hq0_1) ky_X8_hasTribe km_X10_130 ⟨Nat.le_of_ble_eq_true rfl, Nat.le_of_ble_eq_true rfl⟩ ⟨Nat.zero_le _, Nat.zero_le _⟩ rfl (Nat.le_of_ble_eq_true rfl) dX10_tribe_5 rfl (fun H locs hH hS => ?_)
  refine lv_if_ne (tgt := 13) (pc := 8) hx hb dX10_tribe_8 (by decide) (fun hc => ?_) (fun hc => ?_)
  · have hf := gif_n hc hf
    refine lv_iload_n (pc := 13) hx hb dX10_tribe_13 rfl (lv_at hl 2 rfl) ?_
    by_cases hw14_0 : a2 = 0
    · have hf := gif_p hw14_0 hf
      refine g_tswI (tgt := 56) (off := 42) (pc := 14) hx hb hw14_0 dX10_tribe_14 (by decide) (by decide) (by decide) (by decide) ?_
      refine lv_aload_n (pc := 56) hx hb dX10_tribe_56 rfl (lv_at hl 0 rfl) ?_
      refine g_get (pc := 57) (v := .ref (ad (q0_1.2.2.2 0 9))) hC hU hH gk0_0 g_cl10 9 (by decide) kf_X10_71 rfl dX10_tribe_57 ?_
      obtain ⟨h0_2, hf⟩ := gc_s hf
      refine g_get (pc := 60) (v := .ref (ad ((q0_1.2.2.2 0 9) + 1 + 2))) hC hU hH h0_2 g_cl8 2 (by decide) kf_X10_133 rfl dX10_tribe_60 ?_
      refine lv_iload_n (pc := 63) hx hb dX10_tribe_63 rfl (lv_at hl 1 rfl) ?_
      obtain ⟨h0_3, hf⟩ := gc_s hf
      refine g_iald (pc := 64) hC hU hH (gk_8_2 h0_2) (gn_8_2 h0_2) h0_3 dX10_tribe_64 ?_
      exact g_iret (pc := 65) hC hret hlk hH hS hf dX10_tribe_65
    · have hf := gif_n hw14_0 hf
      by_cases hw14_1 : a2 = 1
      · have hf := gif_p hw14_1 hf
        refine g_tswI (tgt := 66) (off := 52) (pc := 14) hx hb hw14_1 dX10_tribe_14 (by decide) (by decide) (by decide) (by decide) ?_
        refine lv_aload_n (pc := 66) hx hb dX10_tribe_66 rfl (lv_at hl 0 rfl) ?_
        refine g_get (pc := 67) (v := .ref (ad (q0_1.2.2.2 0 9))) hC hU hH gk0_0 g_cl10 9 (by decide) kf_X10_71 rfl dX10_tribe_67 ?_
        obtain ⟨h0_4, hf⟩ := gc_s hf
        refine g_get (pc := 70) (v := .ref (ad ((q0_1.2.2.2 0 9) + 1 + 3))) hC hU hH h0_4 g_cl8 3 (by decide) kf_X10_137 rfl dX10_tribe_70 ?_
        refine lv_iload_n (pc := 73) hx hb dX10_tribe_73 rfl (lv_at hl 1 rfl) ?_
        obtain ⟨h0_5, hf⟩ := gc_s hf
        refine g_iald (pc := 74) hC hU hH (gk_8_3 h0_4) (gn_8_3 h0_4) h0_5 dX10_tribe_74 ?_
        exact g_iret (pc := 75) hC hret hlk hH hS hf dX10_tribe_75
      · have hf := gif_n hw14_1 hf
        by_cases hw14_2 : a2 = 2
        · have hf := gif_p hw14_2 hf
          refine g_tswI (tgt := 76) (off := 62) (pc := 14) hx hb hw14_2 dX10_tribe_14 (by decide) (by decide) (by decide) (by decide) ?_
          refine lv_aload_n (pc := 76) hx hb dX10_tribe_76 rfl (lv_at hl 0 rfl) ?_
          refine g_get (pc := 77) (v := .ref (ad (q0_1.2.2.2 0 9))) hC hU hH gk0_0 g_cl10 9 (by decide) kf_X10_71 rfl dX10_tribe_77 ?_
          obtain ⟨h0_6, hf⟩ := gc_s hf
          refine g_get (pc := 80) (v := .int (q0_1.2.1 (q0_1.2.2.2 0 9) 15)) hC hU hH h0_6 g_cl8 15 (by decide) kf_X10_140 rfl dX10_tribe_80 ?_
          refine lv_iload_n (pc := 83) hx hb dX10_tribe_83 rfl (lv_at hl 1 rfl) ?_
          refine lv_ishr (pc := 84) hx hb dX10_tribe_84 ?_
          refine lv_iconst (v := 1) (pc := 85) hx hb dX10_tribe_85 (by decide) ?_
          refine lv_iand (pc := 86) hx hb dX10_tribe_86 ?_
          exact g_iret (pc := 87) hC hret hlk hH hS hf dX10_tribe_87
        · have hf := gif_n hw14_2 hf
          by_cases hw14_3 : a2 = 3
          · have hf := gif_p hw14_3 hf
            refine g_tswI (tgt := 88) (off := 74) (pc := 14) hx hb hw14_3 dX10_tribe_14 (by decide) (by decide) (by decide) (by decide) ?_
            refine lv_aload_n (pc := 88) hx hb dX10_tribe_88 rfl (lv_at hl 0 rfl) ?_
            refine g_get (pc := 89) (v := .ref (ad 20)) hC hU hH gk0_0 g_cl10 2 (by decide) kf_X10_28 rfl dX10_tribe_89 ?_
            refine g_get (pc := 92) (v := .ref (ad 21)) hC hU hH gk0_20 g_cl5 0 (by decide) kf_X10_143 rfl dX10_tribe_92 ?_
            refine lv_iload_n (pc := 95) hx hb dX10_tribe_95 rfl (lv_at hl 1 rfl) ?_
            obtain ⟨h0_7, hf⟩ := gc_s hf
            refine g_iald (pc := 96) hC hU hH gk0_21 gn0_21 h0_7 dX10_tribe_96 ?_
            exact g_iret (pc := 97) hC hret hlk hH hS hf dX10_tribe_97
          · have hf := gif_n hw14_3 hf
            by_cases hw14_4 : a2 = 4
            · have hf := gif_p hw14_4 hf
              refine g_tswI (tgt := 98) (off := 84) (pc := 14) hx hb hw14_4 dX10_tribe_14 (by decide) (by decide) (by decide) (by decide) ?_
              refine lv_aload_n (pc := 98) hx hb dX10_tribe_98 rfl (lv_at hl 0 rfl) ?_
              refine g_get (pc := 99) (v := .ref (ad 20)) hC hU hH gk0_0 g_cl10 2 (by decide) kf_X10_28 rfl dX10_tribe_99 ?_
              refine g_get (pc := 102) (v := .ref (ad 22)) hC hU hH gk0_20 g_cl5 1 (by decide) kf_X10_146 rfl dX10_tribe_102 ?_
              refine lv_iload_n (pc := 105) hx hb dX10_tribe_105 rfl (lv_at hl 1 rfl) ?_
              obtain ⟨h0_8, hf⟩ := gc_s hf
              refine g_iald (pc := 106) hC hU hH gk0_22 gn0_22 h0_8 dX10_tribe_106 ?_
              exact g_iret (pc := 107) hC hret hlk hH hS hf dX10_tribe_107
            · have hf := gif_n hw14_4 hf
              by_cases hw14_5 : a2 = 5
              · have hf := gif_p hw14_5 hf
                refine g_tswI (tgt := 108) (off := 94) (pc := 14) hx hb hw14_5 dX10_tribe_14 (by decide) (by decide) (by decide) (by decide) ?_
                refine lv_aload_n (pc := 108) hx hb dX10_tribe_108 rfl (lv_at hl 0 rfl) ?_
                refine g_get (pc := 109) (v := .ref (ad (q0_1.2.2.2 0 9))) hC hU hH gk0_0 g_cl10 9 (by decide) kf_X10_71 rfl dX10_tribe_109 ?_
                obtain ⟨h0_9, hf⟩ := gc_s hf
                refine g_get (pc := 112) (v := .ref (ad ((q0_1.2.2.2 0 9) + 1 + 4))) hC hU hH h0_9 g_cl8 4 (by decide) kf_X10_149 rfl dX10_tribe_112 ?_
                refine lv_iload_n (pc := 115) hx hb dX10_tribe_115 rfl (lv_at hl 1 rfl) ?_
                obtain ⟨h0_10, hf⟩ := gc_s hf
                refine g_iald (pc := 116) hC hU hH (gk_8_4 h0_9) (gn_8_4 h0_9) h0_10 dX10_tribe_116 ?_
                exact g_iret (pc := 117) hC hret hlk hH hS hf dX10_tribe_117
              · have hf := gif_n hw14_5 hf
                by_cases hw14_6 : a2 = 6
                · have hf := gif_p hw14_6 hf
                  refine g_tswI (tgt := 118) (off := 104) (pc := 14) hx hb hw14_6 dX10_tribe_14 (by decide) (by decide) (by decide) (by decide) ?_
                  refine lv_iload_n (pc := 118) hx hb dX10_tribe_118 rfl (lv_at hl 1 rfl) ?_
                  refine lv_aload_n (pc := 119) hx hb dX10_tribe_119 rfl (lv_at hl 0 rfl) ?_
                  refine g_get (pc := 120) (v := .ref (ad 20)) hC hU hH gk0_0 g_cl10 2 (by decide) kf_X10_28 rfl dX10_tribe_120 ?_
                  refine g_get (pc := 123) (v := .int (q0_1.2.1 20 3)) hC hU hH gk0_20 g_cl5 3 (by decide) kf_X10_152 rfl dX10_tribe_123 ?_
                  refine lv_icmp_ne (tgt := 133) (pc := 126) hx hb dX10_tribe_126 (by decide) (fun hc => ?_) (fun hc => ?_)
                  · have hf := gif_n hc hf
                    refine lv_aload_n (pc := 133) hx hb dX10_tribe_133 rfl (lv_at hl 0 rfl) ?_
                    refine g_get (pc := 134) (v := .ref (ad (q0_1.2.2.2 0 9))) hC hU hH gk0_0 g_cl10 9 (by decide) kf_X10_71 rfl dX10_tribe_134 ?_
                    obtain ⟨h0_11, hf⟩ := gc_s hf
                    refine g_get (pc := 137) (v := .ref (ad ((q0_1.2.2.2 0 9) + 1 + 4))) hC hU hH h0_11 g_cl8 4 (by decide) kf_X10_149 rfl dX10_tribe_137 ?_
                    refine lv_iload_n (pc := 140) hx hb dX10_tribe_140 rfl (lv_at hl 1 rfl) ?_
                    obtain ⟨h0_12, hf⟩ := gc_s hf
                    refine g_iald (pc := 141) hC hU hH (gk_8_4 h0_11) (gn_8_4 h0_11) h0_12 dX10_tribe_141 ?_
                    refine lv_aload_n (pc := 142) hx hb dX10_tribe_142 rfl (lv_at hl 0 rfl) ?_
                    refine g_get (pc := 143) (v := .ref (ad (q0_1.2.2.2 0 9))) hC hU hH gk0_0 g_cl10 9 (by decide) kf_X10_71 rfl dX10_tribe_143 ?_
                    refine lv_aload_n (pc := 146) hx hb dX10_tribe_146 rfl (lv_at hl 0 rfl) ?_
                    refine g_get (pc := 147) (v := .ref (ad 20)) hC hU hH gk0_0 g_cl10 2 (by decide) kf_X10_28 rfl dX10_tribe_147 ?_
                    refine g_get (pc := 150) (v := .int (q0_1.2.1 20 2)) hC hU hH gk0_20 g_cl5 2 (by decide) kf_X10_155 rfl dX10_tribe_150 ?_
                    obtain ⟨h0_13, hf⟩ := gc_s hf
                    obtain ⟨q0_2, hq0_2, hf⟩ := gbd hf
                    refine g_callVi (pc := 153) (rest := [.int (q0_1.2.1 ((q0_1.2.2.2 0 9) + 1 + 4) a1.toNatClampNeg)]) hC hU hH hS hl.1 h0_13 rfl (by decide) (mX8_movesFrom h0_13 hq0_2) ky_X8_movesFrom km_X10_158 ⟨Nat.le_of_ble_eq_true rfl, Nat.le_of_ble_eq_true rfl⟩ ⟨Nat.zero_le _, Nat.zero_le _⟩ rfl (Nat.le_of_ble_eq_true rfl) dX10_tribe_153 rfl (fun H locs hH hS => ?_)
                    refine lv_iand (pc := 156) hx hb dX10_tribe_156 ?_
                    exact g_iret (pc := 157) hC hret hlk hH hS hf dX10_tribe_157
                  · have hf := gif_p hc hf
                    refine lv_iconst (v := 0) (pc := 129) hx hb dX10_tribe_129 (by decide) ?_
                    refine lv_goto (tgt := 157) (pc := 130) hx hb dX10_tribe_130 (by decide) ?_
                    exact g_iret (pc := 157) hC hret hlk hH hS hf dX10_tribe_157
                · have hf := gif_n hw14_6 hf
                  refine g_tswO (tgt := 158) (n := 7) (pc := 14) hx hb dX10_tribe_14 (by intro j hj; match j, hj with | 0, _ => exact hw14_0 | 1, _ => exact hw14_1 | 2, _ => exact hw14_2 | 3, _ => exact hw14_3 | 4, _ => exact hw14_4 | 5, _ => exact hw14_5 | 6, _ => exact hw14_6 | n + 7, h => exact absurd h (by omega)) rfl (by decide) ?_
                  refine lv_iconst (v := (-1)) (pc := 158) hx hb dX10_tribe_158 (by decide) ?_
                  exact g_iret (pc := 159) hC hret hlk hH hS hf dX10_tribe_159
  · have hf := gif_p hc hf
    refine lv_iconst (v := (-1)) (pc := 11) hx hb dX10_tribe_11 (by decide) ?_
    exact g_iret (pc := 12) hC hret hlk hH hS hf dX10_tribe_12
set_option maxRecDepth 100000 in
set_option maxHeartbeats 4000000 in
theorem mX10_tribe {l : Launch} {D : va_G} {cA : Nat → ClassId} {ad : Nat → Nat} {a1 : Int32} {a2 : Int32}  {r : Int32} {st st' : gS} (hf : fX10_tribe a1 a2 st = some (r, st')) : gM l yX10_tribe cX10_tribe 3 (some .int) 2 0 D cA ad st [.ref (ad 0), .int a1, .int a2] (some (.int r)) st' := by
  refine g_met (by decide) (Nat.le_of_ble_eq_true rfl) ?_
  intro p e s m args below meth c ls hC hret hlk hU hH hl
  exact bX10_tribe_0 hC hret hlk hU hf hH va_S.rf hl
def fX8_hasMove (t : Nat) (a1 : Int32)   (st : gS) : Option (Int32 × gS) :=
  if a1 < 0 then (some (0, st)) else (if (st.1 t 14) ≤ a1 then (some (0, st)) else (some (1, st)))
set_option maxRecDepth 100000 in
set_option maxHeartbeats 4000000 in
theorem bX8_hasMove_0 {t : Nat} {a1 : Int32} (hC : CallFix p m c cX8_hasMove 2 s args lw_good RX8) (hret : meth.sig.returnType = (some .boolean)) (hlk : meth.locks = false) (hU : gU 0 D cA ad s) (ht : gK 0 t = 8) {r : Int32} {st' : gS}   {st : gS} {H : Heap} {locs : List Loc} {ls : Array Slot} (hf : fX8_hasMove t a1 st = some (r, st')) (hH : gP0 0 D cA ad st H) (hS : va_S (gA 0 ad) s.heap H locs) (hl : lv_has ls 2 [(0, .ref (ad t)), (1, .int a1)]) : W p l e (gRm 1) s m args below meth c H locs 0 0 (MQ below (gQc 0 D cA ad st' (some (.int r))) args s 0 0 (gA 0 ad)) (F0 m 0 ls []) := by
  obtain ⟨hx, hb, hml, hown, hts⟩ := id hC
  unfold fX8_hasMove at hf
  refine lv_iload_n (pc := 0) hx hb dX8_hasMove_0 rfl (lv_at hl 1 rfl) ?_
  refine lv_if_lt (tgt := 16) (pc := 1) hx hb dX8_hasMove_1 (by decide) (fun hc => ?_) (fun hc => ?_)
  · have hf := gif_p hc hf
    refine lv_iconst (v := 0) (pc := 16) hx hb dX8_hasMove_16 (by decide) ?_
    exact g_zret (pc := 17) hC hret hlk hH hS (by decide) hf dX8_hasMove_17
  · have hf := gif_n hc hf
    refine lv_iload_n (pc := 4) hx hb dX8_hasMove_4 rfl (lv_at hl 1 rfl) ?_
    refine lv_aload_n (pc := 5) hx hb dX8_hasMove_5 rfl (lv_at hl 0 rfl) ?_
    refine g_get (pc := 6) (v := .int (st.1 t 14)) hC hU hH ht g_cl8 14 (by decide) kf_X8_60 rfl dX8_hasMove_6 ?_
    refine lv_icmp_ge (tgt := 16) (pc := 9) hx hb dX8_hasMove_9 (by decide) (fun hc => ?_) (fun hc => ?_)
    · have hf := gif_p hc hf
      refine lv_iconst (v := 0) (pc := 16) hx hb dX8_hasMove_16 (by decide) ?_
      exact g_zret (pc := 17) hC hret hlk hH hS (by decide) hf dX8_hasMove_17
    · have hf := gif_n hc hf
      refine lv_iconst (v := 1) (pc := 12) hx hb dX8_hasMove_12 (by decide) ?_
      refine lv_goto (tgt := 17) (pc := 13) hx hb dX8_hasMove_13 (by decide) ?_
      exact g_zret (pc := 17) hC hret hlk hH hS (by decide) hf dX8_hasMove_17
set_option maxRecDepth 100000 in
set_option maxHeartbeats 4000000 in
theorem mX8_hasMove {l : Launch} {D : va_G} {cA : Nat → ClassId} {ad : Nat → Nat} {t : Nat} {a1 : Int32} (ht : gK 0 t = 8) {r : Int32} {st st' : gS} (hf : fX8_hasMove t a1 st = some (r, st')) : gM l yX8_hasMove cX8_hasMove 2 (some .boolean) 1 0 D cA ad st [.ref (ad t), .int a1] (some (.int r)) st' := by
  refine g_met (by decide) (Nat.le_of_ble_eq_true rfl) ?_
  intro p e s m args below meth c ls hC hret hlk hU hH hl
  exact bX8_hasMove_0 hC hret hlk hU ht hf hH va_S.rf hl
def fX8_can (t : Nat) (a1 : Int32) (a2 : Int32)   (st : gS) : Option (Int32 × gS) :=
  (fX8_hasTribe t a1 st).bind fun q0_1 => (if q0_1.1 = 0 then (some (0, q0_1.2)) else ((fX8_hasMove t a2 q0_1.2).bind fun q0_2 => (if q0_2.1 = 0 then (some (0, q0_2.2)) else (gc (gI a1 5) (if (((q0_2.2.1 (t + 1 + 4) a1.toNatClampNeg) >>> (a2 &&& 31)) &&& 1) = 0 then (some (0, q0_2.2)) else (some (1, q0_2.2)))))))
set_option maxRecDepth 100000 in
set_option maxHeartbeats 4000000 in
theorem bX8_can_0 {t : Nat} {a1 : Int32} {a2 : Int32} (hC : CallFix p m c cX8_can 3 s args lw_good RX8) (hret : meth.sig.returnType = (some .boolean)) (hlk : meth.locks = false) (hU : gU 0 D cA ad s) (ht : gK 0 t = 8) {r : Int32} {st' : gS}   {st : gS} {H : Heap} {locs : List Loc} {ls : Array Slot} (hf : fX8_can t a1 a2 st = some (r, st')) (hH : gP0 0 D cA ad st H) (hS : va_S (gA 0 ad) s.heap H locs) (hl : lv_has ls 3 [(0, .ref (ad t)), (1, .int a1), (2, .int a2)]) : W p l e (gRm 2) s m args below meth c H locs 0 0 (MQ below (gQc 0 D cA ad st' (some (.int r))) args s 0 0 (gA 0 ad)) (F0 m 0 ls []) := by
  obtain ⟨hx, hb, hml, hown, hts⟩ := id hC
  unfold fX8_can at hf
  refine lv_aload_n (pc := 0) hx hb dX8_can_0 rfl (lv_at hl 0 rfl) ?_
  refine lv_iload_n (pc := 1) hx hb dX8_can_1 rfl (lv_at hl 1 rfl) ?_
  obtain ⟨q0_1, hq0_1, hf⟩ := gbd hf
  refine g_callVi (pc := 2) (rest := []) hC hU hH hS hl.1 ht rfl (by decide) (mX8_hasTribe ht hq0_1) ky_X8_hasTribe km_X8_81 ⟨Nat.le_of_ble_eq_true rfl, Nat.le_of_ble_eq_true rfl⟩ ⟨Nat.zero_le _, Nat.zero_le _⟩ rfl (Nat.le_of_ble_eq_true rfl) dX8_can_2 rfl (fun H locs hH hS => ?_)
  refine lv_if_eq (tgt := 33) (pc := 5) hx hb dX8_can_5 (by decide) (fun hc => ?_) (fun hc => ?_)
  · have hf := gif_p hc hf
    refine lv_iconst (v := 0) (pc := 33) hx hb dX8_can_33 (by decide) ?_
    exact g_zret (pc := 34) hC hret hlk hH hS (by decide) hf dX8_can_34
  · have hf := gif_n hc hf
    refine lv_aload_n (pc := 8) hx hb dX8_can_8 rfl (lv_at hl 0 rfl) ?_
    refine lv_iload_n (pc := 9) hx hb dX8_can_9 rfl (lv_at hl 2 rfl) ?_
    obtain ⟨q0_2, hq0_2, hf⟩ := gbd hf
    refine g_callVi (pc := 10) (rest := []) hC hU hH hS hl.1 ht rfl (by decide) (mX8_hasMove ht hq0_2) ky_X8_hasMove km_X8_115 ⟨Nat.le_of_ble_eq_true rfl, Nat.le_of_ble_eq_true rfl⟩ ⟨Nat.zero_le _, Nat.zero_le _⟩ rfl (Nat.le_of_ble_eq_true rfl) dX8_can_10 rfl (fun H locs hH hS => ?_)
    refine lv_if_eq (tgt := 33) (pc := 13) hx hb dX8_can_13 (by decide) (fun hc => ?_) (fun hc => ?_)
    · have hf := gif_p hc hf
      refine lv_iconst (v := 0) (pc := 33) hx hb dX8_can_33 (by decide) ?_
      exact g_zret (pc := 34) hC hret hlk hH hS (by decide) hf dX8_can_34
    · have hf := gif_n hc hf
      refine lv_aload_n (pc := 16) hx hb dX8_can_16 rfl (lv_at hl 0 rfl) ?_
      refine g_get (pc := 17) (v := .ref (ad (t + 1 + 4))) hC hU hH ht g_cl8 4 (by decide) kf_X8_25 rfl dX8_can_17 ?_
      refine lv_iload_n (pc := 20) hx hb dX8_can_20 rfl (lv_at hl 1 rfl) ?_
      obtain ⟨h0_1, hf⟩ := gc_s hf
      refine g_iald (pc := 21) hC hU hH (gk_8_4 ht) (gn_8_4 ht) h0_1 dX8_can_21 ?_
      refine lv_iload_n (pc := 22) hx hb dX8_can_22 rfl (lv_at hl 2 rfl) ?_
      refine lv_ishr (pc := 23) hx hb dX8_can_23 ?_
      refine lv_iconst (v := 1) (pc := 24) hx hb dX8_can_24 (by decide) ?_
      refine lv_iand (pc := 25) hx hb dX8_can_25 ?_
      refine lv_if_eq (tgt := 33) (pc := 26) hx hb dX8_can_26 (by decide) (fun hc => ?_) (fun hc => ?_)
      · have hf := gif_p hc hf
        refine lv_iconst (v := 0) (pc := 33) hx hb dX8_can_33 (by decide) ?_
        exact g_zret (pc := 34) hC hret hlk hH hS (by decide) hf dX8_can_34
      · have hf := gif_n hc hf
        refine lv_iconst (v := 1) (pc := 29) hx hb dX8_can_29 (by decide) ?_
        refine lv_goto (tgt := 34) (pc := 30) hx hb dX8_can_30 (by decide) ?_
        exact g_zret (pc := 34) hC hret hlk hH hS (by decide) hf dX8_can_34
set_option maxRecDepth 100000 in
set_option maxHeartbeats 4000000 in
theorem mX8_can {l : Launch} {D : va_G} {cA : Nat → ClassId} {ad : Nat → Nat} {t : Nat} {a1 : Int32} {a2 : Int32} (ht : gK 0 t = 8) {r : Int32} {st st' : gS} (hf : fX8_can t a1 a2 st = some (r, st')) : gM l yX8_can cX8_can 3 (some .boolean) 2 0 D cA ad st [.ref (ad t), .int a1, .int a2] (some (.int r)) st' := by
  refine g_met (by decide) (Nat.le_of_ble_eq_true rfl) ?_
  intro p e s m args below meth c ls hC hret hlk hU hH hl
  exact bX8_can_0 hC hret hlk hU ht hf hH va_S.rf hl
def fX8_tribesFor_4 (t : Nat) (a1 : Int32) (k4 : Int32 → Int32 → gS → Option (Int32 × gS)) (l2 : Int32) (l3 : Int32) (st : gS) : Option (Int32 × gS) :=
  if (st.1 t 13) ≤ l3 then (some (l2, st)) else ((fX8_can t l3 a1 st).bind fun q4_1 => (if q4_1.1 = 0 then (k4 l2 (l3 + 1) q4_1.2) else (gl (l2 ||| (1 <<< (l3 &&& 31))) fun x26 => (k4 x26 (l3 + 1) q4_1.2))))
set_option maxRecDepth 100000 in
set_option maxHeartbeats 4000000 in
theorem bX8_tribesFor_4 {t : Nat} {a1 : Int32} (hC : CallFix p m c cX8_tribesFor 4 s args lw_good RX8) (hret : meth.sig.returnType = (some .int)) (hlk : meth.locks = false) (hU : gU 0 D cA ad s) (ht : gK 0 t = 8) {r : Int32} {st' : gS} {k4 : Int32 → Int32 → gS → Option (Int32 × gS)} (hk4 : ∀ {l2 : Int32} {l3 : Int32} {st : gS} {H : Heap} {locs : List Loc} {ls : Array Slot}, k4 l2 l3 st = some (r, st') → gP0 0 D cA ad st H → va_S (gA 0 ad) s.heap H locs → lv_has ls 4 [(0, .ref (ad t)), (1, .int a1), (2, .int l2), (3, .int l3)] → W p l e (gRm 3) s m args below meth c H locs 0 0 (MQ below (gQc 0 D cA ad st' (some (.int r))) args s 0 0 (gA 0 ad)) (F0 m 4 ls [])) {l2 : Int32} {l3 : Int32} {st : gS} {H : Heap} {locs : List Loc} {ls : Array Slot} (hf : fX8_tribesFor_4 t a1 k4 l2 l3 st = some (r, st')) (hH : gP0 0 D cA ad st H) (hS : va_S (gA 0 ad) s.heap H locs) (hl : lv_has ls 4 [(0, .ref (ad t)), (1, .int a1), (2, .int l2), (3, .int l3)]) : W p l e (gRm 3) s m args below meth c H locs 0 0 (MQ below (gQc 0 D cA ad st' (some (.int r))) args s 0 0 (gA 0 ad)) (F0 m 4 ls []) := by
  obtain ⟨hx, hb, hml, hown, hts⟩ := id hC
  unfold fX8_tribesFor_4 at hf
  refine lv_iload_n (pc := 4) hx hb dX8_tribesFor_4 rfl (lv_at hl 3 rfl) ?_
  refine lv_aload_n (pc := 5) hx hb dX8_tribesFor_5 rfl (lv_at hl 0 rfl) ?_
  refine g_get (pc := 6) (v := .int (st.1 t 13)) hC hU hH ht g_cl8 13 (by decide) kf_X8_57 rfl dX8_tribesFor_6 ?_
  refine lv_icmp_ge (tgt := 33) (pc := 9) hx hb dX8_tribesFor_9 (by decide) (fun hc => ?_) (fun hc => ?_)
  · have hf := gif_p hc hf
    refine lv_iload_n (pc := 33) hx hb dX8_tribesFor_33 rfl (lv_at hl 2 rfl) ?_
    exact g_iret (pc := 34) hC hret hlk hH hS hf dX8_tribesFor_34
  · have hf := gif_n hc hf
    refine lv_aload_n (pc := 12) hx hb dX8_tribesFor_12 rfl (lv_at hl 0 rfl) ?_
    refine lv_iload_n (pc := 13) hx hb dX8_tribesFor_13 rfl (lv_at hl 3 rfl) ?_
    refine lv_iload_n (pc := 14) hx hb dX8_tribesFor_14 rfl (lv_at hl 1 rfl) ?_
    obtain ⟨q4_1, hq4_1, hf⟩ := gbd hf
    refine g_callVi (pc := 15) (rest := []) hC hU hH hS hl.1 ht rfl (by decide) (mX8_can ht hq4_1) ky_X8_can km_X8_118 ⟨Nat.le_of_ble_eq_true rfl, Nat.le_of_ble_eq_true rfl⟩ ⟨Nat.zero_le _, Nat.zero_le _⟩ rfl (Nat.le_of_ble_eq_true rfl) dX8_tribesFor_15 rfl (fun H locs hH hS => ?_)
    refine lv_if_eq (tgt := 27) (pc := 18) hx hb dX8_tribesFor_18 (by decide) (fun hc => ?_) (fun hc => ?_)
    · have hf := gif_p hc hf
      refine lv_iinc (v := l3 + 1) (lv' := [(3, .int (l3 + 1)), (0, .ref (ad t)), (1, .int a1), (2, .int l2)]) (k := 3) (pc := 27) hx hb dX8_tribesFor_27 hl rfl rfl (by decide) rfl (fun ls hl => ?_)
      refine lv_goto (tgt := 4) (pc := 30) hx hb dX8_tribesFor_30 (by decide) ?_
      exact hk4 hf hH hS (lv_sub hl [1, 2, 3, 0] rfl)
    · have hf := gif_n hc hf
      refine lv_iload_n (pc := 21) hx hb dX8_tribesFor_21 rfl (lv_at hl 2 rfl) ?_
      refine lv_iconst (v := 1) (pc := 22) hx hb dX8_tribesFor_22 (by decide) ?_
      refine lv_iload_n (pc := 23) hx hb dX8_tribesFor_23 rfl (lv_at hl 3 rfl) ?_
      refine lv_ishl (pc := 24) hx hb dX8_tribesFor_24 ?_
      refine lv_ior (pc := 25) hx hb dX8_tribesFor_25 ?_
      refine lv_topi (pc := 26) (fun x26 ex26 => ?_)
      have hf := gl_s ex26 hf
      refine lv_istore_n (lv' := [(2, .int x26), (0, .ref (ad t)), (1, .int a1), (3, .int l3)]) (pc := 26) hx hb dX8_tribesFor_26 rfl hl (by decide) rfl (fun ls hl => ?_)
      refine lv_iinc (v := l3 + 1) (lv' := [(3, .int (l3 + 1)), (2, .int x26), (0, .ref (ad t)), (1, .int a1)]) (k := 3) (pc := 27) hx hb dX8_tribesFor_27 hl rfl rfl (by decide) rfl (fun ls hl => ?_)
      refine lv_goto (tgt := 4) (pc := 30) hx hb dX8_tribesFor_30 (by decide) ?_
      exact hk4 hf hH hS (lv_sub hl [2, 3, 1, 0] rfl)
def hX8_tribesFor_4 (t : Nat) (a1 : Int32)  : Nat → Int32 → Int32 → gS → Option (Int32 × gS)
  | 0 => fun _ _ _ => none
  | n + 1 => fun l2 l3 st => fX8_tribesFor_4 t a1 (hX8_tribesFor_4 t a1 n) l2 l3 st
set_option maxRecDepth 100000 in
set_option maxHeartbeats 4000000 in
theorem wX8_tribesFor_4 {t : Nat} {a1 : Int32} (hC : CallFix p m c cX8_tribesFor 4 s args lw_good RX8) (hret : meth.sig.returnType = (some .int)) (hlk : meth.locks = false) (hU : gU 0 D cA ad s) (ht : gK 0 t = 8) {r : Int32} {st' : gS}  : ∀ (n : Nat) {l2 : Int32} {l3 : Int32} {st : gS} {H : Heap} {locs : List Loc} {ls : Array Slot}, hX8_tribesFor_4 t a1 n l2 l3 st = some (r, st') → gP0 0 D cA ad st H → va_S (gA 0 ad) s.heap H locs → lv_has ls 4 [(0, .ref (ad t)), (1, .int a1), (2, .int l2), (3, .int l3)] → W p l e (gRm 3) s m args below meth c H locs 0 0 (MQ below (gQc 0 D cA ad st' (some (.int r))) args s 0 0 (gA 0 ad)) (F0 m 4 ls []) := by
  intro n
  induction n with
  | zero => intro l2 l3 st H locs ls hf hH hS hl; cases hf
  | succ n ih =>
    intro l2 l3 st H locs ls hf hH hS hl
    exact bX8_tribesFor_4 (t := t) (a1 := a1) hC hret hlk hU ht (fun hf hH hS hl => ih hf hH hS hl) hf hH hS hl
def fX8_tribesFor (t : Nat) (a1 : Int32)   (st : gS) : Option (Int32 × gS) :=
  hX8_tribesFor_4 t a1 FU 0 0 st
set_option maxRecDepth 100000 in
set_option maxHeartbeats 4000000 in
theorem bX8_tribesFor_0 {t : Nat} {a1 : Int32} (hC : CallFix p m c cX8_tribesFor 4 s args lw_good RX8) (hret : meth.sig.returnType = (some .int)) (hlk : meth.locks = false) (hU : gU 0 D cA ad s) (ht : gK 0 t = 8) {r : Int32} {st' : gS}   {st : gS} {H : Heap} {locs : List Loc} {ls : Array Slot} (hf : fX8_tribesFor t a1 st = some (r, st')) (hH : gP0 0 D cA ad st H) (hS : va_S (gA 0 ad) s.heap H locs) (hl : lv_has ls 4 [(0, .ref (ad t)), (1, .int a1)]) : W p l e (gRm 3) s m args below meth c H locs 0 0 (MQ below (gQc 0 D cA ad st' (some (.int r))) args s 0 0 (gA 0 ad)) (F0 m 0 ls []) := by
  obtain ⟨hx, hb, hml, hown, hts⟩ := id hC
  unfold fX8_tribesFor at hf
  refine lv_iconst (v := 0) (pc := 0) hx hb dX8_tribesFor_0 (by decide) ?_
  refine lv_istore_n (lv' := [(2, .int 0), (0, .ref (ad t)), (1, .int a1)]) (pc := 1) hx hb dX8_tribesFor_1 rfl hl (by decide) rfl (fun ls hl => ?_)
  refine lv_iconst (v := 0) (pc := 2) hx hb dX8_tribesFor_2 (by decide) ?_
  refine lv_istore_n (lv' := [(3, .int 0), (2, .int 0), (0, .ref (ad t)), (1, .int a1)]) (pc := 3) hx hb dX8_tribesFor_3 rfl hl (by decide) rfl (fun ls hl => ?_)
  exact wX8_tribesFor_4 hC hret hlk hU ht FU hf hH hS (lv_sub hl [2, 3, 1, 0] rfl)
set_option maxRecDepth 100000 in
set_option maxHeartbeats 4000000 in
theorem mX8_tribesFor {l : Launch} {D : va_G} {cA : Nat → ClassId} {ad : Nat → Nat} {t : Nat} {a1 : Int32} (ht : gK 0 t = 8) {r : Int32} {st st' : gS} (hf : fX8_tribesFor t a1 st = some (r, st')) : gM l yX8_tribesFor cX8_tribesFor 4 (some .int) 3 0 D cA ad st [.ref (ad t), .int a1] (some (.int r)) st' := by
  refine g_met (by decide) (Nat.le_of_ble_eq_true rfl) ?_
  intro p e s m args below meth c ls hC hret hlk hU hH hl
  exact bX8_tribesFor_0 hC hret hlk hU ht hf hH va_S.rf hl
def fX10_move (a1 : Int32) (a2 : Int32)   (st : gS) : Option (Int32 × gS) :=
  gc (gK 0 (st.2.2 0 9) = 8) ((fX8_hasMove (st.2.2 0 9) a1 st).bind fun q0_1 => (if q0_1.1 = 0 then (some ((-2), q0_1.2)) else (if a2 = 0 then (gc (gK 0 (q0_1.2.2.2 0 9) = 8) (gc (gI a1 16) (some (q0_1.2.1 ((q0_1.2.2.2 0 9) + 1 + 6) a1.toNatClampNeg, q0_1.2)))) else if a2 = 1 then (gc (gK 0 (q0_1.2.2.2 0 9) = 8) (gc (gI a1 16) (some (q0_1.2.1 ((q0_1.2.2.2 0 9) + 1 + 7) a1.toNatClampNeg, q0_1.2)))) else if a2 = 2 then (gc (gK 0 (q0_1.2.2.2 0 9) = 8) (gc (gI a1 16) (some (q0_1.2.1 ((q0_1.2.2.2 0 9) + 1 + 8) a1.toNatClampNeg, q0_1.2)))) else if a2 = 3 then (gc (gK 0 (q0_1.2.2.2 0 9) = 8) (gc (gI a1 16) (some (q0_1.2.1 ((q0_1.2.2.2 0 9) + 1 + 9) a1.toNatClampNeg, q0_1.2)))) else if a2 = 4 then (gc (gK 0 (q0_1.2.2.2 0 9) = 8) (gc (gI a1 16) (some (q0_1.2.1 ((q0_1.2.2.2 0 9) + 1 + 10) a1.toNatClampNeg, q0_1.2)))) else if a2 = 5 then (gc (gK 0 (q0_1.2.2.2 0 9) = 8) ((fX8_tribesFor (q0_1.2.2.2 0 9) a1 q0_1.2).bind fun q0_2 => (some (q0_2.1, q0_2.2)))) else (some ((-2), q0_1.2)))))
set_option maxRecDepth 100000 in
set_option maxHeartbeats 4000000 in
theorem bX10_move_0 {a1 : Int32} {a2 : Int32} (hC : CallFix p m c cX10_move 3 s args lw_good RX10) (hret : meth.sig.returnType = (some .int)) (hlk : meth.locks = false) (hU : gU 0 D cA ad s)  {r : Int32} {st' : gS}   {st : gS} {H : Heap} {locs : List Loc} {ls : Array Slot} (hf : fX10_move a1 a2 st = some (r, st')) (hH : gP0 0 D cA ad st H) (hS : va_S (gA 0 ad) s.heap H locs) (hl : lv_has ls 3 [(0, .ref (ad 0)), (1, .int a1), (2, .int a2)]) : W p l e (gRm 4) s m args below meth c H locs 0 0 (MQ below (gQc 0 D cA ad st' (some (.int r))) args s 0 0 (gA 0 ad)) (F0 m 0 ls []) := by
  obtain ⟨hx, hb, hml, hown, hts⟩ := id hC
  unfold fX10_move at hf
  refine lv_aload_n (pc := 0) hx hb dX10_move_0 rfl (lv_at hl 0 rfl) ?_
  refine g_get (pc := 1) (v := .ref (ad (st.2.2 0 9))) hC hU hH gk0_0 g_cl10 9 (by decide) kf_X10_71 rfl dX10_move_1 ?_
  refine lv_iload_n (pc := 4) hx hb dX10_move_4 rfl (lv_at hl 1 rfl) ?_
  obtain ⟨h0_1, hf⟩ := gc_s hf
  obtain ⟨q0_1, hq0_1, hf⟩ := gbd hf
  refine g_callVi (pc := 5) (rest := []) hC hU hH hS hl.1 h0_1 rfl (by decide) (mX8_hasMove h0_1 hq0_1) ky_X8_hasMove km_X10_162 ⟨Nat.le_of_ble_eq_true rfl, Nat.le_of_ble_eq_true rfl⟩ ⟨Nat.zero_le _, Nat.zero_le _⟩ rfl (Nat.le_of_ble_eq_true rfl) dX10_move_5 rfl (fun H locs hH hS => ?_)
  refine lv_if_ne (tgt := 14) (pc := 8) hx hb dX10_move_8 (by decide) (fun hc => ?_) (fun hc => ?_)
  · have hf := gif_n hc hf
    refine lv_iload_n (pc := 14) hx hb dX10_move_14 rfl (lv_at hl 2 rfl) ?_
    by_cases hw15_0 : a2 = 0
    · have hf := gif_p hw15_0 hf
      refine g_tswI (tgt := 52) (off := 37) (pc := 15) hx hb hw15_0 dX10_move_15 (by decide) (by decide) (by decide) (by decide) ?_
      refine lv_aload_n (pc := 52) hx hb dX10_move_52 rfl (lv_at hl 0 rfl) ?_
      refine g_get (pc := 53) (v := .ref (ad (q0_1.2.2.2 0 9))) hC hU hH gk0_0 g_cl10 9 (by decide) kf_X10_71 rfl dX10_move_53 ?_
      obtain ⟨h0_2, hf⟩ := gc_s hf
      refine g_get (pc := 56) (v := .ref (ad ((q0_1.2.2.2 0 9) + 1 + 6))) hC hU hH h0_2 g_cl8 6 (by decide) kf_X10_165 rfl dX10_move_56 ?_
      refine lv_iload_n (pc := 59) hx hb dX10_move_59 rfl (lv_at hl 1 rfl) ?_
      obtain ⟨h0_3, hf⟩ := gc_s hf
      refine g_iald (pc := 60) hC hU hH (gk_8_6 h0_2) (gn_8_6 h0_2) h0_3 dX10_move_60 ?_
      exact g_iret (pc := 61) hC hret hlk hH hS hf dX10_move_61
    · have hf := gif_n hw15_0 hf
      by_cases hw15_1 : a2 = 1
      · have hf := gif_p hw15_1 hf
        refine g_tswI (tgt := 62) (off := 47) (pc := 15) hx hb hw15_1 dX10_move_15 (by decide) (by decide) (by decide) (by decide) ?_
        refine lv_aload_n (pc := 62) hx hb dX10_move_62 rfl (lv_at hl 0 rfl) ?_
        refine g_get (pc := 63) (v := .ref (ad (q0_1.2.2.2 0 9))) hC hU hH gk0_0 g_cl10 9 (by decide) kf_X10_71 rfl dX10_move_63 ?_
        obtain ⟨h0_4, hf⟩ := gc_s hf
        refine g_get (pc := 66) (v := .ref (ad ((q0_1.2.2.2 0 9) + 1 + 7))) hC hU hH h0_4 g_cl8 7 (by decide) kf_X10_168 rfl dX10_move_66 ?_
        refine lv_iload_n (pc := 69) hx hb dX10_move_69 rfl (lv_at hl 1 rfl) ?_
        obtain ⟨h0_5, hf⟩ := gc_s hf
        refine g_iald (pc := 70) hC hU hH (gk_8_7 h0_4) (gn_8_7 h0_4) h0_5 dX10_move_70 ?_
        exact g_iret (pc := 71) hC hret hlk hH hS hf dX10_move_71
      · have hf := gif_n hw15_1 hf
        by_cases hw15_2 : a2 = 2
        · have hf := gif_p hw15_2 hf
          refine g_tswI (tgt := 72) (off := 57) (pc := 15) hx hb hw15_2 dX10_move_15 (by decide) (by decide) (by decide) (by decide) ?_
          refine lv_aload_n (pc := 72) hx hb dX10_move_72 rfl (lv_at hl 0 rfl) ?_
          refine g_get (pc := 73) (v := .ref (ad (q0_1.2.2.2 0 9))) hC hU hH gk0_0 g_cl10 9 (by decide) kf_X10_71 rfl dX10_move_73 ?_
          obtain ⟨h0_6, hf⟩ := gc_s hf
          refine g_get (pc := 76) (v := .ref (ad ((q0_1.2.2.2 0 9) + 1 + 8))) hC hU hH h0_6 g_cl8 8 (by decide) kf_X10_171 rfl dX10_move_76 ?_
          refine lv_iload_n (pc := 79) hx hb dX10_move_79 rfl (lv_at hl 1 rfl) ?_
          obtain ⟨h0_7, hf⟩ := gc_s hf
          refine g_iald (pc := 80) hC hU hH (gk_8_8 h0_6) (gn_8_8 h0_6) h0_7 dX10_move_80 ?_
          exact g_iret (pc := 81) hC hret hlk hH hS hf dX10_move_81
        · have hf := gif_n hw15_2 hf
          by_cases hw15_3 : a2 = 3
          · have hf := gif_p hw15_3 hf
            refine g_tswI (tgt := 82) (off := 67) (pc := 15) hx hb hw15_3 dX10_move_15 (by decide) (by decide) (by decide) (by decide) ?_
            refine lv_aload_n (pc := 82) hx hb dX10_move_82 rfl (lv_at hl 0 rfl) ?_
            refine g_get (pc := 83) (v := .ref (ad (q0_1.2.2.2 0 9))) hC hU hH gk0_0 g_cl10 9 (by decide) kf_X10_71 rfl dX10_move_83 ?_
            obtain ⟨h0_8, hf⟩ := gc_s hf
            refine g_get (pc := 86) (v := .ref (ad ((q0_1.2.2.2 0 9) + 1 + 9))) hC hU hH h0_8 g_cl8 9 (by decide) kf_X10_174 rfl dX10_move_86 ?_
            refine lv_iload_n (pc := 89) hx hb dX10_move_89 rfl (lv_at hl 1 rfl) ?_
            obtain ⟨h0_9, hf⟩ := gc_s hf
            refine g_iald (pc := 90) hC hU hH (gk_8_9 h0_8) (gn_8_9 h0_8) h0_9 dX10_move_90 ?_
            exact g_iret (pc := 91) hC hret hlk hH hS hf dX10_move_91
          · have hf := gif_n hw15_3 hf
            by_cases hw15_4 : a2 = 4
            · have hf := gif_p hw15_4 hf
              refine g_tswI (tgt := 92) (off := 77) (pc := 15) hx hb hw15_4 dX10_move_15 (by decide) (by decide) (by decide) (by decide) ?_
              refine lv_aload_n (pc := 92) hx hb dX10_move_92 rfl (lv_at hl 0 rfl) ?_
              refine g_get (pc := 93) (v := .ref (ad (q0_1.2.2.2 0 9))) hC hU hH gk0_0 g_cl10 9 (by decide) kf_X10_71 rfl dX10_move_93 ?_
              obtain ⟨h0_10, hf⟩ := gc_s hf
              refine g_get (pc := 96) (v := .ref (ad ((q0_1.2.2.2 0 9) + 1 + 10))) hC hU hH h0_10 g_cl8 10 (by decide) kf_X10_177 rfl dX10_move_96 ?_
              refine lv_iload_n (pc := 99) hx hb dX10_move_99 rfl (lv_at hl 1 rfl) ?_
              obtain ⟨h0_11, hf⟩ := gc_s hf
              refine g_iald (pc := 100) hC hU hH (gk_8_10 h0_10) (gn_8_10 h0_10) h0_11 dX10_move_100 ?_
              exact g_iret (pc := 101) hC hret hlk hH hS hf dX10_move_101
            · have hf := gif_n hw15_4 hf
              by_cases hw15_5 : a2 = 5
              · have hf := gif_p hw15_5 hf
                refine g_tswI (tgt := 102) (off := 87) (pc := 15) hx hb hw15_5 dX10_move_15 (by decide) (by decide) (by decide) (by decide) ?_
                refine lv_aload_n (pc := 102) hx hb dX10_move_102 rfl (lv_at hl 0 rfl) ?_
                refine g_get (pc := 103) (v := .ref (ad (q0_1.2.2.2 0 9))) hC hU hH gk0_0 g_cl10 9 (by decide) kf_X10_71 rfl dX10_move_103 ?_
                refine lv_iload_n (pc := 106) hx hb dX10_move_106 rfl (lv_at hl 1 rfl) ?_
                obtain ⟨h0_12, hf⟩ := gc_s hf
                obtain ⟨q0_2, hq0_2, hf⟩ := gbd hf
                refine g_callVi (pc := 107) (rest := []) hC hU hH hS hl.1 h0_12 rfl (by decide) (mX8_tribesFor h0_12 hq0_2) ky_X8_tribesFor km_X10_180 ⟨Nat.le_of_ble_eq_true rfl, Nat.le_of_ble_eq_true rfl⟩ ⟨Nat.zero_le _, Nat.zero_le _⟩ rfl (Nat.le_of_ble_eq_true rfl) dX10_move_107 rfl (fun H locs hH hS => ?_)
                exact g_iret (pc := 110) hC hret hlk hH hS hf dX10_move_110
              · have hf := gif_n hw15_5 hf
                refine g_tswO (tgt := 111) (n := 6) (pc := 15) hx hb dX10_move_15 (by intro j hj; match j, hj with | 0, _ => exact hw15_0 | 1, _ => exact hw15_1 | 2, _ => exact hw15_2 | 3, _ => exact hw15_3 | 4, _ => exact hw15_4 | 5, _ => exact hw15_5 | n + 6, h => exact absurd h (by omega)) rfl (by decide) ?_
                refine lv_bipush (v := (-2)) (pc := 111) hx hb dX10_move_111 (by decide) ?_
                exact g_iret (pc := 113) hC hret hlk hH hS hf dX10_move_113
  · have hf := gif_p hc hf
    refine lv_bipush (v := (-2)) (pc := 11) hx hb dX10_move_11 (by decide) ?_
    exact g_iret (pc := 13) hC hret hlk hH hS hf dX10_move_13
set_option maxRecDepth 100000 in
set_option maxHeartbeats 4000000 in
theorem mX10_move {l : Launch} {D : va_G} {cA : Nat → ClassId} {ad : Nat → Nat} {a1 : Int32} {a2 : Int32}  {r : Int32} {st st' : gS} (hf : fX10_move a1 a2 st = some (r, st')) : gM l yX10_move cX10_move 3 (some .int) 4 0 D cA ad st [.ref (ad 0), .int a1, .int a2] (some (.int r)) st' := by
  refine g_met (by decide) (Nat.le_of_ble_eq_true rfl) ?_
  intro p e s m args below meth c ls hC hret hlk hU hH hl
  exact bX10_move_0 hC hret hlk hU hf hH va_S.rf hl
def fX8_worthOf (t : Nat) (a1 : Int32) (a2 : Int32)   (st : gS) : Option (Int32 × gS) :=
  (fX8_isWorthTold t a1 a2 st).bind fun q0_1 => (if q0_1.1 = 0 then (some (0, q0_1.2)) else (gc (gI ((a1 * 8) + a2) 40) (some (q0_1.2.1 (t + 1 + 5) ((a1 * 8) + a2).toNatClampNeg, q0_1.2))))
set_option maxRecDepth 100000 in
set_option maxHeartbeats 4000000 in
theorem bX8_worthOf_0 {t : Nat} {a1 : Int32} {a2 : Int32} (hC : CallFix p m c cX8_worthOf 3 s args lw_good RX8) (hret : meth.sig.returnType = (some .int)) (hlk : meth.locks = false) (hU : gU 0 D cA ad s) (ht : gK 0 t = 8) {r : Int32} {st' : gS}   {st : gS} {H : Heap} {locs : List Loc} {ls : Array Slot} (hf : fX8_worthOf t a1 a2 st = some (r, st')) (hH : gP0 0 D cA ad st H) (hS : va_S (gA 0 ad) s.heap H locs) (hl : lv_has ls 3 [(0, .ref (ad t)), (1, .int a1), (2, .int a2)]) : W p l e (gRm 3) s m args below meth c H locs 0 0 (MQ below (gQc 0 D cA ad st' (some (.int r))) args s 0 0 (gA 0 ad)) (F0 m 0 ls []) := by
  obtain ⟨hx, hb, hml, hown, hts⟩ := id hC
  unfold fX8_worthOf at hf
  refine lv_aload_n (pc := 0) hx hb dX8_worthOf_0 rfl (lv_at hl 0 rfl) ?_
  refine lv_iload_n (pc := 1) hx hb dX8_worthOf_1 rfl (lv_at hl 1 rfl) ?_
  refine lv_iload_n (pc := 2) hx hb dX8_worthOf_2 rfl (lv_at hl 2 rfl) ?_
  obtain ⟨q0_1, hq0_1, hf⟩ := gbd hf
  refine g_callVi (pc := 3) (rest := []) hC hU hH hS hl.1 ht rfl (by decide) (mX8_isWorthTold ht hq0_1) ky_X8_isWorthTold km_X8_88 ⟨Nat.le_of_ble_eq_true rfl, Nat.le_of_ble_eq_true rfl⟩ ⟨Nat.zero_le _, Nat.zero_le _⟩ rfl (Nat.le_of_ble_eq_true rfl) dX8_worthOf_3 rfl (fun H locs hH hS => ?_)
  refine lv_if_eq (tgt := 23) (pc := 6) hx hb dX8_worthOf_6 (by decide) (fun hc => ?_) (fun hc => ?_)
  · have hf := gif_p hc hf
    refine lv_iconst (v := 0) (pc := 23) hx hb dX8_worthOf_23 (by decide) ?_
    exact g_iret (pc := 24) hC hret hlk hH hS hf dX8_worthOf_24
  · have hf := gif_n hc hf
    refine lv_aload_n (pc := 9) hx hb dX8_worthOf_9 rfl (lv_at hl 0 rfl) ?_
    refine g_get (pc := 10) (v := .ref (ad (t + 1 + 5))) hC hU hH ht g_cl8 5 (by decide) kf_X8_28 rfl dX8_worthOf_10 ?_
    refine lv_iload_n (pc := 13) hx hb dX8_worthOf_13 rfl (lv_at hl 1 rfl) ?_
    refine lv_bipush (v := 8) (pc := 14) hx hb dX8_worthOf_14 (by decide) ?_
    refine lv_imul (pc := 16) hx hb dX8_worthOf_16 ?_
    refine lv_iload_n (pc := 17) hx hb dX8_worthOf_17 rfl (lv_at hl 2 rfl) ?_
    refine lv_iadd (pc := 18) hx hb dX8_worthOf_18 ?_
    obtain ⟨h0_1, hf⟩ := gc_s hf
    refine g_iald (pc := 19) hC hU hH (gk_8_5 ht) (gn_8_5 ht) h0_1 dX8_worthOf_19 ?_
    refine lv_goto (tgt := 24) (pc := 20) hx hb dX8_worthOf_20 (by decide) ?_
    exact g_iret (pc := 24) hC hret hlk hH hS hf dX8_worthOf_24
set_option maxRecDepth 100000 in
set_option maxHeartbeats 4000000 in
theorem mX8_worthOf {l : Launch} {D : va_G} {cA : Nat → ClassId} {ad : Nat → Nat} {t : Nat} {a1 : Int32} {a2 : Int32} (ht : gK 0 t = 8) {r : Int32} {st st' : gS} (hf : fX8_worthOf t a1 a2 st = some (r, st')) : gM l yX8_worthOf cX8_worthOf 3 (some .int) 3 0 D cA ad st [.ref (ad t), .int a1, .int a2] (some (.int r)) st' := by
  refine g_met (by decide) (Nat.le_of_ble_eq_true rfl) ?_
  intro p e s m args below meth c ls hC hret hlk hU hH hl
  exact bX8_worthOf_0 hC hret hlk hU ht hf hH va_S.rf hl
def fX10_worth (a1 : Int32) (a2 : Int32)   (st : gS) : Option (Int32 × gS) :=
  gc (gK 0 (st.2.2 0 9) = 8) ((fX8_hasTribe (st.2.2 0 9) a1 st).bind fun q0_1 => (if q0_1.1 = 0 then (some ((-1), q0_1.2)) else (gc (gK 0 (q0_1.2.2.2 0 9) = 8) ((fX8_hasFigure (q0_1.2.2.2 0 9) a2 q0_1.2).bind fun q0_2 => (if q0_2.1 = 0 then (some ((-1), q0_2.2)) else (gc (gK 0 (q0_2.2.2.2 0 9) = 8) ((fX8_worthOf (q0_2.2.2.2 0 9) a1 a2 q0_2.2).bind fun q0_3 => (some (q0_3.1, q0_3.2)))))))))
set_option maxRecDepth 100000 in
set_option maxHeartbeats 4000000 in
theorem bX10_worth_0 {a1 : Int32} {a2 : Int32} (hC : CallFix p m c cX10_worth 3 s args lw_good RX10) (hret : meth.sig.returnType = (some .int)) (hlk : meth.locks = false) (hU : gU 0 D cA ad s)  {r : Int32} {st' : gS}   {st : gS} {H : Heap} {locs : List Loc} {ls : Array Slot} (hf : fX10_worth a1 a2 st = some (r, st')) (hH : gP0 0 D cA ad st H) (hS : va_S (gA 0 ad) s.heap H locs) (hl : lv_has ls 3 [(0, .ref (ad 0)), (1, .int a1), (2, .int a2)]) : W p l e (gRm 4) s m args below meth c H locs 0 0 (MQ below (gQc 0 D cA ad st' (some (.int r))) args s 0 0 (gA 0 ad)) (F0 m 0 ls []) := by
  obtain ⟨hx, hb, hml, hown, hts⟩ := id hC
  unfold fX10_worth at hf
  refine lv_aload_n (pc := 0) hx hb dX10_worth_0 rfl (lv_at hl 0 rfl) ?_
  refine g_get (pc := 1) (v := .ref (ad (st.2.2 0 9))) hC hU hH gk0_0 g_cl10 9 (by decide) kf_X10_71 rfl dX10_worth_1 ?_
  refine lv_iload_n (pc := 4) hx hb dX10_worth_4 rfl (lv_at hl 1 rfl) ?_
  obtain ⟨h0_1, hf⟩ := gc_s hf
  obtain ⟨q0_1, hq0_1, hf⟩ := gbd hf
  refine g_callVi (pc := 5) (rest := []) hC hU hH hS hl.1 h0_1 rfl (by decide) (mX8_hasTribe h0_1 hq0_1) ky_X8_hasTribe km_X10_130 ⟨Nat.le_of_ble_eq_true rfl, Nat.le_of_ble_eq_true rfl⟩ ⟨Nat.zero_le _, Nat.zero_le _⟩ rfl (Nat.le_of_ble_eq_true rfl) dX10_worth_5 rfl (fun H locs hH hS => ?_)
  refine lv_if_eq (tgt := 22) (pc := 8) hx hb dX10_worth_8 (by decide) (fun hc => ?_) (fun hc => ?_)
  · have hf := gif_p hc hf
    refine lv_iconst (v := (-1)) (pc := 22) hx hb dX10_worth_22 (by decide) ?_
    exact g_iret (pc := 23) hC hret hlk hH hS hf dX10_worth_23
  · have hf := gif_n hc hf
    refine lv_aload_n (pc := 11) hx hb dX10_worth_11 rfl (lv_at hl 0 rfl) ?_
    refine g_get (pc := 12) (v := .ref (ad (q0_1.2.2.2 0 9))) hC hU hH gk0_0 g_cl10 9 (by decide) kf_X10_71 rfl dX10_worth_12 ?_
    refine lv_iload_n (pc := 15) hx hb dX10_worth_15 rfl (lv_at hl 2 rfl) ?_
    obtain ⟨h0_2, hf⟩ := gc_s hf
    obtain ⟨q0_2, hq0_2, hf⟩ := gbd hf
    refine g_callVi (pc := 16) (rest := []) hC hU hH hS hl.1 h0_2 rfl (by decide) (mX8_hasFigure h0_2 hq0_2) ky_X8_hasFigure km_X10_183 ⟨Nat.le_of_ble_eq_true rfl, Nat.le_of_ble_eq_true rfl⟩ ⟨Nat.zero_le _, Nat.zero_le _⟩ rfl (Nat.le_of_ble_eq_true rfl) dX10_worth_16 rfl (fun H locs hH hS => ?_)
    refine lv_if_ne (tgt := 24) (pc := 19) hx hb dX10_worth_19 (by decide) (fun hc => ?_) (fun hc => ?_)
    · have hf := gif_n hc hf
      refine lv_aload_n (pc := 24) hx hb dX10_worth_24 rfl (lv_at hl 0 rfl) ?_
      refine g_get (pc := 25) (v := .ref (ad (q0_2.2.2.2 0 9))) hC hU hH gk0_0 g_cl10 9 (by decide) kf_X10_71 rfl dX10_worth_25 ?_
      refine lv_iload_n (pc := 28) hx hb dX10_worth_28 rfl (lv_at hl 1 rfl) ?_
      refine lv_iload_n (pc := 29) hx hb dX10_worth_29 rfl (lv_at hl 2 rfl) ?_
      obtain ⟨h0_3, hf⟩ := gc_s hf
      obtain ⟨q0_3, hq0_3, hf⟩ := gbd hf
      refine g_callVi (pc := 30) (rest := []) hC hU hH hS hl.1 h0_3 rfl (by decide) (mX8_worthOf h0_3 hq0_3) ky_X8_worthOf km_X10_186 ⟨Nat.le_of_ble_eq_true rfl, Nat.le_of_ble_eq_true rfl⟩ ⟨Nat.zero_le _, Nat.zero_le _⟩ rfl (Nat.le_of_ble_eq_true rfl) dX10_worth_30 rfl (fun H locs hH hS => ?_)
      exact g_iret (pc := 33) hC hret hlk hH hS hf dX10_worth_33
    · have hf := gif_p hc hf
      refine lv_iconst (v := (-1)) (pc := 22) hx hb dX10_worth_22 (by decide) ?_
      exact g_iret (pc := 23) hC hret hlk hH hS hf dX10_worth_23
set_option maxRecDepth 100000 in
set_option maxHeartbeats 4000000 in
theorem mX10_worth {l : Launch} {D : va_G} {cA : Nat → ClassId} {ad : Nat → Nat} {a1 : Int32} {a2 : Int32}  {r : Int32} {st st' : gS} (hf : fX10_worth a1 a2 st = some (r, st')) : gM l yX10_worth cX10_worth 3 (some .int) 4 0 D cA ad st [.ref (ad 0), .int a1, .int a2] (some (.int r)) st' := by
  refine g_met (by decide) (Nat.le_of_ble_eq_true rfl) ?_
  intro p e s m args below meth c ls hC hret hlk hU hH hl
  exact bX10_worth_0 hC hret hlk hU hf hH va_S.rf hl
def fX0_push (t : Nat) (a1 : Int32)   (st : gS) : Option (gS) :=
  if 32 ≤ (st.1 t 4) then (some st) else (gc (gI (st.1 t 4) 32) (some (wi (wi st (t + 1 + 1) (st.1 t 4).toNatClampNeg a1) t 4 (((wi st (t + 1 + 1) (st.1 t 4).toNatClampNeg a1).1 t 4) + 1))))
set_option maxRecDepth 100000 in
set_option maxHeartbeats 4000000 in
theorem bX0_push_0 {t : Nat} {a1 : Int32} (hC : CallFix p m c cX0_push 2 s args lw_good RX0) (hret : meth.sig.returnType = none) (hlk : meth.locks = false) (hU : gU 0 D cA ad s) (ht : gK 0 t = 0) {st' : gS}   {st : gS} {H : Heap} {locs : List Loc} {ls : Array Slot} (hf : fX0_push t a1 st = some st') (hH : gP0 0 D cA ad st H) (hS : va_S (gA 0 ad) s.heap H locs) (hl : lv_has ls 2 [(0, .ref (ad t)), (1, .int a1)]) : W p l e (gRm 1) s m args below meth c H locs 0 0 (MQ below (gQc 0 D cA ad st' none) args s 0 0 (gA 0 ad)) (F0 m 0 ls []) := by
  obtain ⟨hx, hb, hml, hown, hts⟩ := id hC
  unfold fX0_push at hf
  refine lv_aload_n (pc := 0) hx hb dX0_push_0 rfl (lv_at hl 0 rfl) ?_
  refine g_get (pc := 1) (v := .int (st.1 t 4)) hC hU hH ht g_cl0 4 (by decide) kf_X0_23 rfl dX0_push_1 ?_
  refine lv_bipush (v := 32) (pc := 4) hx hb dX0_push_4 (by decide) ?_
  refine lv_icmp_ge (tgt := 29) (pc := 6) hx hb dX0_push_6 (by decide) (fun hc => ?_) (fun hc => ?_)
  · have hf := gif_p hc hf
    exact g_vret (pc := 29) hC hret hlk hH hS hf dX0_push_29
  · have hf := gif_n hc hf
    refine lv_aload_n (pc := 9) hx hb dX0_push_9 rfl (lv_at hl 0 rfl) ?_
    refine g_get (pc := 10) (v := .ref (ad (t + 1 + 1))) hC hU hH ht g_cl0 1 (by decide) kf_X0_13 rfl dX0_push_10 ?_
    refine lv_aload_n (pc := 13) hx hb dX0_push_13 rfl (lv_at hl 0 rfl) ?_
    refine g_get (pc := 14) (v := .int (st.1 t 4)) hC hU hH ht g_cl0 4 (by decide) kf_X0_23 rfl dX0_push_14 ?_
    refine lv_iload_n (pc := 17) hx hb dX0_push_17 rfl (lv_at hl 1 rfl) ?_
    obtain ⟨h0_1, hf⟩ := gc_s hf
    refine g_iast (pc := 18) hC hU hH hS (gk_0_1 ht) (gn_0_1 ht) h0_1 dX0_push_18 (fun H locs hH hS => ?_)
    refine lv_aload_n (pc := 19) hx hb dX0_push_19 rfl (lv_at hl 0 rfl) ?_
    refine lv_dup (pc := 20) hx hb dX0_push_20 rfl ?_
    refine g_get (pc := 21) (v := .int ((wi st (t + 1 + 1) (st.1 t 4).toNatClampNeg a1).1 t 4)) hC hU hH ht g_cl0 4 (by decide) kf_X0_23 rfl dX0_push_21 ?_
    refine lv_iconst (v := 1) (pc := 24) hx hb dX0_push_24 (by decide) ?_
    refine lv_iadd (pc := 25) hx hb dX0_push_25 ?_
    refine g_puti (pc := 26) hC hU hH hS ht g_cl0 4 (by decide) kf_X0_23 rfl rfl rfl rfl dX0_push_26 (fun H locs hH hS => ?_)
    exact g_vret (pc := 29) hC hret hlk hH hS hf dX0_push_29
set_option maxRecDepth 100000 in
set_option maxHeartbeats 4000000 in
theorem mX0_push {l : Launch} {D : va_G} {cA : Nat → ClassId} {ad : Nat → Nat} {t : Nat} {a1 : Int32} (ht : gK 0 t = 0) {st st' : gS} (hf : fX0_push t a1 st = some st') : gM l yX0_push cX0_push 2 none 1 0 D cA ad st [.ref (ad t), .int a1] none st' := by
  refine g_met (by decide) (Nat.le_of_ble_eq_true rfl) ?_
  intro p e s m args below meth c ls hC hret hlk hU hH hl
  exact bX0_push_0 hC hret hlk hU ht hf hH va_S.rf hl
def fX0_pop (t : Nat)   (st : gS) : Option (Int32 × gS) :=
  if 0 < (st.1 t 4) then (gc (gI ((wi st t 4 ((st.1 t 4) - 1)).1 t 4) 32) (some ((wi st t 4 ((st.1 t 4) - 1)).1 (t + 1 + 1) ((wi st t 4 ((st.1 t 4) - 1)).1 t 4).toNatClampNeg, wi st t 4 ((st.1 t 4) - 1)))) else (some (0, st))
set_option maxRecDepth 100000 in
set_option maxHeartbeats 4000000 in
theorem bX0_pop_0 {t : Nat} (hC : CallFix p m c cX0_pop 1 s args lw_good RX0) (hret : meth.sig.returnType = (some .int)) (hlk : meth.locks = false) (hU : gU 0 D cA ad s) (ht : gK 0 t = 0) {r : Int32} {st' : gS}   {st : gS} {H : Heap} {locs : List Loc} {ls : Array Slot} (hf : fX0_pop t st = some (r, st')) (hH : gP0 0 D cA ad st H) (hS : va_S (gA 0 ad) s.heap H locs) (hl : lv_has ls 1 [(0, .ref (ad t))]) : W p l e (gRm 1) s m args below meth c H locs 0 0 (MQ below (gQc 0 D cA ad st' (some (.int r))) args s 0 0 (gA 0 ad)) (F0 m 0 ls []) := by
  obtain ⟨hx, hb, hml, hown, hts⟩ := id hC
  unfold fX0_pop at hf
  refine lv_aload_n (pc := 0) hx hb dX0_pop_0 rfl (lv_at hl 0 rfl) ?_
  refine g_get (pc := 1) (v := .int (st.1 t 4)) hC hU hH ht g_cl0 4 (by decide) kf_X0_23 rfl dX0_pop_1 ?_
  refine lv_if_gt (tgt := 9) (pc := 4) hx hb dX0_pop_4 (by decide) (fun hc => ?_) (fun hc => ?_)
  · have hf := gif_p hc hf
    refine lv_aload_n (pc := 9) hx hb dX0_pop_9 rfl (lv_at hl 0 rfl) ?_
    refine lv_dup (pc := 10) hx hb dX0_pop_10 rfl ?_
    refine g_get (pc := 11) (v := .int (st.1 t 4)) hC hU hH ht g_cl0 4 (by decide) kf_X0_23 rfl dX0_pop_11 ?_
    refine lv_iconst (v := 1) (pc := 14) hx hb dX0_pop_14 (by decide) ?_
    refine lv_isub (pc := 15) hx hb dX0_pop_15 ?_
    refine g_puti (pc := 16) hC hU hH hS ht g_cl0 4 (by decide) kf_X0_23 rfl rfl rfl rfl dX0_pop_16 (fun H locs hH hS => ?_)
    refine lv_aload_n (pc := 19) hx hb dX0_pop_19 rfl (lv_at hl 0 rfl) ?_
    refine g_get (pc := 20) (v := .ref (ad (t + 1 + 1))) hC hU hH ht g_cl0 1 (by decide) kf_X0_13 rfl dX0_pop_20 ?_
    refine lv_aload_n (pc := 23) hx hb dX0_pop_23 rfl (lv_at hl 0 rfl) ?_
    refine g_get (pc := 24) (v := .int ((wi st t 4 ((st.1 t 4) - 1)).1 t 4)) hC hU hH ht g_cl0 4 (by decide) kf_X0_23 rfl dX0_pop_24 ?_
    obtain ⟨h0_1, hf⟩ := gc_s hf
    refine g_iald (pc := 27) hC hU hH (gk_0_1 ht) (gn_0_1 ht) h0_1 dX0_pop_27 ?_
    exact g_iret (pc := 28) hC hret hlk hH hS hf dX0_pop_28
  · have hf := gif_n hc hf
    refine lv_iconst (v := 0) (pc := 7) hx hb dX0_pop_7 (by decide) ?_
    exact g_iret (pc := 8) hC hret hlk hH hS hf dX0_pop_8
set_option maxRecDepth 100000 in
set_option maxHeartbeats 4000000 in
theorem mX0_pop {l : Launch} {D : va_G} {cA : Nat → ClassId} {ad : Nat → Nat} {t : Nat} (ht : gK 0 t = 0) {r : Int32} {st st' : gS} (hf : fX0_pop t st = some (r, st')) : gM l yX0_pop cX0_pop 1 (some .int) 1 0 D cA ad st [.ref (ad t)] (some (.int r)) st' := by
  refine g_met (by decide) (Nat.le_of_ble_eq_true rfl) ?_
  intro p e s m args below meth c ls hC hret hlk hU hH hl
  exact bX0_pop_0 hC hret hlk hU ht hf hH va_S.rf hl
def fX0_bit (a0 : Int32)   (st : gS) : Option (Int32 × gS) :=
  if a0 = 0 then (some (0, st)) else (some (1, st))
set_option maxRecDepth 100000 in
set_option maxHeartbeats 4000000 in
theorem bX0_bit_0 {a0 : Int32} (hC : CallFix p m c cX0_bit 1 s args lw_good RX0) (hret : meth.sig.returnType = (some .int)) (hlk : meth.locks = false) (hU : gU 0 D cA ad s)  {r : Int32} {st' : gS}   {st : gS} {H : Heap} {locs : List Loc} {ls : Array Slot} (hf : fX0_bit a0 st = some (r, st')) (hH : gP0 0 D cA ad st H) (hS : va_S (gA 0 ad) s.heap H locs) (hl : lv_has ls 1 [(0, .int a0)]) : W p l e (gRm 1) s m args below meth c H locs 0 0 (MQ below (gQc 0 D cA ad st' (some (.int r))) args s 0 0 (gA 0 ad)) (F0 m 0 ls []) := by
  obtain ⟨hx, hb, hml, hown, hts⟩ := id hC
  unfold fX0_bit at hf
  refine lv_iload_n (pc := 0) hx hb dX0_bit_0 rfl (lv_at hl 0 rfl) ?_
  refine lv_if_eq (tgt := 8) (pc := 1) hx hb dX0_bit_1 (by decide) (fun hc => ?_) (fun hc => ?_)
  · have hf := gif_p hc hf
    refine lv_iconst (v := 0) (pc := 8) hx hb dX0_bit_8 (by decide) ?_
    exact g_iret (pc := 9) hC hret hlk hH hS hf dX0_bit_9
  · have hf := gif_n hc hf
    refine lv_iconst (v := 1) (pc := 4) hx hb dX0_bit_4 (by decide) ?_
    refine lv_goto (tgt := 9) (pc := 5) hx hb dX0_bit_5 (by decide) ?_
    exact g_iret (pc := 9) hC hret hlk hH hS hf dX0_bit_9
set_option maxRecDepth 100000 in
set_option maxHeartbeats 4000000 in
theorem mX0_bit {l : Launch} {D : va_G} {cA : Nat → ClassId} {ad : Nat → Nat} {a0 : Int32}  {r : Int32} {st st' : gS} (hf : fX0_bit a0 st = some (r, st')) : gM l yX0_bit cX0_bit 1 (some .int) 1 0 D cA ad st [.int a0] (some (.int r)) st' := by
  refine g_met (by decide) (Nat.le_of_ble_eq_true rfl) ?_
  intro p e s m args below meth c ls hC hret hlk hU hH hl
  exact bX0_bit_0 hC hret hlk hU hf hH va_S.rf hl
def fX0_join_164 (a0 : Int32) (a1 : Int32) (a2 : Int32)  (s0 : Int32) (st : gS) : Option (Int32 × gS) :=
  (fX0_bit s0 st).bind fun q164_1 => (some (q164_1.1, q164_1.2))
set_option maxRecDepth 100000 in
set_option maxHeartbeats 4000000 in
theorem bX0_join_164 {a0 : Int32} {a1 : Int32} {a2 : Int32} (hC : CallFix p m c cX0_join 3 s args lw_good RX0) (hret : meth.sig.returnType = (some .int)) (hlk : meth.locks = false) (hU : gU 0 D cA ad s)  {r : Int32} {st' : gS}  {s0 : Int32} {st : gS} {H : Heap} {locs : List Loc} {ls : Array Slot} (hf : fX0_join_164 a0 a1 a2 s0 st = some (r, st')) (hH : gP0 0 D cA ad st H) (hS : va_S (gA 0 ad) s.heap H locs) (hl : lv_has ls 3 []) : W p l e (gRm 2) s m args below meth c H locs 0 0 (MQ below (gQc 0 D cA ad st' (some (.int r))) args s 0 0 (gA 0 ad)) (F0 m 164 ls [.int s0]) := by
  obtain ⟨hx, hb, hml, hown, hts⟩ := id hC
  unfold fX0_join_164 at hf
  obtain ⟨q164_1, hq164_1, hf⟩ := gbd hf
  refine g_callSi (pc := 164) (rest := []) hC hU hH hS hl.1 (mX0_bit  hq164_1) ky_X0_bit km_X0_48 ⟨Nat.le_of_ble_eq_true rfl, Nat.le_of_ble_eq_true rfl⟩ ⟨Nat.zero_le _, Nat.zero_le _⟩ rfl (Nat.le_of_ble_eq_true rfl) dX0_join_164 rfl (fun H locs hH hS => ?_)
  exact g_iret (pc := 167) hC hret hlk hH hS hf dX0_join_167
def fX0_join_150 (a0 : Int32) (a1 : Int32) (a2 : Int32)  (s0 : Int32) (st : gS) : Option (Int32 × gS) :=
  (fX0_bit s0 st).bind fun q150_1 => (some (q150_1.1, q150_1.2))
set_option maxRecDepth 100000 in
set_option maxHeartbeats 4000000 in
theorem bX0_join_150 {a0 : Int32} {a1 : Int32} {a2 : Int32} (hC : CallFix p m c cX0_join 3 s args lw_good RX0) (hret : meth.sig.returnType = (some .int)) (hlk : meth.locks = false) (hU : gU 0 D cA ad s)  {r : Int32} {st' : gS}  {s0 : Int32} {st : gS} {H : Heap} {locs : List Loc} {ls : Array Slot} (hf : fX0_join_150 a0 a1 a2 s0 st = some (r, st')) (hH : gP0 0 D cA ad st H) (hS : va_S (gA 0 ad) s.heap H locs) (hl : lv_has ls 3 []) : W p l e (gRm 2) s m args below meth c H locs 0 0 (MQ below (gQc 0 D cA ad st' (some (.int r))) args s 0 0 (gA 0 ad)) (F0 m 150 ls [.int s0]) := by
  obtain ⟨hx, hb, hml, hown, hts⟩ := id hC
  unfold fX0_join_150 at hf
  obtain ⟨q150_1, hq150_1, hf⟩ := gbd hf
  refine g_callSi (pc := 150) (rest := []) hC hU hH hS hl.1 (mX0_bit  hq150_1) ky_X0_bit km_X0_48 ⟨Nat.le_of_ble_eq_true rfl, Nat.le_of_ble_eq_true rfl⟩ ⟨Nat.zero_le _, Nat.zero_le _⟩ rfl (Nat.le_of_ble_eq_true rfl) dX0_join_150 rfl (fun H locs hH hS => ?_)
  exact g_iret (pc := 153) hC hret hlk hH hS hf dX0_join_153
def fX0_join_136 (a0 : Int32) (a1 : Int32) (a2 : Int32)  (s0 : Int32) (st : gS) : Option (Int32 × gS) :=
  (fX0_bit s0 st).bind fun q136_1 => (some (q136_1.1, q136_1.2))
set_option maxRecDepth 100000 in
set_option maxHeartbeats 4000000 in
theorem bX0_join_136 {a0 : Int32} {a1 : Int32} {a2 : Int32} (hC : CallFix p m c cX0_join 3 s args lw_good RX0) (hret : meth.sig.returnType = (some .int)) (hlk : meth.locks = false) (hU : gU 0 D cA ad s)  {r : Int32} {st' : gS}  {s0 : Int32} {st : gS} {H : Heap} {locs : List Loc} {ls : Array Slot} (hf : fX0_join_136 a0 a1 a2 s0 st = some (r, st')) (hH : gP0 0 D cA ad st H) (hS : va_S (gA 0 ad) s.heap H locs) (hl : lv_has ls 3 []) : W p l e (gRm 2) s m args below meth c H locs 0 0 (MQ below (gQc 0 D cA ad st' (some (.int r))) args s 0 0 (gA 0 ad)) (F0 m 136 ls [.int s0]) := by
  obtain ⟨hx, hb, hml, hown, hts⟩ := id hC
  unfold fX0_join_136 at hf
  obtain ⟨q136_1, hq136_1, hf⟩ := gbd hf
  refine g_callSi (pc := 136) (rest := []) hC hU hH hS hl.1 (mX0_bit  hq136_1) ky_X0_bit km_X0_48 ⟨Nat.le_of_ble_eq_true rfl, Nat.le_of_ble_eq_true rfl⟩ ⟨Nat.zero_le _, Nat.zero_le _⟩ rfl (Nat.le_of_ble_eq_true rfl) dX0_join_136 rfl (fun H locs hH hS => ?_)
  exact g_iret (pc := 139) hC hret hlk hH hS hf dX0_join_139
def fX0_join_122 (a0 : Int32) (a1 : Int32) (a2 : Int32)  (s0 : Int32) (st : gS) : Option (Int32 × gS) :=
  (fX0_bit s0 st).bind fun q122_1 => (some (q122_1.1, q122_1.2))
set_option maxRecDepth 100000 in
set_option maxHeartbeats 4000000 in
theorem bX0_join_122 {a0 : Int32} {a1 : Int32} {a2 : Int32} (hC : CallFix p m c cX0_join 3 s args lw_good RX0) (hret : meth.sig.returnType = (some .int)) (hlk : meth.locks = false) (hU : gU 0 D cA ad s)  {r : Int32} {st' : gS}  {s0 : Int32} {st : gS} {H : Heap} {locs : List Loc} {ls : Array Slot} (hf : fX0_join_122 a0 a1 a2 s0 st = some (r, st')) (hH : gP0 0 D cA ad st H) (hS : va_S (gA 0 ad) s.heap H locs) (hl : lv_has ls 3 []) : W p l e (gRm 2) s m args below meth c H locs 0 0 (MQ below (gQc 0 D cA ad st' (some (.int r))) args s 0 0 (gA 0 ad)) (F0 m 122 ls [.int s0]) := by
  obtain ⟨hx, hb, hml, hown, hts⟩ := id hC
  unfold fX0_join_122 at hf
  obtain ⟨q122_1, hq122_1, hf⟩ := gbd hf
  refine g_callSi (pc := 122) (rest := []) hC hU hH hS hl.1 (mX0_bit  hq122_1) ky_X0_bit km_X0_48 ⟨Nat.le_of_ble_eq_true rfl, Nat.le_of_ble_eq_true rfl⟩ ⟨Nat.zero_le _, Nat.zero_le _⟩ rfl (Nat.le_of_ble_eq_true rfl) dX0_join_122 rfl (fun H locs hH hS => ?_)
  exact g_iret (pc := 125) hC hret hlk hH hS hf dX0_join_125
def fX0_join_121 (a0 : Int32) (a1 : Int32) (a2 : Int32)   (st : gS) : Option (Int32 × gS) :=
  fX0_join_122 a0 a1 a2 0 st
set_option maxRecDepth 100000 in
set_option maxHeartbeats 4000000 in
theorem bX0_join_121 {a0 : Int32} {a1 : Int32} {a2 : Int32} (hC : CallFix p m c cX0_join 3 s args lw_good RX0) (hret : meth.sig.returnType = (some .int)) (hlk : meth.locks = false) (hU : gU 0 D cA ad s)  {r : Int32} {st' : gS}   {st : gS} {H : Heap} {locs : List Loc} {ls : Array Slot} (hf : fX0_join_121 a0 a1 a2 st = some (r, st')) (hH : gP0 0 D cA ad st H) (hS : va_S (gA 0 ad) s.heap H locs) (hl : lv_has ls 3 []) : W p l e (gRm 2) s m args below meth c H locs 0 0 (MQ below (gQc 0 D cA ad st' (some (.int r))) args s 0 0 (gA 0 ad)) (F0 m 121 ls []) := by
  obtain ⟨hx, hb, hml, hown, hts⟩ := id hC
  unfold fX0_join_121 at hf
  refine lv_iconst (v := 0) (pc := 121) hx hb dX0_join_121 (by decide) ?_
  exact bX0_join_122 hC hret hlk hU hf hH hS (lv_sub hl [] rfl)
def fX0_join_105 (a0 : Int32) (a1 : Int32) (a2 : Int32)  (s0 : Int32) (st : gS) : Option (Int32 × gS) :=
  (fX0_bit s0 st).bind fun q105_1 => (some (q105_1.1, q105_1.2))
set_option maxRecDepth 100000 in
set_option maxHeartbeats 4000000 in
theorem bX0_join_105 {a0 : Int32} {a1 : Int32} {a2 : Int32} (hC : CallFix p m c cX0_join 3 s args lw_good RX0) (hret : meth.sig.returnType = (some .int)) (hlk : meth.locks = false) (hU : gU 0 D cA ad s)  {r : Int32} {st' : gS}  {s0 : Int32} {st : gS} {H : Heap} {locs : List Loc} {ls : Array Slot} (hf : fX0_join_105 a0 a1 a2 s0 st = some (r, st')) (hH : gP0 0 D cA ad st H) (hS : va_S (gA 0 ad) s.heap H locs) (hl : lv_has ls 3 []) : W p l e (gRm 2) s m args below meth c H locs 0 0 (MQ below (gQc 0 D cA ad st' (some (.int r))) args s 0 0 (gA 0 ad)) (F0 m 105 ls [.int s0]) := by
  obtain ⟨hx, hb, hml, hown, hts⟩ := id hC
  unfold fX0_join_105 at hf
  obtain ⟨q105_1, hq105_1, hf⟩ := gbd hf
  refine g_callSi (pc := 105) (rest := []) hC hU hH hS hl.1 (mX0_bit  hq105_1) ky_X0_bit km_X0_48 ⟨Nat.le_of_ble_eq_true rfl, Nat.le_of_ble_eq_true rfl⟩ ⟨Nat.zero_le _, Nat.zero_le _⟩ rfl (Nat.le_of_ble_eq_true rfl) dX0_join_105 rfl (fun H locs hH hS => ?_)
  exact g_iret (pc := 108) hC hret hlk hH hS hf dX0_join_108
def fX0_join_100 (a0 : Int32) (a1 : Int32) (a2 : Int32)   (st : gS) : Option (Int32 × gS) :=
  fX0_join_105 a0 a1 a2 1 st
set_option maxRecDepth 100000 in
set_option maxHeartbeats 4000000 in
theorem bX0_join_100 {a0 : Int32} {a1 : Int32} {a2 : Int32} (hC : CallFix p m c cX0_join 3 s args lw_good RX0) (hret : meth.sig.returnType = (some .int)) (hlk : meth.locks = false) (hU : gU 0 D cA ad s)  {r : Int32} {st' : gS}   {st : gS} {H : Heap} {locs : List Loc} {ls : Array Slot} (hf : fX0_join_100 a0 a1 a2 st = some (r, st')) (hH : gP0 0 D cA ad st H) (hS : va_S (gA 0 ad) s.heap H locs) (hl : lv_has ls 3 []) : W p l e (gRm 2) s m args below meth c H locs 0 0 (MQ below (gQc 0 D cA ad st' (some (.int r))) args s 0 0 (gA 0 ad)) (F0 m 100 ls []) := by
  obtain ⟨hx, hb, hml, hown, hts⟩ := id hC
  unfold fX0_join_100 at hf
  refine lv_iconst (v := 1) (pc := 100) hx hb dX0_join_100 (by decide) ?_
  refine lv_goto (tgt := 105) (pc := 101) hx hb dX0_join_101 (by decide) ?_
  exact bX0_join_105 hC hret hlk hU hf hH hS (lv_sub hl [] rfl)
def fX0_join (a0 : Int32) (a1 : Int32) (a2 : Int32)   (st : gS) : Option (Int32 × gS) :=
  if a0 = 13 then (if a1 = 0 then (if a2 = 0 then (fX0_join_105 a0 a1 a2 0 st) else (fX0_join_100 a0 a1 a2 st)) else (fX0_join_100 a0 a1 a2 st)) else if a0 = 14 then (if a1 = 0 then (fX0_join_121 a0 a1 a2 st) else (if a2 = 0 then (fX0_join_121 a0 a1 a2 st) else (fX0_join_122 a0 a1 a2 1 st))) else if a0 = 37 then (if a2 = 0 then (some (0, st)) else (gc (¬ a2 = 0) (some (a1 - a1 / a2 * a2, st)))) else if a0 = 42 then (some (a1 * a2, st)) else if a0 = 43 then (some (a1 + a2, st)) else if a0 = 45 then (some (a1 - a2, st)) else if a0 = 47 then (if a2 = 0 then (some (0, st)) else (gc (¬ a2 = 0) (some (a1 / a2, st)))) else if a0 = 60 then (if a2 ≤ a1 then (fX0_join_136 a0 a1 a2 0 st) else (fX0_join_136 a0 a1 a2 1 st)) else if a0 = 61 then (if a1 = a2 then (fX0_join_164 a0 a1 a2 1 st) else (fX0_join_164 a0 a1 a2 0 st)) else if a0 = 62 then (if a1 ≤ a2 then (fX0_join_150 a0 a1 a2 0 st) else (fX0_join_150 a0 a1 a2 1 st)) else (some (0, st))
set_option maxRecDepth 100000 in
set_option maxHeartbeats 4000000 in
theorem bX0_join_0 {a0 : Int32} {a1 : Int32} {a2 : Int32} (hC : CallFix p m c cX0_join 3 s args lw_good RX0) (hret : meth.sig.returnType = (some .int)) (hlk : meth.locks = false) (hU : gU 0 D cA ad s)  {r : Int32} {st' : gS}   {st : gS} {H : Heap} {locs : List Loc} {ls : Array Slot} (hf : fX0_join a0 a1 a2 st = some (r, st')) (hH : gP0 0 D cA ad st H) (hS : va_S (gA 0 ad) s.heap H locs) (hl : lv_has ls 3 [(0, .int a0), (1, .int a1), (2, .int a2)]) : W p l e (gRm 2) s m args below meth c H locs 0 0 (MQ below (gQc 0 D cA ad st' (some (.int r))) args s 0 0 (gA 0 ad)) (F0 m 0 ls []) := by
  obtain ⟨hx, hb, hml, hown, hts⟩ := id hC
  unfold fX0_join at hf
  refine lv_iload_n (pc := 0) hx hb dX0_join_0 rfl (lv_at hl 0 rfl) ?_
  by_cases hw1_13 : a0 = 13
  · have hf := gif_p hw1_13 hf
    refine g_lswI (tgt := 92) (off := 91) (pc := 1) hx hb hw1_13 dX0_join_1 (by decide) (by decide) (by decide) ?_
    refine lv_iload_n (pc := 92) hx hb dX0_join_92 rfl (lv_at hl 1 rfl) ?_
    refine lv_if_ne (tgt := 100) (pc := 93) hx hb dX0_join_93 (by decide) (fun hc => ?_) (fun hc => ?_)
    · have hf := gif_n hc hf
      exact bX0_join_100 hC hret hlk hU hf hH hS (lv_sub hl [] rfl)
    · have hf := gif_p hc hf
      refine lv_iload_n (pc := 96) hx hb dX0_join_96 rfl (lv_at hl 2 rfl) ?_
      refine lv_if_eq (tgt := 104) (pc := 97) hx hb dX0_join_97 (by decide) (fun hc => ?_) (fun hc => ?_)
      · have hf := gif_p hc hf
        refine lv_iconst (v := 0) (pc := 104) hx hb dX0_join_104 (by decide) ?_
        exact bX0_join_105 hC hret hlk hU hf hH hS (lv_sub hl [] rfl)
      · have hf := gif_n hc hf
        exact bX0_join_100 hC hret hlk hU hf hH hS (lv_sub hl [] rfl)
  · have hf := gif_n hw1_13 hf
    by_cases hw1_14 : a0 = 14
    · have hf := gif_p hw1_14 hf
      refine g_lswI (tgt := 109) (off := 108) (pc := 1) hx hb hw1_14 dX0_join_1 (by decide) (by decide) (by decide) ?_
      refine lv_iload_n (pc := 109) hx hb dX0_join_109 rfl (lv_at hl 1 rfl) ?_
      refine lv_if_eq (tgt := 121) (pc := 110) hx hb dX0_join_110 (by decide) (fun hc => ?_) (fun hc => ?_)
      · have hf := gif_p hc hf
        exact bX0_join_121 hC hret hlk hU hf hH hS (lv_sub hl [] rfl)
      · have hf := gif_n hc hf
        refine lv_iload_n (pc := 113) hx hb dX0_join_113 rfl (lv_at hl 2 rfl) ?_
        refine lv_if_eq (tgt := 121) (pc := 114) hx hb dX0_join_114 (by decide) (fun hc => ?_) (fun hc => ?_)
        · have hf := gif_p hc hf
          exact bX0_join_121 hC hret hlk hU hf hH hS (lv_sub hl [] rfl)
        · have hf := gif_n hc hf
          refine lv_iconst (v := 1) (pc := 117) hx hb dX0_join_117 (by decide) ?_
          refine lv_goto (tgt := 122) (pc := 118) hx hb dX0_join_118 (by decide) ?_
          exact bX0_join_122 hC hret hlk hU hf hH hS (lv_sub hl [] rfl)
    · have hf := gif_n hw1_14 hf
      by_cases hw1_37 : a0 = 37
      · have hf := gif_p hw1_37 hf
        refine g_lswI (tgt := 192) (off := 191) (pc := 1) hx hb hw1_37 dX0_join_1 (by decide) (by decide) (by decide) ?_
        refine lv_iload_n (pc := 192) hx hb dX0_join_192 rfl (lv_at hl 2 rfl) ?_
        refine lv_if_ne (tgt := 200) (pc := 193) hx hb dX0_join_193 (by decide) (fun hc => ?_) (fun hc => ?_)
        · have hf := gif_n hc hf
          refine lv_iload_n (pc := 200) hx hb dX0_join_200 rfl (lv_at hl 1 rfl) ?_
          refine lv_iload_n (pc := 201) hx hb dX0_join_201 rfl (lv_at hl 2 rfl) ?_
          obtain ⟨h0_1, hf⟩ := gc_s hf
          refine lv_irem (pc := 202) hx hb dX0_join_202 h0_1 ?_
          exact g_iret (pc := 203) hC hret hlk hH hS hf dX0_join_203
        · have hf := gif_p hc hf
          refine lv_iconst (v := 0) (pc := 196) hx hb dX0_join_196 (by decide) ?_
          refine lv_goto (tgt := 203) (pc := 197) hx hb dX0_join_197 (by decide) ?_
          exact g_iret (pc := 203) hC hret hlk hH hS hf dX0_join_203
      · have hf := gif_n hw1_37 hf
        by_cases hw1_42 : a0 = 42
        · have hf := gif_p hw1_42 hf
          refine g_lswI (tgt := 176) (off := 175) (pc := 1) hx hb hw1_42 dX0_join_1 (by decide) (by decide) (by decide) ?_
          refine lv_iload_n (pc := 176) hx hb dX0_join_176 rfl (lv_at hl 1 rfl) ?_
          refine lv_iload_n (pc := 177) hx hb dX0_join_177 rfl (lv_at hl 2 rfl) ?_
          refine lv_imul (pc := 178) hx hb dX0_join_178 ?_
          exact g_iret (pc := 179) hC hret hlk hH hS hf dX0_join_179
        · have hf := gif_n hw1_42 hf
          by_cases hw1_43 : a0 = 43
          · have hf := gif_p hw1_43 hf
            refine g_lswI (tgt := 168) (off := 167) (pc := 1) hx hb hw1_43 dX0_join_1 (by decide) (by decide) (by decide) ?_
            refine lv_iload_n (pc := 168) hx hb dX0_join_168 rfl (lv_at hl 1 rfl) ?_
            refine lv_iload_n (pc := 169) hx hb dX0_join_169 rfl (lv_at hl 2 rfl) ?_
            refine lv_iadd (pc := 170) hx hb dX0_join_170 ?_
            exact g_iret (pc := 171) hC hret hlk hH hS hf dX0_join_171
          · have hf := gif_n hw1_43 hf
            by_cases hw1_45 : a0 = 45
            · have hf := gif_p hw1_45 hf
              refine g_lswI (tgt := 172) (off := 171) (pc := 1) hx hb hw1_45 dX0_join_1 (by decide) (by decide) (by decide) ?_
              refine lv_iload_n (pc := 172) hx hb dX0_join_172 rfl (lv_at hl 1 rfl) ?_
              refine lv_iload_n (pc := 173) hx hb dX0_join_173 rfl (lv_at hl 2 rfl) ?_
              refine lv_isub (pc := 174) hx hb dX0_join_174 ?_
              exact g_iret (pc := 175) hC hret hlk hH hS hf dX0_join_175
            · have hf := gif_n hw1_45 hf
              by_cases hw1_47 : a0 = 47
              · have hf := gif_p hw1_47 hf
                refine g_lswI (tgt := 180) (off := 179) (pc := 1) hx hb hw1_47 dX0_join_1 (by decide) (by decide) (by decide) ?_
                refine lv_iload_n (pc := 180) hx hb dX0_join_180 rfl (lv_at hl 2 rfl) ?_
                refine lv_if_ne (tgt := 188) (pc := 181) hx hb dX0_join_181 (by decide) (fun hc => ?_) (fun hc => ?_)
                · have hf := gif_n hc hf
                  refine lv_iload_n (pc := 188) hx hb dX0_join_188 rfl (lv_at hl 1 rfl) ?_
                  refine lv_iload_n (pc := 189) hx hb dX0_join_189 rfl (lv_at hl 2 rfl) ?_
                  obtain ⟨h0_2, hf⟩ := gc_s hf
                  refine lv_idiv (pc := 190) hx hb dX0_join_190 h0_2 ?_
                  exact g_iret (pc := 191) hC hret hlk hH hS hf dX0_join_191
                · have hf := gif_p hc hf
                  refine lv_iconst (v := 0) (pc := 184) hx hb dX0_join_184 (by decide) ?_
                  refine lv_goto (tgt := 191) (pc := 185) hx hb dX0_join_185 (by decide) ?_
                  exact g_iret (pc := 191) hC hret hlk hH hS hf dX0_join_191
              · have hf := gif_n hw1_47 hf
                by_cases hw1_60 : a0 = 60
                · have hf := gif_p hw1_60 hf
                  refine g_lswI (tgt := 126) (off := 125) (pc := 1) hx hb hw1_60 dX0_join_1 (by decide) (by decide) (by decide) ?_
                  refine lv_iload_n (pc := 126) hx hb dX0_join_126 rfl (lv_at hl 1 rfl) ?_
                  refine lv_iload_n (pc := 127) hx hb dX0_join_127 rfl (lv_at hl 2 rfl) ?_
                  refine lv_icmp_ge (tgt := 135) (pc := 128) hx hb dX0_join_128 (by decide) (fun hc => ?_) (fun hc => ?_)
                  · have hf := gif_p hc hf
                    refine lv_iconst (v := 0) (pc := 135) hx hb dX0_join_135 (by decide) ?_
                    exact bX0_join_136 hC hret hlk hU hf hH hS (lv_sub hl [] rfl)
                  · have hf := gif_n hc hf
                    refine lv_iconst (v := 1) (pc := 131) hx hb dX0_join_131 (by decide) ?_
                    refine lv_goto (tgt := 136) (pc := 132) hx hb dX0_join_132 (by decide) ?_
                    exact bX0_join_136 hC hret hlk hU hf hH hS (lv_sub hl [] rfl)
                · have hf := gif_n hw1_60 hf
                  by_cases hw1_61 : a0 = 61
                  · have hf := gif_p hw1_61 hf
                    refine g_lswI (tgt := 154) (off := 153) (pc := 1) hx hb hw1_61 dX0_join_1 (by decide) (by decide) (by decide) ?_
                    refine lv_iload_n (pc := 154) hx hb dX0_join_154 rfl (lv_at hl 1 rfl) ?_
                    refine lv_iload_n (pc := 155) hx hb dX0_join_155 rfl (lv_at hl 2 rfl) ?_
                    refine lv_icmp_ne (tgt := 163) (pc := 156) hx hb dX0_join_156 (by decide) (fun hc => ?_) (fun hc => ?_)
                    · have hf := gif_n hc hf
                      refine lv_iconst (v := 0) (pc := 163) hx hb dX0_join_163 (by decide) ?_
                      exact bX0_join_164 hC hret hlk hU hf hH hS (lv_sub hl [] rfl)
                    · have hf := gif_p hc hf
                      refine lv_iconst (v := 1) (pc := 159) hx hb dX0_join_159 (by decide) ?_
                      refine lv_goto (tgt := 164) (pc := 160) hx hb dX0_join_160 (by decide) ?_
                      exact bX0_join_164 hC hret hlk hU hf hH hS (lv_sub hl [] rfl)
                  · have hf := gif_n hw1_61 hf
                    by_cases hw1_62 : a0 = 62
                    · have hf := gif_p hw1_62 hf
                      refine g_lswI (tgt := 140) (off := 139) (pc := 1) hx hb hw1_62 dX0_join_1 (by decide) (by decide) (by decide) ?_
                      refine lv_iload_n (pc := 140) hx hb dX0_join_140 rfl (lv_at hl 1 rfl) ?_
                      refine lv_iload_n (pc := 141) hx hb dX0_join_141 rfl (lv_at hl 2 rfl) ?_
                      refine lv_icmp_le (tgt := 149) (pc := 142) hx hb dX0_join_142 (by decide) (fun hc => ?_) (fun hc => ?_)
                      · have hf := gif_p hc hf
                        refine lv_iconst (v := 0) (pc := 149) hx hb dX0_join_149 (by decide) ?_
                        exact bX0_join_150 hC hret hlk hU hf hH hS (lv_sub hl [] rfl)
                      · have hf := gif_n hc hf
                        refine lv_iconst (v := 1) (pc := 145) hx hb dX0_join_145 (by decide) ?_
                        refine lv_goto (tgt := 150) (pc := 146) hx hb dX0_join_146 (by decide) ?_
                        exact bX0_join_150 hC hret hlk hU hf hH hS (lv_sub hl [] rfl)
                    · have hf := gif_n hw1_62 hf
                      refine g_lswO (tgt := 204) (pc := 1) hx hb dX0_join_1 (by decide) (by show Op.lookupswitch.offset [(13, 91), (14, 108), (37, 191), (42, 175), (43, 167), (45, 171), (47, 179), (60, 125), (61, 153), (62, 139)] (203) _ = (203); rw [lv_osw hw1_13 (by decide), lv_osw hw1_14 (by decide), lv_osw hw1_37 (by decide), lv_osw hw1_42 (by decide), lv_osw hw1_43 (by decide), lv_osw hw1_45 (by decide), lv_osw hw1_47 (by decide), lv_osw hw1_60 (by decide), lv_osw hw1_61 (by decide), lv_osw hw1_62 (by decide)]; rfl) (by decide) ?_
                      refine lv_iconst (v := 0) (pc := 204) hx hb dX0_join_204 (by decide) ?_
                      exact g_iret (pc := 205) hC hret hlk hH hS hf dX0_join_205
set_option maxRecDepth 100000 in
set_option maxHeartbeats 4000000 in
theorem mX0_join {l : Launch} {D : va_G} {cA : Nat → ClassId} {ad : Nat → Nat} {a0 : Int32} {a1 : Int32} {a2 : Int32}  {r : Int32} {st st' : gS} (hf : fX0_join a0 a1 a2 st = some (r, st')) : gM l yX0_join cX0_join 3 (some .int) 2 0 D cA ad st [.int a0, .int a1, .int a2] (some (.int r)) st' := by
  refine g_met (by decide) (Nat.le_of_ble_eq_true rfl) ?_
  intro p e s m args below meth c ls hC hret hlk hU hH hl
  exact bX0_join_0 hC hret hlk hU hf hH va_S.rf hl
def fX0_pushJoined (t : Nat) (a1 : Int32)   (st : gS) : Option (gS) :=
  (fX0_pop t st).bind fun q0_1 => ((fX0_pop t q0_1.2).bind fun q0_2 => ((fX0_join a1 q0_2.1 q0_1.1 q0_2.2).bind fun q0_3 => ((fX0_push t q0_3.1 q0_3.2).bind fun q0_4 => (some q0_4))))
set_option maxRecDepth 100000 in
set_option maxHeartbeats 4000000 in
theorem bX0_pushJoined_0 {t : Nat} {a1 : Int32} (hC : CallFix p m c cX0_pushJoined 4 s args lw_good RX0) (hret : meth.sig.returnType = none) (hlk : meth.locks = false) (hU : gU 0 D cA ad s) (ht : gK 0 t = 0) {st' : gS}   {st : gS} {H : Heap} {locs : List Loc} {ls : Array Slot} (hf : fX0_pushJoined t a1 st = some st') (hH : gP0 0 D cA ad st H) (hS : va_S (gA 0 ad) s.heap H locs) (hl : lv_has ls 4 [(0, .ref (ad t)), (1, .int a1)]) : W p l e (gRm 3) s m args below meth c H locs 0 0 (MQ below (gQc 0 D cA ad st' none) args s 0 0 (gA 0 ad)) (F0 m 0 ls []) := by
  obtain ⟨hx, hb, hml, hown, hts⟩ := id hC
  unfold fX0_pushJoined at hf
  refine lv_aload_n (pc := 0) hx hb dX0_pushJoined_0 rfl (lv_at hl 0 rfl) ?_
  obtain ⟨q0_1, hq0_1, hf⟩ := gbd hf
  refine g_callVi (pc := 1) (rest := []) hC hU hH hS hl.1 ht rfl (by decide) (mX0_pop ht hq0_1) ky_X0_pop km_X0_44 ⟨Nat.le_of_ble_eq_true rfl, Nat.le_of_ble_eq_true rfl⟩ ⟨Nat.zero_le _, Nat.zero_le _⟩ rfl (Nat.le_of_ble_eq_true rfl) dX0_pushJoined_1 rfl (fun H locs hH hS => ?_)
  refine lv_istore_n (lv' := [(2, .int q0_1.1), (0, .ref (ad t)), (1, .int a1)]) (pc := 4) hx hb dX0_pushJoined_4 rfl hl (by decide) rfl (fun ls hl => ?_)
  refine lv_aload_n (pc := 5) hx hb dX0_pushJoined_5 rfl (lv_at hl 1 rfl) ?_
  obtain ⟨q0_2, hq0_2, hf⟩ := gbd hf
  refine g_callVi (pc := 6) (rest := []) hC hU hH hS hl.1 ht rfl (by decide) (mX0_pop ht hq0_2) ky_X0_pop km_X0_44 ⟨Nat.le_of_ble_eq_true rfl, Nat.le_of_ble_eq_true rfl⟩ ⟨Nat.zero_le _, Nat.zero_le _⟩ rfl (Nat.le_of_ble_eq_true rfl) dX0_pushJoined_6 rfl (fun H locs hH hS => ?_)
  refine lv_istore_n (lv' := [(3, .int q0_2.1), (2, .int q0_1.1), (0, .ref (ad t)), (1, .int a1)]) (pc := 9) hx hb dX0_pushJoined_9 rfl hl (by decide) rfl (fun ls hl => ?_)
  refine lv_aload_n (pc := 10) hx hb dX0_pushJoined_10 rfl (lv_at hl 2 rfl) ?_
  refine lv_iload_n (pc := 11) hx hb dX0_pushJoined_11 rfl (lv_at hl 3 rfl) ?_
  refine lv_iload_n (pc := 12) hx hb dX0_pushJoined_12 rfl (lv_at hl 0 rfl) ?_
  refine lv_iload_n (pc := 13) hx hb dX0_pushJoined_13 rfl (lv_at hl 1 rfl) ?_
  obtain ⟨q0_3, hq0_3, hf⟩ := gbd hf
  refine g_callSi (pc := 14) (rest := [.ref (ad t)]) hC hU hH hS hl.1 (mX0_join  hq0_3) ky_X0_join km_X0_55 ⟨Nat.le_of_ble_eq_true rfl, Nat.le_of_ble_eq_true rfl⟩ ⟨Nat.zero_le _, Nat.zero_le _⟩ rfl (Nat.le_of_ble_eq_true rfl) dX0_pushJoined_14 rfl (fun H locs hH hS => ?_)
  obtain ⟨q0_4, hq0_4, hf⟩ := gbd hf
  refine g_callVv (pc := 17) (rest := []) hC hU hH hS hl.1 ht rfl (by decide) (mX0_push ht hq0_4) ky_X0_push km_X0_30 ⟨Nat.le_of_ble_eq_true rfl, Nat.le_of_ble_eq_true rfl⟩ ⟨Nat.zero_le _, Nat.zero_le _⟩ rfl (Nat.le_of_ble_eq_true rfl) dX0_pushJoined_17 rfl (fun H locs hH hS => ?_)
  exact g_vret (pc := 20) hC hret hlk hH hS hf dX0_pushJoined_20
set_option maxRecDepth 100000 in
set_option maxHeartbeats 4000000 in
theorem mX0_pushJoined {l : Launch} {D : va_G} {cA : Nat → ClassId} {ad : Nat → Nat} {t : Nat} {a1 : Int32} (ht : gK 0 t = 0) {st st' : gS} (hf : fX0_pushJoined t a1 st = some st') : gM l yX0_pushJoined cX0_pushJoined 4 none 3 0 D cA ad st [.ref (ad t), .int a1] none st' := by
  refine g_met (by decide) (Nat.le_of_ble_eq_true rfl) ?_
  intro p e s m args below meth c ls hC hret hlk hU hH hl
  exact bX0_pushJoined_0 hC hret hlk hU ht hf hH va_S.rf hl
def fX0_value_221 (t : Nat) (a1 : Int32) (a2 : Int32) (r3 : Nat)   (st : gS) : Option (Int32 × gS) :=
  (fX0_pop t st).bind fun q221_1 => (some (q221_1.1, q221_1.2))
set_option maxRecDepth 100000 in
set_option maxHeartbeats 4000000 in
theorem bX0_value_221 {t : Nat} {a1 : Int32} {a2 : Int32} {r3 : Nat} (hC : CallFix p m c cX0_value 6 s args lw_good RX0) (hret : meth.sig.returnType = (some .int)) (hlk : meth.locks = false) (hU : gU 0 D cA ad s) (ht : gK 0 t = 0) (hr3 : gK 0 r3 = 5) {r : Int32} {st' : gS}   {st : gS} {H : Heap} {locs : List Loc} {ls : Array Slot} (hf : fX0_value_221 t a1 a2 r3 st = some (r, st')) (hH : gP0 0 D cA ad st H) (hS : va_S (gA 0 ad) s.heap H locs) (hl : lv_has ls 6 [(0, .ref (ad t))]) : W p l e (gRm 4) s m args below meth c H locs 0 0 (MQ below (gQc 0 D cA ad st' (some (.int r))) args s 0 0 (gA 0 ad)) (F0 m 221 ls []) := by
  obtain ⟨hx, hb, hml, hown, hts⟩ := id hC
  unfold fX0_value_221 at hf
  refine lv_aload_n (pc := 221) hx hb dX0_value_221 rfl (lv_at hl 0 rfl) ?_
  obtain ⟨q221_1, hq221_1, hf⟩ := gbd hf
  refine g_callVi (pc := 222) (rest := []) hC hU hH hS hl.1 ht rfl (by decide) (mX0_pop ht hq221_1) ky_X0_pop km_X0_44 ⟨Nat.le_of_ble_eq_true rfl, Nat.le_of_ble_eq_true rfl⟩ ⟨Nat.zero_le _, Nat.zero_le _⟩ rfl (Nat.le_of_ble_eq_true rfl) dX0_value_222 rfl (fun H locs hH hS => ?_)
  exact g_iret (pc := 225) hC hret hlk hH hS hf dX0_value_225
def fX0_value_207 (t : Nat) (a1 : Int32) (a2 : Int32) (r3 : Nat) (k8 : Int32 → gS → Option (Int32 × gS)) (l4 : Int32) (l5 : Int32) (st : gS) : Option (Int32 × gS) :=
  (fX0_pushJoined t (l5 ^^^ (-1)) st).bind fun q207_1 => (k8 (l4 + 1) q207_1)
set_option maxRecDepth 100000 in
set_option maxHeartbeats 4000000 in
theorem bX0_value_207 {t : Nat} {a1 : Int32} {a2 : Int32} {r3 : Nat} (hC : CallFix p m c cX0_value 6 s args lw_good RX0) (hret : meth.sig.returnType = (some .int)) (hlk : meth.locks = false) (hU : gU 0 D cA ad s) (ht : gK 0 t = 0) (hr3 : gK 0 r3 = 5) {r : Int32} {st' : gS} {k8 : Int32 → gS → Option (Int32 × gS)} (hk8 : ∀ {l4 : Int32} {st : gS} {H : Heap} {locs : List Loc} {ls : Array Slot}, k8 l4 st = some (r, st') → gP0 0 D cA ad st H → va_S (gA 0 ad) s.heap H locs → lv_has ls 6 [(0, .ref (ad t)), (1, .int a1), (2, .int a2), (3, .ref (ad r3)), (4, .int l4)] → W p l e (gRm 4) s m args below meth c H locs 0 0 (MQ below (gQc 0 D cA ad st' (some (.int r))) args s 0 0 (gA 0 ad)) (F0 m 8 ls [])) {l4 : Int32} {l5 : Int32} {st : gS} {H : Heap} {locs : List Loc} {ls : Array Slot} (hf : fX0_value_207 t a1 a2 r3 k8 l4 l5 st = some (r, st')) (hH : gP0 0 D cA ad st H) (hS : va_S (gA 0 ad) s.heap H locs) (hl : lv_has ls 6 [(0, .ref (ad t)), (1, .int a1), (2, .int a2), (3, .ref (ad r3)), (4, .int l4), (5, .int l5)]) : W p l e (gRm 4) s m args below meth c H locs 0 0 (MQ below (gQc 0 D cA ad st' (some (.int r))) args s 0 0 (gA 0 ad)) (F0 m 207 ls []) := by
  obtain ⟨hx, hb, hml, hown, hts⟩ := id hC
  unfold fX0_value_207 at hf
  refine lv_aload_n (pc := 207) hx hb dX0_value_207 rfl (lv_at hl 0 rfl) ?_
  refine lv_iload (pc := 208) hx hb dX0_value_208 (lv_at hl 5 rfl) ?_
  refine lv_iconst (v := (-1)) (pc := 210) hx hb dX0_value_210 (by decide) ?_
  refine lv_ixor (pc := 211) hx hb dX0_value_211 ?_
  obtain ⟨q207_1, hq207_1, hf⟩ := gbd hf
  refine g_callVv (pc := 212) (rest := []) hC hU hH hS hl.1 ht rfl (by decide) (mX0_pushJoined ht hq207_1) ky_X0_pushJoined km_X0_52 ⟨Nat.le_of_ble_eq_true rfl, Nat.le_of_ble_eq_true rfl⟩ ⟨Nat.zero_le _, Nat.zero_le _⟩ rfl (Nat.le_of_ble_eq_true rfl) dX0_value_212 rfl (fun H locs hH hS => ?_)
  refine lv_iinc (v := l4 + 1) (lv' := [(4, .int (l4 + 1)), (0, .ref (ad t)), (1, .int a1), (2, .int a2), (3, .ref (ad r3)), (5, .int l5)]) (k := 4) (pc := 215) hx hb dX0_value_215 hl rfl rfl (by decide) rfl (fun ls hl => ?_)
  refine lv_goto (tgt := 8) (pc := 218) hx hb dX0_value_218 (by decide) ?_
  exact hk8 hf hH hS (lv_sub hl [1, 2, 3, 4, 0] rfl)
def fX0_value_198 (t : Nat) (a1 : Int32) (a2 : Int32) (r3 : Nat) (k8 : Int32 → gS → Option (Int32 × gS)) (l4 : Int32) (s0 : Int32) (st : gS) : Option (Int32 × gS) :=
  (fX0_bit s0 st).bind fun q198_1 => ((fX0_push t q198_1.1 q198_1.2).bind fun q198_2 => (k8 (l4 + 1) q198_2))
set_option maxRecDepth 100000 in
set_option maxHeartbeats 4000000 in
theorem bX0_value_198 {t : Nat} {a1 : Int32} {a2 : Int32} {r3 : Nat} (hC : CallFix p m c cX0_value 6 s args lw_good RX0) (hret : meth.sig.returnType = (some .int)) (hlk : meth.locks = false) (hU : gU 0 D cA ad s) (ht : gK 0 t = 0) (hr3 : gK 0 r3 = 5) {r : Int32} {st' : gS} {k8 : Int32 → gS → Option (Int32 × gS)} (hk8 : ∀ {l4 : Int32} {st : gS} {H : Heap} {locs : List Loc} {ls : Array Slot}, k8 l4 st = some (r, st') → gP0 0 D cA ad st H → va_S (gA 0 ad) s.heap H locs → lv_has ls 6 [(0, .ref (ad t)), (1, .int a1), (2, .int a2), (3, .ref (ad r3)), (4, .int l4)] → W p l e (gRm 4) s m args below meth c H locs 0 0 (MQ below (gQc 0 D cA ad st' (some (.int r))) args s 0 0 (gA 0 ad)) (F0 m 8 ls [])) {l4 : Int32} {s0 : Int32} {st : gS} {H : Heap} {locs : List Loc} {ls : Array Slot} (hf : fX0_value_198 t a1 a2 r3 k8 l4 s0 st = some (r, st')) (hH : gP0 0 D cA ad st H) (hS : va_S (gA 0 ad) s.heap H locs) (hl : lv_has ls 6 [(0, .ref (ad t)), (1, .int a1), (2, .int a2), (3, .ref (ad r3)), (4, .int l4)]) : W p l e (gRm 4) s m args below meth c H locs 0 0 (MQ below (gQc 0 D cA ad st' (some (.int r))) args s 0 0 (gA 0 ad)) (F0 m 198 ls [.int s0, .ref (ad t)]) := by
  obtain ⟨hx, hb, hml, hown, hts⟩ := id hC
  unfold fX0_value_198 at hf
  obtain ⟨q198_1, hq198_1, hf⟩ := gbd hf
  refine g_callSi (pc := 198) (rest := [.ref (ad t)]) hC hU hH hS hl.1 (mX0_bit  hq198_1) ky_X0_bit km_X0_48 ⟨Nat.le_of_ble_eq_true rfl, Nat.le_of_ble_eq_true rfl⟩ ⟨Nat.zero_le _, Nat.zero_le _⟩ rfl (Nat.le_of_ble_eq_true rfl) dX0_value_198 rfl (fun H locs hH hS => ?_)
  obtain ⟨q198_2, hq198_2, hf⟩ := gbd hf
  refine g_callVv (pc := 201) (rest := []) hC hU hH hS hl.1 ht rfl (by decide) (mX0_push ht hq198_2) ky_X0_push km_X0_30 ⟨Nat.le_of_ble_eq_true rfl, Nat.le_of_ble_eq_true rfl⟩ ⟨Nat.zero_le _, Nat.zero_le _⟩ rfl (Nat.le_of_ble_eq_true rfl) dX0_value_201 rfl (fun H locs hH hS => ?_)
  refine lv_goto (tgt := 215) (pc := 204) hx hb dX0_value_204 (by decide) ?_
  refine lv_iinc (v := l4 + 1) (lv' := [(4, .int (l4 + 1)), (0, .ref (ad t)), (1, .int a1), (2, .int a2), (3, .ref (ad r3))]) (k := 4) (pc := 215) hx hb dX0_value_215 hl rfl rfl (by decide) rfl (fun ls hl => ?_)
  refine lv_goto (tgt := 8) (pc := 218) hx hb dX0_value_218 (by decide) ?_
  exact hk8 hf hH hS (lv_sub hl [1, 2, 3, 4, 0] rfl)
def fX0_value_8 (t : Nat) (a1 : Int32) (a2 : Int32) (r3 : Nat) (k8 : Int32 → gS → Option (Int32 × gS)) (l4 : Int32) (st : gS) : Option (Int32 × gS) :=
  if (st.1 t 2) ≤ l4 then (fX0_value_221 t a1 a2 r3 st) else (if 272 ≤ l4 then (fX0_value_221 t a1 a2 r3 st) else (gc (gI l4 272) (gl (st.1 (t + 1 + 0) l4.toNatClampNeg) fun x32 => (if x32 < 0 then (if (x32 ^^^ (-1)) = 2 then ((fX0_push t a2 st).bind fun q8_1 => (k8 (l4 + 1) q8_1)) else if (x32 ^^^ (-1)) = 7 then ((fX0_push t a1 st).bind fun q8_2 => (k8 (l4 + 1) q8_2)) else if (x32 ^^^ (-1)) = 15 then ((fX0_pop t st).bind fun q8_3 => (if q8_3.1 = 0 then (fX0_value_198 t a1 a2 r3 k8 l4 1 q8_3.2) else (fX0_value_198 t a1 a2 r3 k8 l4 0 q8_3.2))) else if (x32 ^^^ (-1)) = 16 then ((fX0_push t (st.1 r3 4) st).bind fun q8_4 => (k8 (l4 + 1) q8_4)) else if (x32 ^^^ (-1)) = 17 then ((fX0_push t (st.1 r3 5) st).bind fun q8_5 => (k8 (l4 + 1) q8_5)) else if (x32 ^^^ (-1)) = 18 then ((fX0_push t (st.1 r3 8) st).bind fun q8_6 => (k8 (l4 + 1) q8_6)) else (fX0_value_207 t a1 a2 r3 k8 l4 x32 st)) else ((fX0_push t x32 st).bind fun q8_7 => (k8 (l4 + 1) q8_7))))))
set_option maxRecDepth 100000 in
set_option maxHeartbeats 4000000 in
theorem bX0_value_8 {t : Nat} {a1 : Int32} {a2 : Int32} {r3 : Nat} (hC : CallFix p m c cX0_value 6 s args lw_good RX0) (hret : meth.sig.returnType = (some .int)) (hlk : meth.locks = false) (hU : gU 0 D cA ad s) (ht : gK 0 t = 0) (hr3 : gK 0 r3 = 5) {r : Int32} {st' : gS} {k8 : Int32 → gS → Option (Int32 × gS)} (hk8 : ∀ {l4 : Int32} {st : gS} {H : Heap} {locs : List Loc} {ls : Array Slot}, k8 l4 st = some (r, st') → gP0 0 D cA ad st H → va_S (gA 0 ad) s.heap H locs → lv_has ls 6 [(0, .ref (ad t)), (1, .int a1), (2, .int a2), (3, .ref (ad r3)), (4, .int l4)] → W p l e (gRm 4) s m args below meth c H locs 0 0 (MQ below (gQc 0 D cA ad st' (some (.int r))) args s 0 0 (gA 0 ad)) (F0 m 8 ls [])) {l4 : Int32} {st : gS} {H : Heap} {locs : List Loc} {ls : Array Slot} (hf : fX0_value_8 t a1 a2 r3 k8 l4 st = some (r, st')) (hH : gP0 0 D cA ad st H) (hS : va_S (gA 0 ad) s.heap H locs) (hl : lv_has ls 6 [(0, .ref (ad t)), (1, .int a1), (2, .int a2), (3, .ref (ad r3)), (4, .int l4)]) : W p l e (gRm 4) s m args below meth c H locs 0 0 (MQ below (gQc 0 D cA ad st' (some (.int r))) args s 0 0 (gA 0 ad)) (F0 m 8 ls []) := by
  obtain ⟨hx, hb, hml, hown, hts⟩ := id hC
  unfold fX0_value_8 at hf
  refine lv_iload (pc := 8) hx hb dX0_value_8 (lv_at hl 4 rfl) ?_
  refine lv_aload_n (pc := 10) hx hb dX0_value_10 rfl (lv_at hl 0 rfl) ?_
  refine g_get (pc := 11) (v := .int (st.1 t 2)) hC hU hH ht g_cl0 2 (by decide) kf_X0_16 rfl dX0_value_11 ?_
  refine lv_icmp_ge (tgt := 221) (pc := 14) hx hb dX0_value_14 (by decide) (fun hc => ?_) (fun hc => ?_)
  · have hf := gif_p hc hf
    exact bX0_value_221 hC hret hlk hU ht hr3 hf hH hS (lv_sub hl [0] rfl)
  · have hf := gif_n hc hf
    refine lv_iload (pc := 17) hx hb dX0_value_17 (lv_at hl 4 rfl) ?_
    refine lv_sipush (v := 272) (pc := 19) hx hb dX0_value_19 (by decide) ?_
    refine lv_icmp_ge (tgt := 221) (pc := 22) hx hb dX0_value_22 (by decide) (fun hc => ?_) (fun hc => ?_)
    · have hf := gif_p hc hf
      exact bX0_value_221 hC hret hlk hU ht hr3 hf hH hS (lv_sub hl [0] rfl)
    · have hf := gif_n hc hf
      refine lv_aload_n (pc := 25) hx hb dX0_value_25 rfl (lv_at hl 0 rfl) ?_
      refine g_get (pc := 26) (v := .ref (ad (t + 1 + 0))) hC hU hH ht g_cl0 0 (by decide) kf_X0_9 rfl dX0_value_26 ?_
      refine lv_iload (pc := 29) hx hb dX0_value_29 (lv_at hl 4 rfl) ?_
      obtain ⟨h8_1, hf⟩ := gc_s hf
      refine g_iald (pc := 31) hC hU hH (gk_0_0 ht) (gn_0_0 ht) h8_1 dX0_value_31 ?_
      refine lv_topi (pc := 32) (fun x32 ex32 => ?_)
      have hf := gl_s ex32 hf
      refine lv_istore (lv' := [(5, .int x32), (0, .ref (ad t)), (1, .int a1), (2, .int a2), (3, .ref (ad r3)), (4, .int l4)]) (pc := 32) hx hb dX0_value_32 hl (by decide) rfl (fun ls hl => ?_)
      refine lv_iload (pc := 34) hx hb dX0_value_34 (lv_at hl 0 rfl) ?_
      refine lv_if_lt (tgt := 48) (pc := 36) hx hb dX0_value_36 (by decide) (fun hc => ?_) (fun hc => ?_)
      · have hf := gif_p hc hf
        refine lv_iload (pc := 48) hx hb dX0_value_48 (lv_at hl 0 rfl) ?_
        refine lv_iconst (v := (-1)) (pc := 50) hx hb dX0_value_50 (by decide) ?_
        refine lv_ixor (pc := 51) hx hb dX0_value_51 ?_
        by_cases hw52_2 : (x32 ^^^ (-1)) = 2
        · have hf := gif_p hw52_2 hf
          refine g_tswI (tgt := 144) (off := 92) (pc := 52) hx hb hw52_2 dX0_value_52 (by decide) (by decide) (by decide) (by decide) ?_
          refine lv_aload_n (pc := 144) hx hb dX0_value_144 rfl (lv_at hl 1 rfl) ?_
          refine lv_iload_n (pc := 145) hx hb dX0_value_145 rfl (lv_at hl 3 rfl) ?_
          obtain ⟨q8_1, hq8_1, hf⟩ := gbd hf
          refine g_callVv (pc := 146) (rest := []) hC hU hH hS hl.1 ht rfl (by decide) (mX0_push ht hq8_1) ky_X0_push km_X0_30 ⟨Nat.le_of_ble_eq_true rfl, Nat.le_of_ble_eq_true rfl⟩ ⟨Nat.zero_le _, Nat.zero_le _⟩ rfl (Nat.le_of_ble_eq_true rfl) dX0_value_146 rfl (fun H locs hH hS => ?_)
          refine lv_goto (tgt := 215) (pc := 149) hx hb dX0_value_149 (by decide) ?_
          refine lv_iinc (v := l4 + 1) (lv' := [(4, .int (l4 + 1)), (5, .int x32), (0, .ref (ad t)), (1, .int a1), (2, .int a2), (3, .ref (ad r3))]) (k := 5) (pc := 215) hx hb dX0_value_215 hl rfl rfl (by decide) rfl (fun ls hl => ?_)
          refine lv_goto (tgt := 8) (pc := 218) hx hb dX0_value_218 (by decide) ?_
          exact hk8 hf hH hS (lv_sub hl [2, 3, 4, 5, 0] rfl)
        · have hf := gif_n hw52_2 hf
          by_cases hw52_7 : (x32 ^^^ (-1)) = 7
          · have hf := gif_p hw52_7 hf
            refine g_tswI (tgt := 136) (off := 84) (pc := 52) hx hb hw52_7 dX0_value_52 (by decide) (by decide) (by decide) (by decide) ?_
            refine lv_aload_n (pc := 136) hx hb dX0_value_136 rfl (lv_at hl 1 rfl) ?_
            refine lv_iload_n (pc := 137) hx hb dX0_value_137 rfl (lv_at hl 2 rfl) ?_
            obtain ⟨q8_2, hq8_2, hf⟩ := gbd hf
            refine g_callVv (pc := 138) (rest := []) hC hU hH hS hl.1 ht rfl (by decide) (mX0_push ht hq8_2) ky_X0_push km_X0_30 ⟨Nat.le_of_ble_eq_true rfl, Nat.le_of_ble_eq_true rfl⟩ ⟨Nat.zero_le _, Nat.zero_le _⟩ rfl (Nat.le_of_ble_eq_true rfl) dX0_value_138 rfl (fun H locs hH hS => ?_)
            refine lv_goto (tgt := 215) (pc := 141) hx hb dX0_value_141 (by decide) ?_
            refine lv_iinc (v := l4 + 1) (lv' := [(4, .int (l4 + 1)), (5, .int x32), (0, .ref (ad t)), (1, .int a1), (2, .int a2), (3, .ref (ad r3))]) (k := 5) (pc := 215) hx hb dX0_value_215 hl rfl rfl (by decide) rfl (fun ls hl => ?_)
            refine lv_goto (tgt := 8) (pc := 218) hx hb dX0_value_218 (by decide) ?_
            exact hk8 hf hH hS (lv_sub hl [2, 3, 4, 5, 0] rfl)
          · have hf := gif_n hw52_7 hf
            by_cases hw52_15 : (x32 ^^^ (-1)) = 15
            · have hf := gif_p hw52_15 hf
              refine g_tswI (tgt := 185) (off := 133) (pc := 52) hx hb hw52_15 dX0_value_52 (by decide) (by decide) (by decide) (by decide) ?_
              refine lv_aload_n (pc := 185) hx hb dX0_value_185 rfl (lv_at hl 1 rfl) ?_
              refine lv_aload_n (pc := 186) hx hb dX0_value_186 rfl (lv_at hl 1 rfl) ?_
              obtain ⟨q8_3, hq8_3, hf⟩ := gbd hf
              refine g_callVi (pc := 187) (rest := [.ref (ad t)]) hC hU hH hS hl.1 ht rfl (by decide) (mX0_pop ht hq8_3) ky_X0_pop km_X0_44 ⟨Nat.le_of_ble_eq_true rfl, Nat.le_of_ble_eq_true rfl⟩ ⟨Nat.zero_le _, Nat.zero_le _⟩ rfl (Nat.le_of_ble_eq_true rfl) dX0_value_187 rfl (fun H locs hH hS => ?_)
              refine lv_if_ne (tgt := 197) (pc := 190) hx hb dX0_value_190 (by decide) (fun hc => ?_) (fun hc => ?_)
              · have hf := gif_n hc hf
                refine lv_iconst (v := 0) (pc := 197) hx hb dX0_value_197 (by decide) ?_
                exact bX0_value_198 hC hret hlk hU ht hr3 hk8 hf hH hS (lv_sub hl [1, 2, 3, 4, 5] rfl)
              · have hf := gif_p hc hf
                refine lv_iconst (v := 1) (pc := 193) hx hb dX0_value_193 (by decide) ?_
                refine lv_goto (tgt := 198) (pc := 194) hx hb dX0_value_194 (by decide) ?_
                exact bX0_value_198 hC hret hlk hU ht hr3 hk8 hf hH hS (lv_sub hl [1, 2, 3, 4, 5] rfl)
            · have hf := gif_n hw52_15 hf
              by_cases hw52_16 : (x32 ^^^ (-1)) = 16
              · have hf := gif_p hw52_16 hf
                refine g_tswI (tgt := 152) (off := 100) (pc := 52) hx hb hw52_16 dX0_value_52 (by decide) (by decide) (by decide) (by decide) ?_
                refine lv_aload_n (pc := 152) hx hb dX0_value_152 rfl (lv_at hl 1 rfl) ?_
                refine lv_aload_n (pc := 153) hx hb dX0_value_153 rfl (lv_at hl 4 rfl) ?_
                refine g_get (pc := 154) (v := .int (st.1 r3 4)) hC hU hH hr3 g_cl5 4 (by decide) kf_X0_33 rfl dX0_value_154 ?_
                obtain ⟨q8_4, hq8_4, hf⟩ := gbd hf
                refine g_callVv (pc := 157) (rest := []) hC hU hH hS hl.1 ht rfl (by decide) (mX0_push ht hq8_4) ky_X0_push km_X0_30 ⟨Nat.le_of_ble_eq_true rfl, Nat.le_of_ble_eq_true rfl⟩ ⟨Nat.zero_le _, Nat.zero_le _⟩ rfl (Nat.le_of_ble_eq_true rfl) dX0_value_157 rfl (fun H locs hH hS => ?_)
                refine lv_goto (tgt := 215) (pc := 160) hx hb dX0_value_160 (by decide) ?_
                refine lv_iinc (v := l4 + 1) (lv' := [(4, .int (l4 + 1)), (5, .int x32), (0, .ref (ad t)), (1, .int a1), (2, .int a2), (3, .ref (ad r3))]) (k := 5) (pc := 215) hx hb dX0_value_215 hl rfl rfl (by decide) rfl (fun ls hl => ?_)
                refine lv_goto (tgt := 8) (pc := 218) hx hb dX0_value_218 (by decide) ?_
                exact hk8 hf hH hS (lv_sub hl [2, 3, 4, 5, 0] rfl)
              · have hf := gif_n hw52_16 hf
                by_cases hw52_17 : (x32 ^^^ (-1)) = 17
                · have hf := gif_p hw52_17 hf
                  refine g_tswI (tgt := 163) (off := 111) (pc := 52) hx hb hw52_17 dX0_value_52 (by decide) (by decide) (by decide) (by decide) ?_
                  refine lv_aload_n (pc := 163) hx hb dX0_value_163 rfl (lv_at hl 1 rfl) ?_
                  refine lv_aload_n (pc := 164) hx hb dX0_value_164 rfl (lv_at hl 4 rfl) ?_
                  refine g_get (pc := 165) (v := .int (st.1 r3 5)) hC hU hH hr3 g_cl5 5 (by decide) kf_X0_38 rfl dX0_value_165 ?_
                  obtain ⟨q8_5, hq8_5, hf⟩ := gbd hf
                  refine g_callVv (pc := 168) (rest := []) hC hU hH hS hl.1 ht rfl (by decide) (mX0_push ht hq8_5) ky_X0_push km_X0_30 ⟨Nat.le_of_ble_eq_true rfl, Nat.le_of_ble_eq_true rfl⟩ ⟨Nat.zero_le _, Nat.zero_le _⟩ rfl (Nat.le_of_ble_eq_true rfl) dX0_value_168 rfl (fun H locs hH hS => ?_)
                  refine lv_goto (tgt := 215) (pc := 171) hx hb dX0_value_171 (by decide) ?_
                  refine lv_iinc (v := l4 + 1) (lv' := [(4, .int (l4 + 1)), (5, .int x32), (0, .ref (ad t)), (1, .int a1), (2, .int a2), (3, .ref (ad r3))]) (k := 5) (pc := 215) hx hb dX0_value_215 hl rfl rfl (by decide) rfl (fun ls hl => ?_)
                  refine lv_goto (tgt := 8) (pc := 218) hx hb dX0_value_218 (by decide) ?_
                  exact hk8 hf hH hS (lv_sub hl [2, 3, 4, 5, 0] rfl)
                · have hf := gif_n hw52_17 hf
                  by_cases hw52_18 : (x32 ^^^ (-1)) = 18
                  · have hf := gif_p hw52_18 hf
                    refine g_tswI (tgt := 174) (off := 122) (pc := 52) hx hb hw52_18 dX0_value_52 (by decide) (by decide) (by decide) (by decide) ?_
                    refine lv_aload_n (pc := 174) hx hb dX0_value_174 rfl (lv_at hl 1 rfl) ?_
                    refine lv_aload_n (pc := 175) hx hb dX0_value_175 rfl (lv_at hl 4 rfl) ?_
                    refine g_get (pc := 176) (v := .int (st.1 r3 8)) hC hU hH hr3 g_cl5 8 (by decide) kf_X0_41 rfl dX0_value_176 ?_
                    obtain ⟨q8_6, hq8_6, hf⟩ := gbd hf
                    refine g_callVv (pc := 179) (rest := []) hC hU hH hS hl.1 ht rfl (by decide) (mX0_push ht hq8_6) ky_X0_push km_X0_30 ⟨Nat.le_of_ble_eq_true rfl, Nat.le_of_ble_eq_true rfl⟩ ⟨Nat.zero_le _, Nat.zero_le _⟩ rfl (Nat.le_of_ble_eq_true rfl) dX0_value_179 rfl (fun H locs hH hS => ?_)
                    refine lv_goto (tgt := 215) (pc := 182) hx hb dX0_value_182 (by decide) ?_
                    refine lv_iinc (v := l4 + 1) (lv' := [(4, .int (l4 + 1)), (5, .int x32), (0, .ref (ad t)), (1, .int a1), (2, .int a2), (3, .ref (ad r3))]) (k := 5) (pc := 215) hx hb dX0_value_215 hl rfl rfl (by decide) rfl (fun ls hl => ?_)
                    refine lv_goto (tgt := 8) (pc := 218) hx hb dX0_value_218 (by decide) ?_
                    exact hk8 hf hH hS (lv_sub hl [2, 3, 4, 5, 0] rfl)
                  · have hf := gif_n hw52_18 hf
                    refine g_tswD (tgt := 207) (n := 17) (pc := 52) hx hb dX0_value_52 (by intro j hj hne; match j, hj with | 0, _ => exact absurd hne hw52_2 | 1, _ => rfl | 2, _ => rfl | 3, _ => rfl | 4, _ => rfl | 5, _ => exact absurd hne hw52_7 | 6, _ => rfl | 7, _ => rfl | 8, _ => rfl | 9, _ => rfl | 10, _ => rfl | 11, _ => rfl | 12, _ => rfl | 13, _ => exact absurd hne hw52_15 | 14, _ => exact absurd hne hw52_16 | 15, _ => exact absurd hne hw52_17 | 16, _ => exact absurd hne hw52_18 | n + 17, h => exact absurd h (by omega)) rfl (by decide) ?_
                    exact bX0_value_207 hC hret hlk hU ht hr3 hk8 hf hH hS (lv_sub hl [1, 2, 3, 4, 5, 0] rfl)
      · have hf := gif_n hc hf
        refine lv_aload_n (pc := 39) hx hb dX0_value_39 rfl (lv_at hl 1 rfl) ?_
        refine lv_iload (pc := 40) hx hb dX0_value_40 (lv_at hl 0 rfl) ?_
        obtain ⟨q8_7, hq8_7, hf⟩ := gbd hf
        refine g_callVv (pc := 42) (rest := []) hC hU hH hS hl.1 ht rfl (by decide) (mX0_push ht hq8_7) ky_X0_push km_X0_30 ⟨Nat.le_of_ble_eq_true rfl, Nat.le_of_ble_eq_true rfl⟩ ⟨Nat.zero_le _, Nat.zero_le _⟩ rfl (Nat.le_of_ble_eq_true rfl) dX0_value_42 rfl (fun H locs hH hS => ?_)
        refine lv_goto (tgt := 215) (pc := 45) hx hb dX0_value_45 (by decide) ?_
        refine lv_iinc (v := l4 + 1) (lv' := [(4, .int (l4 + 1)), (5, .int x32), (0, .ref (ad t)), (1, .int a1), (2, .int a2), (3, .ref (ad r3))]) (k := 5) (pc := 215) hx hb dX0_value_215 hl rfl rfl (by decide) rfl (fun ls hl => ?_)
        refine lv_goto (tgt := 8) (pc := 218) hx hb dX0_value_218 (by decide) ?_
        exact hk8 hf hH hS (lv_sub hl [2, 3, 4, 5, 0] rfl)
def hX0_value_8 (t : Nat) (a1 : Int32) (a2 : Int32) (r3 : Nat)  : Nat → Int32 → gS → Option (Int32 × gS)
  | 0 => fun _ _ => none
  | n + 1 => fun l4 st => fX0_value_8 t a1 a2 r3 (hX0_value_8 t a1 a2 r3 n) l4 st
set_option maxRecDepth 100000 in
set_option maxHeartbeats 4000000 in
theorem wX0_value_8 {t : Nat} {a1 : Int32} {a2 : Int32} {r3 : Nat} (hC : CallFix p m c cX0_value 6 s args lw_good RX0) (hret : meth.sig.returnType = (some .int)) (hlk : meth.locks = false) (hU : gU 0 D cA ad s) (ht : gK 0 t = 0) (hr3 : gK 0 r3 = 5) {r : Int32} {st' : gS}  : ∀ (n : Nat) {l4 : Int32} {st : gS} {H : Heap} {locs : List Loc} {ls : Array Slot}, hX0_value_8 t a1 a2 r3 n l4 st = some (r, st') → gP0 0 D cA ad st H → va_S (gA 0 ad) s.heap H locs → lv_has ls 6 [(0, .ref (ad t)), (1, .int a1), (2, .int a2), (3, .ref (ad r3)), (4, .int l4)] → W p l e (gRm 4) s m args below meth c H locs 0 0 (MQ below (gQc 0 D cA ad st' (some (.int r))) args s 0 0 (gA 0 ad)) (F0 m 8 ls []) := by
  intro n
  induction n with
  | zero => intro l4 st H locs ls hf hH hS hl; cases hf
  | succ n ih =>
    intro l4 st H locs ls hf hH hS hl
    exact bX0_value_8 (t := t) (a1 := a1) (a2 := a2) (r3 := r3) hC hret hlk hU ht hr3 (fun hf hH hS hl => ih hf hH hS hl) hf hH hS hl
def fX0_value (t : Nat) (a1 : Int32) (a2 : Int32) (r3 : Nat)   (st : gS) : Option (Int32 × gS) :=
  hX0_value_8 t a1 a2 r3 FU 0 (wi st t 4 0)
set_option maxRecDepth 100000 in
set_option maxHeartbeats 4000000 in
theorem bX0_value_0 {t : Nat} {a1 : Int32} {a2 : Int32} {r3 : Nat} (hC : CallFix p m c cX0_value 6 s args lw_good RX0) (hret : meth.sig.returnType = (some .int)) (hlk : meth.locks = false) (hU : gU 0 D cA ad s) (ht : gK 0 t = 0) (hr3 : gK 0 r3 = 5) {r : Int32} {st' : gS}   {st : gS} {H : Heap} {locs : List Loc} {ls : Array Slot} (hf : fX0_value t a1 a2 r3 st = some (r, st')) (hH : gP0 0 D cA ad st H) (hS : va_S (gA 0 ad) s.heap H locs) (hl : lv_has ls 6 [(0, .ref (ad t)), (1, .int a1), (2, .int a2), (3, .ref (ad r3))]) : W p l e (gRm 4) s m args below meth c H locs 0 0 (MQ below (gQc 0 D cA ad st' (some (.int r))) args s 0 0 (gA 0 ad)) (F0 m 0 ls []) := by
  obtain ⟨hx, hb, hml, hown, hts⟩ := id hC
  unfold fX0_value at hf
  refine lv_aload_n (pc := 0) hx hb dX0_value_0 rfl (lv_at hl 0 rfl) ?_
  refine lv_iconst (v := 0) (pc := 1) hx hb dX0_value_1 (by decide) ?_
  refine g_puti (pc := 2) hC hU hH hS ht g_cl0 4 (by decide) kf_X0_23 rfl rfl rfl rfl dX0_value_2 (fun H locs hH hS => ?_)
  refine lv_iconst (v := 0) (pc := 5) hx hb dX0_value_5 (by decide) ?_
  refine lv_istore (lv' := [(4, .int 0), (0, .ref (ad t)), (1, .int a1), (2, .int a2), (3, .ref (ad r3))]) (pc := 6) hx hb dX0_value_6 hl (by decide) rfl (fun ls hl => ?_)
  exact wX0_value_8 hC hret hlk hU ht hr3 FU hf hH hS (lv_sub hl [1, 2, 3, 4, 0] rfl)
set_option maxRecDepth 100000 in
set_option maxHeartbeats 4000000 in
theorem mX0_value {l : Launch} {D : va_G} {cA : Nat → ClassId} {ad : Nat → Nat} {t : Nat} {a1 : Int32} {a2 : Int32} {r3 : Nat} (ht : gK 0 t = 0) (hr3 : gK 0 r3 = 5) {r : Int32} {st st' : gS} (hf : fX0_value t a1 a2 r3 st = some (r, st')) : gM l yX0_value cX0_value 6 (some .int) 4 0 D cA ad st [.ref (ad t), .int a1, .int a2, .ref (ad r3)] (some (.int r)) st' := by
  refine g_met (by decide) (Nat.le_of_ble_eq_true rfl) ?_
  intro p e s m args below meth c ls hC hret hlk hU hH hl
  exact bX0_value_0 hC hret hlk hU ht hr3 hf hH va_S.rf hl
def fX8_slipOf_69 (t : Nat) (a1 : Int32) (a2 : Int32) (r3 : Nat)  (s0 : Int32) (st : gS) : Option (Int32 × gS) :=
  some (if 0 < (if s0 < 100 then s0 else 100) then (if s0 < 100 then s0 else 100) else 0, st)
set_option maxRecDepth 100000 in
set_option maxHeartbeats 4000000 in
theorem bX8_slipOf_69 {t : Nat} {a1 : Int32} {a2 : Int32} {r3 : Nat} (hC : CallFix p m c cX8_slipOf 5 s args lw_good RX8) (hret : meth.sig.returnType = (some .int)) (hlk : meth.locks = false) (hU : gU 0 D cA ad s) (ht : gK 0 t = 8) (hr3 : gK 0 r3 = 5) {r : Int32} {st' : gS}  {s0 : Int32} {st : gS} {H : Heap} {locs : List Loc} {ls : Array Slot} (hf : fX8_slipOf_69 t a1 a2 r3 s0 st = some (r, st')) (hH : gP0 0 D cA ad st H) (hS : va_S (gA 0 ad) s.heap H locs) (hl : lv_has ls 5 []) : W p l e (gRm 5) s m args below meth c H locs 0 0 (MQ below (gQc 0 D cA ad st' (some (.int r))) args s 0 0 (gA 0 ad)) (F0 m 69 ls [.int s0]) := by
  obtain ⟨hx, hb, hml, hown, hts⟩ := id hC
  unfold fX8_slipOf_69 at hf
  refine lv_istore (lv' := [(4, .int s0)]) (pc := 69) hx hb dX8_slipOf_69 hl (by decide) rfl (fun ls hl => ?_)
  refine lv_iconst (v := 0) (pc := 71) hx hb dX8_slipOf_71 (by decide) ?_
  refine lv_bipush (v := 100) (pc := 72) hx hb dX8_slipOf_72 (by decide) ?_
  refine lv_iload (pc := 74) hx hb dX8_slipOf_74 (lv_at hl 0 rfl) ?_
  refine va_mmin (pc := 76) hx hb (hml.trans hl.1.symm) hown (hts _ km_X8_96) (hts _ kms_min) (hts _ kmi) (hts _ kmc_min) (Nat.le_of_ble_eq_true rfl) (Nat.le_of_ble_eq_true rfl) (Nat.zero_le _) (Nat.zero_le _) dX8_slipOf_76 ?_
  refine va_mmax (pc := 79) hx hb (hml.trans hl.1.symm) hown (hts _ km_X8_129) (hts _ kms_max) (hts _ kmi) (hts _ kmc_max) (Nat.le_of_ble_eq_true rfl) (Nat.le_of_ble_eq_true rfl) (Nat.zero_le _) (Nat.zero_le _) dX8_slipOf_79 ?_
  exact g_iret (pc := 82) hC hret hlk hH hS hf dX8_slipOf_82
def fX8_slipOf (t : Nat) (a1 : Int32) (a2 : Int32) (r3 : Nat)   (st : gS) : Option (Int32 × gS) :=
  (fX8_hasTribe t a1 st).bind fun q0_1 => (if q0_1.1 = 0 then (some (0, q0_1.2)) else ((fX8_hasMove t a2 q0_1.2).bind fun q0_2 => (if q0_2.1 = 0 then (some (0, q0_2.2)) else ((fX0_isTold (t + 1 + 11) q0_2.2).bind fun q0_3 => (if q0_3.1 = 0 then (gc (gI a2 16) (gc (gI a1 5) (fX8_slipOf_69 t a1 a2 r3 ((10 * (q0_3.2.1 (t + 1 + 9) a2.toNatClampNeg)) - (5 * (q0_3.2.1 (t + 1 + 2) a1.toNatClampNeg))) q0_3.2))) else (gc (gI a2 16) (gc (gI a1 5) ((fX0_value (t + 1 + 11) (q0_3.2.1 (t + 1 + 9) a2.toNatClampNeg) (q0_3.2.1 (t + 1 + 2) a1.toNatClampNeg) r3 q0_3.2).bind fun q0_4 => (fX8_slipOf_69 t a1 a2 r3 q0_4.1 q0_4.2)))))))))
set_option maxRecDepth 100000 in
set_option maxHeartbeats 4000000 in
theorem bX8_slipOf_0 {t : Nat} {a1 : Int32} {a2 : Int32} {r3 : Nat} (hC : CallFix p m c cX8_slipOf 5 s args lw_good RX8) (hret : meth.sig.returnType = (some .int)) (hlk : meth.locks = false) (hU : gU 0 D cA ad s) (ht : gK 0 t = 8) (hr3 : gK 0 r3 = 5) {r : Int32} {st' : gS}   {st : gS} {H : Heap} {locs : List Loc} {ls : Array Slot} (hf : fX8_slipOf t a1 a2 r3 st = some (r, st')) (hH : gP0 0 D cA ad st H) (hS : va_S (gA 0 ad) s.heap H locs) (hl : lv_has ls 5 [(0, .ref (ad t)), (1, .int a1), (2, .int a2), (3, .ref (ad r3))]) : W p l e (gRm 5) s m args below meth c H locs 0 0 (MQ below (gQc 0 D cA ad st' (some (.int r))) args s 0 0 (gA 0 ad)) (F0 m 0 ls []) := by
  obtain ⟨hx, hb, hml, hown, hts⟩ := id hC
  unfold fX8_slipOf at hf
  refine lv_aload_n (pc := 0) hx hb dX8_slipOf_0 rfl (lv_at hl 0 rfl) ?_
  refine lv_iload_n (pc := 1) hx hb dX8_slipOf_1 rfl (lv_at hl 1 rfl) ?_
  obtain ⟨q0_1, hq0_1, hf⟩ := gbd hf
  refine g_callVi (pc := 2) (rest := []) hC hU hH hS hl.1 ht rfl (by decide) (mX8_hasTribe ht hq0_1) ky_X8_hasTribe km_X8_81 ⟨Nat.le_of_ble_eq_true rfl, Nat.le_of_ble_eq_true rfl⟩ ⟨Nat.zero_le _, Nat.zero_le _⟩ rfl (Nat.le_of_ble_eq_true rfl) dX8_slipOf_2 rfl (fun H locs hH hS => ?_)
  refine lv_if_eq (tgt := 16) (pc := 5) hx hb dX8_slipOf_5 (by decide) (fun hc => ?_) (fun hc => ?_)
  · have hf := gif_p hc hf
    refine lv_iconst (v := 0) (pc := 16) hx hb dX8_slipOf_16 (by decide) ?_
    exact g_iret (pc := 17) hC hret hlk hH hS hf dX8_slipOf_17
  · have hf := gif_n hc hf
    refine lv_aload_n (pc := 8) hx hb dX8_slipOf_8 rfl (lv_at hl 0 rfl) ?_
    refine lv_iload_n (pc := 9) hx hb dX8_slipOf_9 rfl (lv_at hl 2 rfl) ?_
    obtain ⟨q0_2, hq0_2, hf⟩ := gbd hf
    refine g_callVi (pc := 10) (rest := []) hC hU hH hS hl.1 ht rfl (by decide) (mX8_hasMove ht hq0_2) ky_X8_hasMove km_X8_115 ⟨Nat.le_of_ble_eq_true rfl, Nat.le_of_ble_eq_true rfl⟩ ⟨Nat.zero_le _, Nat.zero_le _⟩ rfl (Nat.le_of_ble_eq_true rfl) dX8_slipOf_10 rfl (fun H locs hH hS => ?_)
    refine lv_if_ne (tgt := 18) (pc := 13) hx hb dX8_slipOf_13 (by decide) (fun hc => ?_) (fun hc => ?_)
    · have hf := gif_n hc hf
      refine lv_aload_n (pc := 18) hx hb dX8_slipOf_18 rfl (lv_at hl 0 rfl) ?_
      refine g_get (pc := 19) (v := .ref (ad (t + 1 + 11))) hC hU hH ht g_cl8 11 (by decide) kf_X8_49 rfl dX8_slipOf_19 ?_
      obtain ⟨q0_3, hq0_3, hf⟩ := gbd hf
      refine g_callVi (pc := 22) (rest := []) hC hU hH hS hl.1 (gk_8_11 ht) rfl (by decide) (mX0_isTold (gk_8_11 ht) hq0_3) ky_X0_isTold km_X8_121 ⟨Nat.le_of_ble_eq_true rfl, Nat.le_of_ble_eq_true rfl⟩ ⟨Nat.zero_le _, Nat.zero_le _⟩ rfl (Nat.le_of_ble_eq_true rfl) dX8_slipOf_22 rfl (fun H locs hH hS => ?_)
      refine lv_if_eq (tgt := 51) (pc := 25) hx hb dX8_slipOf_25 (by decide) (fun hc => ?_) (fun hc => ?_)
      · have hf := gif_p hc hf
        refine lv_bipush (v := 10) (pc := 51) hx hb dX8_slipOf_51 (by decide) ?_
        refine lv_aload_n (pc := 53) hx hb dX8_slipOf_53 rfl (lv_at hl 0 rfl) ?_
        refine g_get (pc := 54) (v := .ref (ad (t + 1 + 9))) hC hU hH ht g_cl8 9 (by decide) kf_X8_40 rfl dX8_slipOf_54 ?_
        refine lv_iload_n (pc := 57) hx hb dX8_slipOf_57 rfl (lv_at hl 2 rfl) ?_
        obtain ⟨h0_1, hf⟩ := gc_s hf
        refine g_iald (pc := 58) hC hU hH (gk_8_9 ht) (gn_8_9 ht) h0_1 dX8_slipOf_58 ?_
        refine lv_imul (pc := 59) hx hb dX8_slipOf_59 ?_
        refine lv_iconst (v := 5) (pc := 60) hx hb dX8_slipOf_60 (by decide) ?_
        refine lv_aload_n (pc := 61) hx hb dX8_slipOf_61 rfl (lv_at hl 0 rfl) ?_
        refine g_get (pc := 62) (v := .ref (ad (t + 1 + 2))) hC hU hH ht g_cl8 2 (by decide) kf_X8_18 rfl dX8_slipOf_62 ?_
        refine lv_iload_n (pc := 65) hx hb dX8_slipOf_65 rfl (lv_at hl 1 rfl) ?_
        obtain ⟨h0_2, hf⟩ := gc_s hf
        refine g_iald (pc := 66) hC hU hH (gk_8_2 ht) (gn_8_2 ht) h0_2 dX8_slipOf_66 ?_
        refine lv_imul (pc := 67) hx hb dX8_slipOf_67 ?_
        refine lv_isub (pc := 68) hx hb dX8_slipOf_68 ?_
        exact bX8_slipOf_69 hC hret hlk hU ht hr3 hf hH hS (lv_sub hl [] rfl)
      · have hf := gif_n hc hf
        refine lv_aload_n (pc := 28) hx hb dX8_slipOf_28 rfl (lv_at hl 0 rfl) ?_
        refine g_get (pc := 29) (v := .ref (ad (t + 1 + 11))) hC hU hH ht g_cl8 11 (by decide) kf_X8_49 rfl dX8_slipOf_29 ?_
        refine lv_aload_n (pc := 32) hx hb dX8_slipOf_32 rfl (lv_at hl 0 rfl) ?_
        refine g_get (pc := 33) (v := .ref (ad (t + 1 + 9))) hC hU hH ht g_cl8 9 (by decide) kf_X8_40 rfl dX8_slipOf_33 ?_
        refine lv_iload_n (pc := 36) hx hb dX8_slipOf_36 rfl (lv_at hl 2 rfl) ?_
        obtain ⟨h0_3, hf⟩ := gc_s hf
        refine g_iald (pc := 37) hC hU hH (gk_8_9 ht) (gn_8_9 ht) h0_3 dX8_slipOf_37 ?_
        refine lv_aload_n (pc := 38) hx hb dX8_slipOf_38 rfl (lv_at hl 0 rfl) ?_
        refine g_get (pc := 39) (v := .ref (ad (t + 1 + 2))) hC hU hH ht g_cl8 2 (by decide) kf_X8_18 rfl dX8_slipOf_39 ?_
        refine lv_iload_n (pc := 42) hx hb dX8_slipOf_42 rfl (lv_at hl 1 rfl) ?_
        obtain ⟨h0_4, hf⟩ := gc_s hf
        refine g_iald (pc := 43) hC hU hH (gk_8_2 ht) (gn_8_2 ht) h0_4 dX8_slipOf_43 ?_
        refine lv_aload_n (pc := 44) hx hb dX8_slipOf_44 rfl (lv_at hl 3 rfl) ?_
        obtain ⟨q0_4, hq0_4, hf⟩ := gbd hf
        refine g_callVi (pc := 45) (rest := []) hC hU hH hS hl.1 (gk_8_11 ht) rfl (by decide) (mX0_value (gk_8_11 ht) hr3 hq0_4) ky_X0_value km_X8_125 ⟨Nat.le_of_ble_eq_true rfl, Nat.le_of_ble_eq_true rfl⟩ ⟨Nat.zero_le _, Nat.zero_le _⟩ rfl (Nat.le_of_ble_eq_true rfl) dX8_slipOf_45 rfl (fun H locs hH hS => ?_)
        refine lv_goto (tgt := 69) (pc := 48) hx hb dX8_slipOf_48 (by decide) ?_
        exact bX8_slipOf_69 hC hret hlk hU ht hr3 hf hH hS (lv_sub hl [] rfl)
    · have hf := gif_p hc hf
      refine lv_iconst (v := 0) (pc := 16) hx hb dX8_slipOf_16 (by decide) ?_
      exact g_iret (pc := 17) hC hret hlk hH hS hf dX8_slipOf_17
set_option maxRecDepth 100000 in
set_option maxHeartbeats 4000000 in
theorem mX8_slipOf {l : Launch} {D : va_G} {cA : Nat → ClassId} {ad : Nat → Nat} {t : Nat} {a1 : Int32} {a2 : Int32} {r3 : Nat} (ht : gK 0 t = 8) (hr3 : gK 0 r3 = 5) {r : Int32} {st st' : gS} (hf : fX8_slipOf t a1 a2 r3 st = some (r, st')) : gM l yX8_slipOf cX8_slipOf 5 (some .int) 5 0 D cA ad st [.ref (ad t), .int a1, .int a2, .ref (ad r3)] (some (.int r)) st' := by
  refine g_met (by decide) (Nat.le_of_ble_eq_true rfl) ?_
  intro p e s m args below meth c ls hC hret hlk hU hH hl
  exact bX8_slipOf_0 hC hret hlk hU ht hr3 hf hH va_S.rf hl
def fX10_slip (a1 : Int32) (a2 : Int32)   (st : gS) : Option (Int32 × gS) :=
  gc (gK 0 (st.2.2 0 9) = 8) ((fX8_hasTribe (st.2.2 0 9) a1 st).bind fun q0_1 => (if q0_1.1 = 0 then (some ((-1), q0_1.2)) else (gc (gK 0 (q0_1.2.2.2 0 9) = 8) ((fX8_hasMove (q0_1.2.2.2 0 9) a2 q0_1.2).bind fun q0_2 => (if q0_2.1 = 0 then (some ((-1), q0_2.2)) else (gc (gK 0 (q0_2.2.2.2 0 9) = 8) ((fX8_slipOf (q0_2.2.2.2 0 9) a1 a2 20 q0_2.2).bind fun q0_3 => (some (q0_3.1, q0_3.2)))))))))
set_option maxRecDepth 100000 in
set_option maxHeartbeats 4000000 in
theorem bX10_slip_0 {a1 : Int32} {a2 : Int32} (hC : CallFix p m c cX10_slip 3 s args lw_good RX10) (hret : meth.sig.returnType = (some .int)) (hlk : meth.locks = false) (hU : gU 0 D cA ad s)  {r : Int32} {st' : gS}   {st : gS} {H : Heap} {locs : List Loc} {ls : Array Slot} (hf : fX10_slip a1 a2 st = some (r, st')) (hH : gP0 0 D cA ad st H) (hS : va_S (gA 0 ad) s.heap H locs) (hl : lv_has ls 3 [(0, .ref (ad 0)), (1, .int a1), (2, .int a2)]) : W p l e (gRm 6) s m args below meth c H locs 0 0 (MQ below (gQc 0 D cA ad st' (some (.int r))) args s 0 0 (gA 0 ad)) (F0 m 0 ls []) := by
  obtain ⟨hx, hb, hml, hown, hts⟩ := id hC
  unfold fX10_slip at hf
  refine lv_aload_n (pc := 0) hx hb dX10_slip_0 rfl (lv_at hl 0 rfl) ?_
  refine g_get (pc := 1) (v := .ref (ad (st.2.2 0 9))) hC hU hH gk0_0 g_cl10 9 (by decide) kf_X10_71 rfl dX10_slip_1 ?_
  refine lv_iload_n (pc := 4) hx hb dX10_slip_4 rfl (lv_at hl 1 rfl) ?_
  obtain ⟨h0_1, hf⟩ := gc_s hf
  obtain ⟨q0_1, hq0_1, hf⟩ := gbd hf
  refine g_callVi (pc := 5) (rest := []) hC hU hH hS hl.1 h0_1 rfl (by decide) (mX8_hasTribe h0_1 hq0_1) ky_X8_hasTribe km_X10_130 ⟨Nat.le_of_ble_eq_true rfl, Nat.le_of_ble_eq_true rfl⟩ ⟨Nat.zero_le _, Nat.zero_le _⟩ rfl (Nat.le_of_ble_eq_true rfl) dX10_slip_5 rfl (fun H locs hH hS => ?_)
  refine lv_if_eq (tgt := 22) (pc := 8) hx hb dX10_slip_8 (by decide) (fun hc => ?_) (fun hc => ?_)
  · have hf := gif_p hc hf
    refine lv_iconst (v := (-1)) (pc := 22) hx hb dX10_slip_22 (by decide) ?_
    exact g_iret (pc := 23) hC hret hlk hH hS hf dX10_slip_23
  · have hf := gif_n hc hf
    refine lv_aload_n (pc := 11) hx hb dX10_slip_11 rfl (lv_at hl 0 rfl) ?_
    refine g_get (pc := 12) (v := .ref (ad (q0_1.2.2.2 0 9))) hC hU hH gk0_0 g_cl10 9 (by decide) kf_X10_71 rfl dX10_slip_12 ?_
    refine lv_iload_n (pc := 15) hx hb dX10_slip_15 rfl (lv_at hl 2 rfl) ?_
    obtain ⟨h0_2, hf⟩ := gc_s hf
    obtain ⟨q0_2, hq0_2, hf⟩ := gbd hf
    refine g_callVi (pc := 16) (rest := []) hC hU hH hS hl.1 h0_2 rfl (by decide) (mX8_hasMove h0_2 hq0_2) ky_X8_hasMove km_X10_162 ⟨Nat.le_of_ble_eq_true rfl, Nat.le_of_ble_eq_true rfl⟩ ⟨Nat.zero_le _, Nat.zero_le _⟩ rfl (Nat.le_of_ble_eq_true rfl) dX10_slip_16 rfl (fun H locs hH hS => ?_)
    refine lv_if_ne (tgt := 24) (pc := 19) hx hb dX10_slip_19 (by decide) (fun hc => ?_) (fun hc => ?_)
    · have hf := gif_n hc hf
      refine lv_aload_n (pc := 24) hx hb dX10_slip_24 rfl (lv_at hl 0 rfl) ?_
      refine g_get (pc := 25) (v := .ref (ad (q0_2.2.2.2 0 9))) hC hU hH gk0_0 g_cl10 9 (by decide) kf_X10_71 rfl dX10_slip_25 ?_
      refine lv_iload_n (pc := 28) hx hb dX10_slip_28 rfl (lv_at hl 1 rfl) ?_
      refine lv_iload_n (pc := 29) hx hb dX10_slip_29 rfl (lv_at hl 2 rfl) ?_
      refine lv_aload_n (pc := 30) hx hb dX10_slip_30 rfl (lv_at hl 0 rfl) ?_
      refine g_get (pc := 31) (v := .ref (ad 20)) hC hU hH gk0_0 g_cl10 2 (by decide) kf_X10_28 rfl dX10_slip_31 ?_
      obtain ⟨h0_3, hf⟩ := gc_s hf
      obtain ⟨q0_3, hq0_3, hf⟩ := gbd hf
      refine g_callVi (pc := 34) (rest := []) hC hU hH hS hl.1 h0_3 rfl (by decide) (mX8_slipOf h0_3 gk0_20 hq0_3) ky_X8_slipOf km_X10_190 ⟨Nat.le_of_ble_eq_true rfl, Nat.le_of_ble_eq_true rfl⟩ ⟨Nat.zero_le _, Nat.zero_le _⟩ rfl (Nat.le_of_ble_eq_true rfl) dX10_slip_34 rfl (fun H locs hH hS => ?_)
      exact g_iret (pc := 37) hC hret hlk hH hS hf dX10_slip_37
    · have hf := gif_p hc hf
      refine lv_iconst (v := (-1)) (pc := 22) hx hb dX10_slip_22 (by decide) ?_
      exact g_iret (pc := 23) hC hret hlk hH hS hf dX10_slip_23
set_option maxRecDepth 100000 in
set_option maxHeartbeats 4000000 in
theorem mX10_slip {l : Launch} {D : va_G} {cA : Nat → ClassId} {ad : Nat → Nat} {a1 : Int32} {a2 : Int32}  {r : Int32} {st st' : gS} (hf : fX10_slip a1 a2 st = some (r, st')) : gM l yX10_slip cX10_slip 3 (some .int) 6 0 D cA ad st [.ref (ad 0), .int a1, .int a2] (some (.int r)) st' := by
  refine g_met (by decide) (Nat.le_of_ble_eq_true rfl) ?_
  intro p e s m args below meth c ls hC hret hlk hU hH hl
  exact bX10_slip_0 hC hret hlk hU hf hH va_S.rf hl
def fX10_canTake (a1 : Int32) (a2 : Int32)   (st : gS) : Option (Int32 × gS) :=
  gc (gK 0 (st.2.2 0 9) = 8) ((fX8_hasTribe (st.2.2 0 9) a1 st).bind fun q0_1 => (if q0_1.1 = 0 then (some (0, q0_1.2)) else (gc (gK 0 (q0_1.2.2.2 0 9) = 8) ((fX8_hasMove (q0_1.2.2.2 0 9) a2 q0_1.2).bind fun q0_2 => (if q0_2.1 = 0 then (some (0, q0_2.2)) else (if a1 = (q0_2.2.1 20 3) then (some (0, q0_2.2)) else (gc (gK 0 (q0_2.2.2.2 0 9) = 8) (gc (gI a2 16) (if (q0_2.2.1 ((q0_2.2.2.2 0 9) + 1 + 6) a2.toNatClampNeg) = (q0_2.2.1 20 2) then (gc (gK 0 (q0_2.2.2.2 0 9) = 8) ((fX8_can (q0_2.2.2.2 0 9) a1 a2 q0_2.2).bind fun q0_3 => (if q0_3.1 = 0 then (some (0, q0_3.2)) else (some (1, q0_3.2))))) else (some (0, q0_2.2)))))))))))
set_option maxRecDepth 100000 in
set_option maxHeartbeats 4000000 in
theorem bX10_canTake_0 {a1 : Int32} {a2 : Int32} (hC : CallFix p m c cX10_canTake 3 s args lw_good RX10) (hret : meth.sig.returnType = (some .boolean)) (hlk : meth.locks = false) (hU : gU 0 D cA ad s)  {r : Int32} {st' : gS}   {st : gS} {H : Heap} {locs : List Loc} {ls : Array Slot} (hf : fX10_canTake a1 a2 st = some (r, st')) (hH : gP0 0 D cA ad st H) (hS : va_S (gA 0 ad) s.heap H locs) (hl : lv_has ls 3 [(0, .ref (ad 0)), (1, .int a1), (2, .int a2)]) : W p l e (gRm 3) s m args below meth c H locs 0 0 (MQ below (gQc 0 D cA ad st' (some (.int r))) args s 0 0 (gA 0 ad)) (F0 m 0 ls []) := by
  obtain ⟨hx, hb, hml, hown, hts⟩ := id hC
  unfold fX10_canTake at hf
  refine lv_aload_n (pc := 0) hx hb dX10_canTake_0 rfl (lv_at hl 0 rfl) ?_
  refine g_get (pc := 1) (v := .ref (ad (st.2.2 0 9))) hC hU hH gk0_0 g_cl10 9 (by decide) kf_X10_71 rfl dX10_canTake_1 ?_
  refine lv_iload_n (pc := 4) hx hb dX10_canTake_4 rfl (lv_at hl 1 rfl) ?_
  obtain ⟨h0_1, hf⟩ := gc_s hf
  obtain ⟨q0_1, hq0_1, hf⟩ := gbd hf
  refine g_callVi (pc := 5) (rest := []) hC hU hH hS hl.1 h0_1 rfl (by decide) (mX8_hasTribe h0_1 hq0_1) ky_X8_hasTribe km_X10_130 ⟨Nat.le_of_ble_eq_true rfl, Nat.le_of_ble_eq_true rfl⟩ ⟨Nat.zero_le _, Nat.zero_le _⟩ rfl (Nat.le_of_ble_eq_true rfl) dX10_canTake_5 rfl (fun H locs hH hS => ?_)
  refine lv_if_eq (tgt := 68) (pc := 8) hx hb dX10_canTake_8 (by decide) (fun hc => ?_) (fun hc => ?_)
  · have hf := gif_p hc hf
    refine lv_iconst (v := 0) (pc := 68) hx hb dX10_canTake_68 (by decide) ?_
    exact g_zret (pc := 69) hC hret hlk hH hS (by decide) hf dX10_canTake_69
  · have hf := gif_n hc hf
    refine lv_aload_n (pc := 11) hx hb dX10_canTake_11 rfl (lv_at hl 0 rfl) ?_
    refine g_get (pc := 12) (v := .ref (ad (q0_1.2.2.2 0 9))) hC hU hH gk0_0 g_cl10 9 (by decide) kf_X10_71 rfl dX10_canTake_12 ?_
    refine lv_iload_n (pc := 15) hx hb dX10_canTake_15 rfl (lv_at hl 2 rfl) ?_
    obtain ⟨h0_2, hf⟩ := gc_s hf
    obtain ⟨q0_2, hq0_2, hf⟩ := gbd hf
    refine g_callVi (pc := 16) (rest := []) hC hU hH hS hl.1 h0_2 rfl (by decide) (mX8_hasMove h0_2 hq0_2) ky_X8_hasMove km_X10_162 ⟨Nat.le_of_ble_eq_true rfl, Nat.le_of_ble_eq_true rfl⟩ ⟨Nat.zero_le _, Nat.zero_le _⟩ rfl (Nat.le_of_ble_eq_true rfl) dX10_canTake_16 rfl (fun H locs hH hS => ?_)
    refine lv_if_eq (tgt := 68) (pc := 19) hx hb dX10_canTake_19 (by decide) (fun hc => ?_) (fun hc => ?_)
    · have hf := gif_p hc hf
      refine lv_iconst (v := 0) (pc := 68) hx hb dX10_canTake_68 (by decide) ?_
      exact g_zret (pc := 69) hC hret hlk hH hS (by decide) hf dX10_canTake_69
    · have hf := gif_n hc hf
      refine lv_iload_n (pc := 22) hx hb dX10_canTake_22 rfl (lv_at hl 1 rfl) ?_
      refine lv_aload_n (pc := 23) hx hb dX10_canTake_23 rfl (lv_at hl 0 rfl) ?_
      refine g_get (pc := 24) (v := .ref (ad 20)) hC hU hH gk0_0 g_cl10 2 (by decide) kf_X10_28 rfl dX10_canTake_24 ?_
      refine g_get (pc := 27) (v := .int (q0_2.2.1 20 3)) hC hU hH gk0_20 g_cl5 3 (by decide) kf_X10_152 rfl dX10_canTake_27 ?_
      refine lv_icmp_eq (tgt := 68) (pc := 30) hx hb dX10_canTake_30 (by decide) (fun hc => ?_) (fun hc => ?_)
      · have hf := gif_p hc hf
        refine lv_iconst (v := 0) (pc := 68) hx hb dX10_canTake_68 (by decide) ?_
        exact g_zret (pc := 69) hC hret hlk hH hS (by decide) hf dX10_canTake_69
      · have hf := gif_n hc hf
        refine lv_aload_n (pc := 33) hx hb dX10_canTake_33 rfl (lv_at hl 0 rfl) ?_
        refine g_get (pc := 34) (v := .ref (ad (q0_2.2.2.2 0 9))) hC hU hH gk0_0 g_cl10 9 (by decide) kf_X10_71 rfl dX10_canTake_34 ?_
        obtain ⟨h0_3, hf⟩ := gc_s hf
        refine g_get (pc := 37) (v := .ref (ad ((q0_2.2.2.2 0 9) + 1 + 6))) hC hU hH h0_3 g_cl8 6 (by decide) kf_X10_165 rfl dX10_canTake_37 ?_
        refine lv_iload_n (pc := 40) hx hb dX10_canTake_40 rfl (lv_at hl 2 rfl) ?_
        obtain ⟨h0_4, hf⟩ := gc_s hf
        refine g_iald (pc := 41) hC hU hH (gk_8_6 h0_3) (gn_8_6 h0_3) h0_4 dX10_canTake_41 ?_
        refine lv_aload_n (pc := 42) hx hb dX10_canTake_42 rfl (lv_at hl 0 rfl) ?_
        refine g_get (pc := 43) (v := .ref (ad 20)) hC hU hH gk0_0 g_cl10 2 (by decide) kf_X10_28 rfl dX10_canTake_43 ?_
        refine g_get (pc := 46) (v := .int (q0_2.2.1 20 2)) hC hU hH gk0_20 g_cl5 2 (by decide) kf_X10_155 rfl dX10_canTake_46 ?_
        refine lv_icmp_ne (tgt := 68) (pc := 49) hx hb dX10_canTake_49 (by decide) (fun hc => ?_) (fun hc => ?_)
        · have hf := gif_n hc hf
          refine lv_iconst (v := 0) (pc := 68) hx hb dX10_canTake_68 (by decide) ?_
          exact g_zret (pc := 69) hC hret hlk hH hS (by decide) hf dX10_canTake_69
        · have hf := gif_p hc hf
          refine lv_aload_n (pc := 52) hx hb dX10_canTake_52 rfl (lv_at hl 0 rfl) ?_
          refine g_get (pc := 53) (v := .ref (ad (q0_2.2.2.2 0 9))) hC hU hH gk0_0 g_cl10 9 (by decide) kf_X10_71 rfl dX10_canTake_53 ?_
          refine lv_iload_n (pc := 56) hx hb dX10_canTake_56 rfl (lv_at hl 1 rfl) ?_
          refine lv_iload_n (pc := 57) hx hb dX10_canTake_57 rfl (lv_at hl 2 rfl) ?_
          obtain ⟨h0_5, hf⟩ := gc_s hf
          obtain ⟨q0_3, hq0_3, hf⟩ := gbd hf
          refine g_callVi (pc := 58) (rest := []) hC hU hH hS hl.1 h0_5 rfl (by decide) (mX8_can h0_5 hq0_3) ky_X8_can km_X10_205 ⟨Nat.le_of_ble_eq_true rfl, Nat.le_of_ble_eq_true rfl⟩ ⟨Nat.zero_le _, Nat.zero_le _⟩ rfl (Nat.le_of_ble_eq_true rfl) dX10_canTake_58 rfl (fun H locs hH hS => ?_)
          refine lv_if_eq (tgt := 68) (pc := 61) hx hb dX10_canTake_61 (by decide) (fun hc => ?_) (fun hc => ?_)
          · have hf := gif_p hc hf
            refine lv_iconst (v := 0) (pc := 68) hx hb dX10_canTake_68 (by decide) ?_
            exact g_zret (pc := 69) hC hret hlk hH hS (by decide) hf dX10_canTake_69
          · have hf := gif_n hc hf
            refine lv_iconst (v := 1) (pc := 64) hx hb dX10_canTake_64 (by decide) ?_
            refine lv_goto (tgt := 69) (pc := 65) hx hb dX10_canTake_65 (by decide) ?_
            exact g_zret (pc := 69) hC hret hlk hH hS (by decide) hf dX10_canTake_69
set_option maxRecDepth 100000 in
set_option maxHeartbeats 4000000 in
theorem mX10_canTake {l : Launch} {D : va_G} {cA : Nat → ClassId} {ad : Nat → Nat} {a1 : Int32} {a2 : Int32}  {r : Int32} {st st' : gS} (hf : fX10_canTake a1 a2 st = some (r, st')) : gM l yX10_canTake cX10_canTake 3 (some .boolean) 3 0 D cA ad st [.ref (ad 0), .int a1, .int a2] (some (.int r)) st' := by
  refine g_met (by decide) (Nat.le_of_ble_eq_true rfl) ?_
  intro p e s m args below meth c ls hC hret hlk hU hH hl
  exact bX10_canTake_0 hC hret hlk hU hf hH va_S.rf hl
def fX5_drop_13 (t : Nat) (r1 : Nat)  (s0 : Int32) (st : gS) : Option (gS) :=
  some (wi (wi (wi st t 2 s0) t 4 0) t 7 (((wi (wi st t 2 s0) t 4 0).1 t 7) + 1))
set_option maxRecDepth 100000 in
set_option maxHeartbeats 4000000 in
theorem bX5_drop_13 {t : Nat} {r1 : Nat} (hC : CallFix p m c cX5_drop 2 s args lw_good RX5) (hret : meth.sig.returnType = none) (hlk : meth.locks = false) (hU : gU 0 D cA ad s) (ht : gK 0 t = 5) (hr1 : gK 0 r1 = 8) {st' : gS}  {s0 : Int32} {st : gS} {H : Heap} {locs : List Loc} {ls : Array Slot} (hf : fX5_drop_13 t r1 s0 st = some st') (hH : gP0 0 D cA ad st H) (hS : va_S (gA 0 ad) s.heap H locs) (hl : lv_has ls 2 [(0, .ref (ad t))]) : W p l e (gRm 1) s m args below meth c H locs 0 0 (MQ below (gQc 0 D cA ad st' none) args s 0 0 (gA 0 ad)) (F0 m 13 ls [.int s0, .ref (ad t)]) := by
  obtain ⟨hx, hb, hml, hown, hts⟩ := id hC
  unfold fX5_drop_13 at hf
  refine g_puti (pc := 13) hC hU hH hS ht g_cl5 2 (by decide) kf_X5_18 rfl rfl rfl rfl dX5_drop_13 (fun H locs hH hS => ?_)
  refine lv_aload_n (pc := 16) hx hb dX5_drop_16 rfl (lv_at hl 0 rfl) ?_
  refine lv_iconst (v := 0) (pc := 17) hx hb dX5_drop_17 (by decide) ?_
  refine g_puti (pc := 18) hC hU hH hS ht g_cl5 4 (by decide) kf_X5_25 rfl rfl rfl rfl dX5_drop_18 (fun H locs hH hS => ?_)
  refine lv_aload_n (pc := 21) hx hb dX5_drop_21 rfl (lv_at hl 0 rfl) ?_
  refine lv_dup (pc := 22) hx hb dX5_drop_22 rfl ?_
  refine g_get (pc := 23) (v := .int ((wi (wi st t 2 s0) t 4 0).1 t 7)) hC hU hH ht g_cl5 7 (by decide) kf_X5_34 rfl dX5_drop_23 ?_
  refine lv_iconst (v := 1) (pc := 26) hx hb dX5_drop_26 (by decide) ?_
  refine lv_iadd (pc := 27) hx hb dX5_drop_27 ?_
  refine g_puti (pc := 28) hC hU hH hS ht g_cl5 7 (by decide) kf_X5_34 rfl rfl rfl rfl dX5_drop_28 (fun H locs hH hS => ?_)
  exact g_vret (pc := 31) hC hret hlk hH hS hf dX5_drop_31
def fX5_drop (t : Nat) (r1 : Nat)   (st : gS) : Option (gS) :=
  if (st.1 r1 12) ≤ 0 then (fX5_drop_13 t r1 (-1) st) else (fX5_drop_13 t r1 0 st)
set_option maxRecDepth 100000 in
set_option maxHeartbeats 4000000 in
theorem bX5_drop_0 {t : Nat} {r1 : Nat} (hC : CallFix p m c cX5_drop 2 s args lw_good RX5) (hret : meth.sig.returnType = none) (hlk : meth.locks = false) (hU : gU 0 D cA ad s) (ht : gK 0 t = 5) (hr1 : gK 0 r1 = 8) {st' : gS}   {st : gS} {H : Heap} {locs : List Loc} {ls : Array Slot} (hf : fX5_drop t r1 st = some st') (hH : gP0 0 D cA ad st H) (hS : va_S (gA 0 ad) s.heap H locs) (hl : lv_has ls 2 [(0, .ref (ad t)), (1, .ref (ad r1))]) : W p l e (gRm 1) s m args below meth c H locs 0 0 (MQ below (gQc 0 D cA ad st' none) args s 0 0 (gA 0 ad)) (F0 m 0 ls []) := by
  obtain ⟨hx, hb, hml, hown, hts⟩ := id hC
  unfold fX5_drop at hf
  refine lv_aload_n (pc := 0) hx hb dX5_drop_0 rfl (lv_at hl 0 rfl) ?_
  refine lv_aload_n (pc := 1) hx hb dX5_drop_1 rfl (lv_at hl 1 rfl) ?_
  refine g_get (pc := 2) (v := .int (st.1 r1 12)) hC hU hH hr1 g_cl8 12 (by decide) kf_X5_49 rfl dX5_drop_2 ?_
  refine lv_if_le (tgt := 12) (pc := 5) hx hb dX5_drop_5 (by decide) (fun hc => ?_) (fun hc => ?_)
  · have hf := gif_p hc hf
    refine lv_iconst (v := (-1)) (pc := 12) hx hb dX5_drop_12 (by decide) ?_
    exact bX5_drop_13 hC hret hlk hU ht hr1 hf hH hS (lv_sub hl [0] rfl)
  · have hf := gif_n hc hf
    refine lv_iconst (v := 0) (pc := 8) hx hb dX5_drop_8 (by decide) ?_
    refine lv_goto (tgt := 13) (pc := 9) hx hb dX5_drop_9 (by decide) ?_
    exact bX5_drop_13 hC hret hlk hU ht hr1 hf hH hS (lv_sub hl [0] rfl)
set_option maxRecDepth 100000 in
set_option maxHeartbeats 4000000 in
theorem mX5_drop {l : Launch} {D : va_G} {cA : Nat → ClassId} {ad : Nat → Nat} {t : Nat} {r1 : Nat} (ht : gK 0 t = 5) (hr1 : gK 0 r1 = 8) {st st' : gS} (hf : fX5_drop t r1 st = some st') : gM l yX5_drop cX5_drop 2 none 1 0 D cA ad st [.ref (ad t), .ref (ad r1)] none st' := by
  refine g_met (by decide) (Nat.le_of_ble_eq_true rfl) ?_
  intro p e s m args below meth c ls hC hret hlk hU hH hl
  exact bX5_drop_0 hC hret hlk hU ht hr1 hf hH va_S.rf hl
def fX5_takeOff_100 (t : Nat) (r1 : Nat) (a2 : Int32) (a3 : Int32)   (st : gS) : Option (gS) :=
  some (wi st t 3 a2)
set_option maxRecDepth 100000 in
set_option maxHeartbeats 4000000 in
theorem bX5_takeOff_100 {t : Nat} {r1 : Nat} {a2 : Int32} {a3 : Int32} (hC : CallFix p m c cX5_takeOff 5 s args lw_good RX5) (hret : meth.sig.returnType = none) (hlk : meth.locks = false) (hU : gU 0 D cA ad s) (ht : gK 0 t = 5) (hr1 : gK 0 r1 = 8) {st' : gS}   {st : gS} {H : Heap} {locs : List Loc} {ls : Array Slot} (hf : fX5_takeOff_100 t r1 a2 a3 st = some st') (hH : gP0 0 D cA ad st H) (hS : va_S (gA 0 ad) s.heap H locs) (hl : lv_has ls 5 [(0, .ref (ad t)), (2, .int a2)]) : W p l e (gRm 6) s m args below meth c H locs 0 0 (MQ below (gQc 0 D cA ad st' none) args s 0 0 (gA 0 ad)) (F0 m 100 ls []) := by
  obtain ⟨hx, hb, hml, hown, hts⟩ := id hC
  unfold fX5_takeOff_100 at hf
  refine lv_aload_n (pc := 100) hx hb dX5_takeOff_100 rfl (lv_at hl 0 rfl) ?_
  refine lv_iload_n (pc := 101) hx hb dX5_takeOff_101 rfl (lv_at hl 1 rfl) ?_
  refine g_puti (pc := 102) hC hU hH hS ht g_cl5 3 (by decide) kf_X5_22 rfl rfl rfl rfl dX5_takeOff_102 (fun H locs hH hS => ?_)
  exact g_vret (pc := 105) hC hret hlk hH hS hf dX5_takeOff_105
def fX5_takeOff (t : Nat) (r1 : Nat) (a2 : Int32) (a3 : Int32)   (st : gS) : Option (gS) :=
  (fX8_hasMove r1 a3 st).bind fun q0_1 => (if q0_1.1 = 0 then (some q0_1.2) else ((fX8_slipOf r1 a2 a3 t q0_1.2).bind fun q0_2 => (if (((wi q0_2.2 t 9 ((((q0_2.2.1 t 9) * 137) + 71) - (((q0_2.2.1 t 9) * 137) + 71) / 1000 * 1000)).1 t 9) - ((wi q0_2.2 t 9 ((((q0_2.2.1 t 9) * 137) + 71) - (((q0_2.2.1 t 9) * 137) + 71) / 1000 * 1000)).1 t 9) / 100 * 100) < q0_2.1 then (gc (gI a3 16) (if ((wi q0_2.2 t 9 ((((q0_2.2.1 t 9) * 137) + 71) - (((q0_2.2.1 t 9) * 137) + 71) / 1000 * 1000)).1 (r1 + 1 + 10) a3.toNatClampNeg) = (-1) then ((fX5_drop t r1 (wi q0_2.2 t 9 ((((q0_2.2.1 t 9) * 137) + 71) - (((q0_2.2.1 t 9) * 137) + 71) / 1000 * 1000))).bind fun q0_3 => (fX5_takeOff_100 t r1 a2 a3 q0_3)) else (gc (gI a3 16) (fX5_takeOff_100 t r1 a2 a3 (wi (wi (wi q0_2.2 t 9 ((((q0_2.2.1 t 9) * 137) + 71) - (((q0_2.2.1 t 9) * 137) + 71) / 1000 * 1000)) t 2 ((wi q0_2.2 t 9 ((((q0_2.2.1 t 9) * 137) + 71) - (((q0_2.2.1 t 9) * 137) + 71) / 1000 * 1000)).1 (r1 + 1 + 10) a3.toNatClampNeg)) t 6 (((wi (wi q0_2.2 t 9 ((((q0_2.2.1 t 9) * 137) + 71) - (((q0_2.2.1 t 9) * 137) + 71) / 1000 * 1000)) t 2 ((wi q0_2.2 t 9 ((((q0_2.2.1 t 9) * 137) + 71) - (((q0_2.2.1 t 9) * 137) + 71) / 1000 * 1000)).1 (r1 + 1 + 10) a3.toNatClampNeg)).1 t 6) + 1)))))) else (gc (gI a3 16) (fX5_takeOff_100 t r1 a2 a3 (wi (wi q0_2.2 t 9 ((((q0_2.2.1 t 9) * 137) + 71) - (((q0_2.2.1 t 9) * 137) + 71) / 1000 * 1000)) t 2 ((wi q0_2.2 t 9 ((((q0_2.2.1 t 9) * 137) + 71) - (((q0_2.2.1 t 9) * 137) + 71) / 1000 * 1000)).1 (r1 + 1 + 7) a3.toNatClampNeg)))))))
set_option maxRecDepth 100000 in
set_option maxHeartbeats 4000000 in
theorem bX5_takeOff_0 {t : Nat} {r1 : Nat} {a2 : Int32} {a3 : Int32} (hC : CallFix p m c cX5_takeOff 5 s args lw_good RX5) (hret : meth.sig.returnType = none) (hlk : meth.locks = false) (hU : gU 0 D cA ad s) (ht : gK 0 t = 5) (hr1 : gK 0 r1 = 8) {st' : gS}   {st : gS} {H : Heap} {locs : List Loc} {ls : Array Slot} (hf : fX5_takeOff t r1 a2 a3 st = some st') (hH : gP0 0 D cA ad st H) (hS : va_S (gA 0 ad) s.heap H locs) (hl : lv_has ls 5 [(0, .ref (ad t)), (1, .ref (ad r1)), (2, .int a2), (3, .int a3)]) : W p l e (gRm 6) s m args below meth c H locs 0 0 (MQ below (gQc 0 D cA ad st' none) args s 0 0 (gA 0 ad)) (F0 m 0 ls []) := by
  obtain ⟨hx, hb, hml, hown, hts⟩ := id hC
  unfold fX5_takeOff at hf
  refine lv_aload_n (pc := 0) hx hb dX5_takeOff_0 rfl (lv_at hl 1 rfl) ?_
  refine lv_iload_n (pc := 1) hx hb dX5_takeOff_1 rfl (lv_at hl 3 rfl) ?_
  obtain ⟨q0_1, hq0_1, hf⟩ := gbd hf
  refine g_callVi (pc := 2) (rest := []) hC hU hH hS hl.1 hr1 rfl (by decide) (mX8_hasMove hr1 hq0_1) ky_X8_hasMove km_X5_66 ⟨Nat.le_of_ble_eq_true rfl, Nat.le_of_ble_eq_true rfl⟩ ⟨Nat.zero_le _, Nat.zero_le _⟩ rfl (Nat.le_of_ble_eq_true rfl) dX5_takeOff_2 rfl (fun H locs hH hS => ?_)
  refine lv_if_ne (tgt := 9) (pc := 5) hx hb dX5_takeOff_5 (by decide) (fun hc => ?_) (fun hc => ?_)
  · have hf := gif_n hc hf
    refine lv_aload_n (pc := 9) hx hb dX5_takeOff_9 rfl (lv_at hl 1 rfl) ?_
    refine lv_iload_n (pc := 10) hx hb dX5_takeOff_10 rfl (lv_at hl 2 rfl) ?_
    refine lv_iload_n (pc := 11) hx hb dX5_takeOff_11 rfl (lv_at hl 3 rfl) ?_
    refine lv_aload_n (pc := 12) hx hb dX5_takeOff_12 rfl (lv_at hl 0 rfl) ?_
    obtain ⟨q0_2, hq0_2, hf⟩ := gbd hf
    refine g_callVi (pc := 13) (rest := []) hC hU hH hS hl.1 hr1 rfl (by decide) (mX8_slipOf hr1 ht hq0_2) ky_X8_slipOf km_X5_70 ⟨Nat.le_of_ble_eq_true rfl, Nat.le_of_ble_eq_true rfl⟩ ⟨Nat.zero_le _, Nat.zero_le _⟩ rfl (Nat.le_of_ble_eq_true rfl) dX5_takeOff_13 rfl (fun H locs hH hS => ?_)
    refine lv_istore (lv' := [(4, .int q0_2.1), (0, .ref (ad t)), (1, .ref (ad r1)), (2, .int a2), (3, .int a3)]) (pc := 16) hx hb dX5_takeOff_16 hl (by decide) rfl (fun ls hl => ?_)
    refine lv_aload_n (pc := 18) hx hb dX5_takeOff_18 rfl (lv_at hl 1 rfl) ?_
    refine lv_aload_n (pc := 19) hx hb dX5_takeOff_19 rfl (lv_at hl 1 rfl) ?_
    refine g_get (pc := 20) (v := .int (q0_2.2.1 t 9)) hC hU hH ht g_cl5 9 (by decide) kf_X5_40 rfl dX5_takeOff_20 ?_
    refine lv_sipush (v := 137) (pc := 23) hx hb dX5_takeOff_23 (by decide) ?_
    refine lv_imul (pc := 26) hx hb dX5_takeOff_26 ?_
    refine lv_bipush (v := 71) (pc := 27) hx hb dX5_takeOff_27 (by decide) ?_
    refine lv_iadd (pc := 29) hx hb dX5_takeOff_29 ?_
    refine lv_sipush (v := 1000) (pc := 30) hx hb dX5_takeOff_30 (by decide) ?_
    refine lv_irem (pc := 33) hx hb dX5_takeOff_33 (by decide) ?_
    refine g_puti (pc := 34) hC hU hH hS ht g_cl5 9 (by decide) kf_X5_40 rfl rfl rfl rfl dX5_takeOff_34 (fun H locs hH hS => ?_)
    refine lv_aload_n (pc := 37) hx hb dX5_takeOff_37 rfl (lv_at hl 1 rfl) ?_
    refine g_get (pc := 38) (v := .int ((wi q0_2.2 t 9 ((((q0_2.2.1 t 9) * 137) + 71) - (((q0_2.2.1 t 9) * 137) + 71) / 1000 * 1000)).1 t 9)) hC hU hH ht g_cl5 9 (by decide) kf_X5_40 rfl dX5_takeOff_38 ?_
    refine lv_bipush (v := 100) (pc := 41) hx hb dX5_takeOff_41 (by decide) ?_
    refine lv_irem (pc := 43) hx hb dX5_takeOff_43 (by decide) ?_
    refine lv_iload (pc := 44) hx hb dX5_takeOff_44 (lv_at hl 0 rfl) ?_
    refine lv_icmp_lt (tgt := 62) (pc := 46) hx hb dX5_takeOff_46 (by decide) (fun hc => ?_) (fun hc => ?_)
    · have hf := gif_p hc hf
      refine lv_aload_n (pc := 62) hx hb dX5_takeOff_62 rfl (lv_at hl 2 rfl) ?_
      refine g_get (pc := 63) (v := .ref (ad (r1 + 1 + 10))) hC hU hH hr1 g_cl8 10 (by decide) kf_X5_77 rfl dX5_takeOff_63 ?_
      refine lv_iload_n (pc := 66) hx hb dX5_takeOff_66 rfl (lv_at hl 4 rfl) ?_
      obtain ⟨h0_1, hf⟩ := gc_s hf
      refine g_iald (pc := 67) hC hU hH (gk_8_10 hr1) (gn_8_10 hr1) h0_1 dX5_takeOff_67 ?_
      refine lv_iconst (v := (-1)) (pc := 68) hx hb dX5_takeOff_68 (by decide) ?_
      refine lv_icmp_eq (tgt := 95) (pc := 69) hx hb dX5_takeOff_69 (by decide) (fun hc => ?_) (fun hc => ?_)
      · have hf := gif_p hc hf
        refine lv_aload_n (pc := 95) hx hb dX5_takeOff_95 rfl (lv_at hl 1 rfl) ?_
        refine lv_aload_n (pc := 96) hx hb dX5_takeOff_96 rfl (lv_at hl 2 rfl) ?_
        obtain ⟨q0_3, hq0_3, hf⟩ := gbd hf
        refine g_callVv (pc := 97) (rest := []) hC hU hH hS hl.1 ht rfl (by decide) (mX5_drop ht hr1 hq0_3) ky_X5_drop km_X5_80 ⟨Nat.le_of_ble_eq_true rfl, Nat.le_of_ble_eq_true rfl⟩ ⟨Nat.zero_le _, Nat.zero_le _⟩ rfl (Nat.le_of_ble_eq_true rfl) dX5_takeOff_97 rfl (fun H locs hH hS => ?_)
        exact bX5_takeOff_100 hC hret hlk hU ht hr1 hf hH hS (lv_sub hl [1, 3] rfl)
      · have hf := gif_n hc hf
        refine lv_aload_n (pc := 72) hx hb dX5_takeOff_72 rfl (lv_at hl 1 rfl) ?_
        refine lv_aload_n (pc := 73) hx hb dX5_takeOff_73 rfl (lv_at hl 2 rfl) ?_
        refine g_get (pc := 74) (v := .ref (ad (r1 + 1 + 10))) hC hU hH hr1 g_cl8 10 (by decide) kf_X5_77 rfl dX5_takeOff_74 ?_
        refine lv_iload_n (pc := 77) hx hb dX5_takeOff_77 rfl (lv_at hl 4 rfl) ?_
        obtain ⟨h0_2, hf⟩ := gc_s hf
        refine g_iald (pc := 78) hC hU hH (gk_8_10 hr1) (gn_8_10 hr1) h0_2 dX5_takeOff_78 ?_
        refine g_puti (pc := 79) hC hU hH hS ht g_cl5 2 (by decide) kf_X5_18 rfl rfl rfl rfl dX5_takeOff_79 (fun H locs hH hS => ?_)
        refine lv_aload_n (pc := 82) hx hb dX5_takeOff_82 rfl (lv_at hl 1 rfl) ?_
        refine lv_dup (pc := 83) hx hb dX5_takeOff_83 rfl ?_
        refine g_get (pc := 84) (v := .int ((wi (wi q0_2.2 t 9 ((((q0_2.2.1 t 9) * 137) + 71) - (((q0_2.2.1 t 9) * 137) + 71) / 1000 * 1000)) t 2 ((wi q0_2.2 t 9 ((((q0_2.2.1 t 9) * 137) + 71) - (((q0_2.2.1 t 9) * 137) + 71) / 1000 * 1000)).1 (r1 + 1 + 10) a3.toNatClampNeg)).1 t 6)) hC hU hH ht g_cl5 6 (by decide) kf_X5_31 rfl dX5_takeOff_84 ?_
        refine lv_iconst (v := 1) (pc := 87) hx hb dX5_takeOff_87 (by decide) ?_
        refine lv_iadd (pc := 88) hx hb dX5_takeOff_88 ?_
        refine g_puti (pc := 89) hC hU hH hS ht g_cl5 6 (by decide) kf_X5_31 rfl rfl rfl rfl dX5_takeOff_89 (fun H locs hH hS => ?_)
        refine lv_goto (tgt := 100) (pc := 92) hx hb dX5_takeOff_92 (by decide) ?_
        exact bX5_takeOff_100 hC hret hlk hU ht hr1 hf hH hS (lv_sub hl [1, 3] rfl)
    · have hf := gif_n hc hf
      refine lv_aload_n (pc := 49) hx hb dX5_takeOff_49 rfl (lv_at hl 1 rfl) ?_
      refine lv_aload_n (pc := 50) hx hb dX5_takeOff_50 rfl (lv_at hl 2 rfl) ?_
      refine g_get (pc := 51) (v := .ref (ad (r1 + 1 + 7))) hC hU hH hr1 g_cl8 7 (by decide) kf_X5_74 rfl dX5_takeOff_51 ?_
      refine lv_iload_n (pc := 54) hx hb dX5_takeOff_54 rfl (lv_at hl 4 rfl) ?_
      obtain ⟨h0_3, hf⟩ := gc_s hf
      refine g_iald (pc := 55) hC hU hH (gk_8_7 hr1) (gn_8_7 hr1) h0_3 dX5_takeOff_55 ?_
      refine g_puti (pc := 56) hC hU hH hS ht g_cl5 2 (by decide) kf_X5_18 rfl rfl rfl rfl dX5_takeOff_56 (fun H locs hH hS => ?_)
      refine lv_goto (tgt := 100) (pc := 59) hx hb dX5_takeOff_59 (by decide) ?_
      exact bX5_takeOff_100 hC hret hlk hU ht hr1 hf hH hS (lv_sub hl [1, 3] rfl)
  · have hf := gif_p hc hf
    exact g_vret (pc := 8) hC hret hlk hH hS hf dX5_takeOff_8
set_option maxRecDepth 100000 in
set_option maxHeartbeats 4000000 in
theorem mX5_takeOff {l : Launch} {D : va_G} {cA : Nat → ClassId} {ad : Nat → Nat} {t : Nat} {r1 : Nat} {a2 : Int32} {a3 : Int32} (ht : gK 0 t = 5) (hr1 : gK 0 r1 = 8) {st st' : gS} (hf : fX5_takeOff t r1 a2 a3 st = some st') : gM l yX5_takeOff cX5_takeOff 5 none 6 0 D cA ad st [.ref (ad t), .ref (ad r1), .int a2, .int a3] none st' := by
  refine g_met (by decide) (Nat.le_of_ble_eq_true rfl) ?_
  intro p e s m args below meth c ls hC hret hlk hU hH hl
  exact bX5_takeOff_0 hC hret hlk hU ht hr1 hf hH va_S.rf hl
def fX1_dropOldest_9  (k9 : Nat → Int32 → gS → Option (gS)) (n1 : Nat) (l2 : Int32) (st : gS) : Option (gS) :=
  if 40 ≤ l2 then (gc (gK 0 n1 = 5) (gc (gI 40 41) (some (wr st 24 (40 : Int32).toNatClampNeg n1)))) else (gc (gI (l2 + 1) 41) (gc (gK 0 (st.2.2 24 (l2 + 1).toNatClampNeg) = 5) (gc (gI l2 41) (k9 n1 (l2 + 1) (wr st 24 l2.toNatClampNeg (st.2.2 24 (l2 + 1).toNatClampNeg))))))
set_option maxRecDepth 100000 in
set_option maxHeartbeats 4000000 in
theorem bX1_dropOldest_9  (hC : CallFix p m c cX1_dropOldest 3 s args lw_good RX1) (hret : meth.sig.returnType = none) (hlk : meth.locks = false) (hU : gU 0 D cA ad s)  {st' : gS} {k9 : Nat → Int32 → gS → Option (gS)} (hk9 : ∀ {n1 : Nat} {l2 : Int32} {st : gS} {H : Heap} {locs : List Loc} {ls : Array Slot}, k9 n1 l2 st = some st' → gP0 0 D cA ad st H → va_S (gA 0 ad) s.heap H locs → lv_has ls 3 [(0, .ref (ad 23)), (1, .ref (ad n1)), (2, .int l2)] → W p l e (gRm 1) s m args below meth c H locs 0 0 (MQ below (gQc 0 D cA ad st' none) args s 0 0 (gA 0 ad)) (F0 m 9 ls [])) {n1 : Nat} {l2 : Int32} {st : gS} {H : Heap} {locs : List Loc} {ls : Array Slot} (hf : fX1_dropOldest_9 k9 n1 l2 st = some st') (hH : gP0 0 D cA ad st H) (hS : va_S (gA 0 ad) s.heap H locs) (hl : lv_has ls 3 [(0, .ref (ad 23)), (1, .ref (ad n1)), (2, .int l2)]) : W p l e (gRm 1) s m args below meth c H locs 0 0 (MQ below (gQc 0 D cA ad st' none) args s 0 0 (gA 0 ad)) (F0 m 9 ls []) := by
  obtain ⟨hx, hb, hml, hown, hts⟩ := id hC
  unfold fX1_dropOldest_9 at hf
  refine lv_iload_n (pc := 9) hx hb dX1_dropOldest_9 rfl (lv_at hl 2 rfl) ?_
  refine lv_bipush (v := 40) (pc := 10) hx hb dX1_dropOldest_10 (by decide) ?_
  refine lv_icmp_ge (tgt := 35) (pc := 12) hx hb dX1_dropOldest_12 (by decide) (fun hc => ?_) (fun hc => ?_)
  · have hf := gif_p hc hf
    refine lv_aload_n (pc := 35) hx hb dX1_dropOldest_35 rfl (lv_at hl 0 rfl) ?_
    refine g_get (pc := 36) (v := .ref (ad 24)) hC hU hH gk0_23 g_cl1 0 (by decide) kf_X1_11 rfl dX1_dropOldest_36 ?_
    refine lv_bipush (v := 40) (pc := 39) hx hb dX1_dropOldest_39 (by decide) ?_
    refine lv_aload_n (pc := 41) hx hb dX1_dropOldest_41 rfl (lv_at hl 1 rfl) ?_
    obtain ⟨h9_1, hf⟩ := gc_s hf
    obtain ⟨h9_2, hf⟩ := gc_s hf
    refine g_aast (pc := 42) hC hU hH hS gk0_24 gn0_24 h9_1 h9_2 dX1_dropOldest_42 (fun H locs hH hS => ?_)
    exact g_vret (pc := 43) hC hret hlk hH hS hf dX1_dropOldest_43
  · have hf := gif_n hc hf
    refine lv_aload_n (pc := 15) hx hb dX1_dropOldest_15 rfl (lv_at hl 0 rfl) ?_
    refine g_get (pc := 16) (v := .ref (ad 24)) hC hU hH gk0_23 g_cl1 0 (by decide) kf_X1_11 rfl dX1_dropOldest_16 ?_
    refine lv_iload_n (pc := 19) hx hb dX1_dropOldest_19 rfl (lv_at hl 2 rfl) ?_
    refine lv_aload_n (pc := 20) hx hb dX1_dropOldest_20 rfl (lv_at hl 0 rfl) ?_
    refine g_get (pc := 21) (v := .ref (ad 24)) hC hU hH gk0_23 g_cl1 0 (by decide) kf_X1_11 rfl dX1_dropOldest_21 ?_
    refine lv_iload_n (pc := 24) hx hb dX1_dropOldest_24 rfl (lv_at hl 2 rfl) ?_
    refine lv_iconst (v := 1) (pc := 25) hx hb dX1_dropOldest_25 (by decide) ?_
    refine lv_iadd (pc := 26) hx hb dX1_dropOldest_26 ?_
    obtain ⟨h9_3, hf⟩ := gc_s hf
    refine g_aald (pc := 27) hC hU hH gk0_24 gn0_24 h9_3 dX1_dropOldest_27 ?_
    obtain ⟨h9_4, hf⟩ := gc_s hf
    obtain ⟨h9_5, hf⟩ := gc_s hf
    refine g_aast (pc := 28) hC hU hH hS gk0_24 gn0_24 h9_4 h9_5 dX1_dropOldest_28 (fun H locs hH hS => ?_)
    refine lv_iinc (v := l2 + 1) (lv' := [(2, .int (l2 + 1)), (0, .ref (ad 23)), (1, .ref (ad n1))]) (k := 2) (pc := 29) hx hb dX1_dropOldest_29 hl rfl rfl (by decide) rfl (fun ls hl => ?_)
    refine lv_goto (tgt := 9) (pc := 32) hx hb dX1_dropOldest_32 (by decide) ?_
    exact hk9 hf hH hS (lv_sub hl [1, 2, 0] rfl)
def hX1_dropOldest_9   : Nat → Nat → Int32 → gS → Option (gS)
  | 0 => fun _ _ _ => none
  | n + 1 => fun n1 l2 st => fX1_dropOldest_9 (hX1_dropOldest_9  n) n1 l2 st
set_option maxRecDepth 100000 in
set_option maxHeartbeats 4000000 in
theorem wX1_dropOldest_9  (hC : CallFix p m c cX1_dropOldest 3 s args lw_good RX1) (hret : meth.sig.returnType = none) (hlk : meth.locks = false) (hU : gU 0 D cA ad s)  {st' : gS}  : ∀ (n : Nat) {n1 : Nat} {l2 : Int32} {st : gS} {H : Heap} {locs : List Loc} {ls : Array Slot}, hX1_dropOldest_9  n n1 l2 st = some st' → gP0 0 D cA ad st H → va_S (gA 0 ad) s.heap H locs → lv_has ls 3 [(0, .ref (ad 23)), (1, .ref (ad n1)), (2, .int l2)] → W p l e (gRm 1) s m args below meth c H locs 0 0 (MQ below (gQc 0 D cA ad st' none) args s 0 0 (gA 0 ad)) (F0 m 9 ls []) := by
  intro n
  induction n with
  | zero => intro n1 l2 st H locs ls hf hH hS hl; cases hf
  | succ n ih =>
    intro n1 l2 st H locs ls hf hH hS hl
    exact bX1_dropOldest_9  hC hret hlk hU (fun hf hH hS hl => ih hf hH hS hl) hf hH hS hl
def fX1_dropOldest    (st : gS) : Option (gS) :=
  gc (gI 0 41) (hX1_dropOldest_9 FU (st.2.2 24 (0 : Int32).toNatClampNeg) 0 st)
set_option maxRecDepth 100000 in
set_option maxHeartbeats 4000000 in
theorem bX1_dropOldest_0  (hC : CallFix p m c cX1_dropOldest 3 s args lw_good RX1) (hret : meth.sig.returnType = none) (hlk : meth.locks = false) (hU : gU 0 D cA ad s)  {st' : gS}   {st : gS} {H : Heap} {locs : List Loc} {ls : Array Slot} (hf : fX1_dropOldest st = some st') (hH : gP0 0 D cA ad st H) (hS : va_S (gA 0 ad) s.heap H locs) (hl : lv_has ls 3 [(0, .ref (ad 23))]) : W p l e (gRm 1) s m args below meth c H locs 0 0 (MQ below (gQc 0 D cA ad st' none) args s 0 0 (gA 0 ad)) (F0 m 0 ls []) := by
  obtain ⟨hx, hb, hml, hown, hts⟩ := id hC
  unfold fX1_dropOldest at hf
  refine lv_aload_n (pc := 0) hx hb dX1_dropOldest_0 rfl (lv_at hl 0 rfl) ?_
  refine g_get (pc := 1) (v := .ref (ad 24)) hC hU hH gk0_23 g_cl1 0 (by decide) kf_X1_11 rfl dX1_dropOldest_1 ?_
  refine lv_iconst (v := 0) (pc := 4) hx hb dX1_dropOldest_4 (by decide) ?_
  obtain ⟨h0_1, hf⟩ := gc_s hf
  refine g_aald (pc := 5) hC hU hH gk0_24 gn0_24 h0_1 dX1_dropOldest_5 ?_
  refine lv_astore_n (lv' := [(1, .ref (ad (st.2.2 24 (0 : Int32).toNatClampNeg))), (0, .ref (ad 23))]) (pc := 6) hx hb dX1_dropOldest_6 rfl hl (by decide) rfl (fun ls hl => ?_)
  refine lv_iconst (v := 0) (pc := 7) hx hb dX1_dropOldest_7 (by decide) ?_
  refine lv_istore_n (lv' := [(2, .int 0), (1, .ref (ad (st.2.2 24 (0 : Int32).toNatClampNeg))), (0, .ref (ad 23))]) (pc := 8) hx hb dX1_dropOldest_8 rfl hl (by decide) rfl (fun ls hl => ?_)
  exact wX1_dropOldest_9 hC hret hlk hU FU hf hH hS (lv_sub hl [2, 1, 0] rfl)
set_option maxRecDepth 100000 in
set_option maxHeartbeats 4000000 in
theorem mX1_dropOldest {l : Launch} {D : va_G} {cA : Nat → ClassId} {ad : Nat → Nat}   {st st' : gS} (hf : fX1_dropOldest  st = some st') : gM l yX1_dropOldest cX1_dropOldest 3 none 1 0 D cA ad st [.ref (ad 23)] none st' := by
  refine g_met (by decide) (Nat.le_of_ble_eq_true rfl) ?_
  intro p e s m args below meth c ls hC hret hlk hU hH hl
  exact bX1_dropOldest_0 hC hret hlk hU hf hH va_S.rf hl
end
