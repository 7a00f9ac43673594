section
variable {p : Program} {l : Launch} {e : Env} {s : State} {m : MethodId} {args : Array Value} {below : List Frame} {meth : Method} {c : Code} {D : va_G} {cA : Nat → ClassId} {ad : Nat → Nat}
def fX1_keep_26 (r1 : Nat)   (st : gS) : Option (gS) :=
  gc (gI ((wi st 23 2 (st.1 23 1)).1 23 1) 41) (gc (gK 0 ((wi st 23 2 (st.1 23 1)).2.2 24 ((wi st 23 2 (st.1 23 1)).1 23 1).toNatClampNeg) = 5) ((fX5_copy ((wi st 23 2 (st.1 23 1)).2.2 24 ((wi st 23 2 (st.1 23 1)).1 23 1).toNatClampNeg) r1 (wi st 23 2 (st.1 23 1))).bind fun q26_1 => (some q26_1)))
set_option maxRecDepth 100000 in
set_option maxHeartbeats 4000000 in
theorem bX1_keep_26 {r1 : Nat} (hC : CallFix p m c cX1_keep 2 s args lw_good RX1) (hret : meth.sig.returnType = none) (hlk : meth.locks = false) (hU : gU 0 D cA ad s) (hr1 : gK 0 r1 = 5) {st' : gS}   {st : gS} {H : Heap} {locs : List Loc} {ls : Array Slot} (hf : fX1_keep_26 r1 st = some st') (hH : gP0 0 D cA ad st H) (hS : va_S (gA 0 ad) s.heap H locs) (hl : lv_has ls 2 [(0, .ref (ad 23)), (1, .ref (ad r1))]) : W p l e (gRm 2) s m args below meth c H locs 0 0 (MQ below (gQc 0 D cA ad st' none) args s 0 0 (gA 0 ad)) (F0 m 26 ls []) := by
  obtain ⟨hx, hb, hml, hown, hts⟩ := id hC
  unfold fX1_keep_26 at hf
  refine lv_aload_n (pc := 26) hx hb dX1_keep_26 rfl (lv_at hl 0 rfl) ?_
  refine lv_aload_n (pc := 27) hx hb dX1_keep_27 rfl (lv_at hl 0 rfl) ?_
  refine g_get (pc := 28) (v := .int (st.1 23 1)) hC hU hH gk0_23 g_cl1 1 (by decide) kf_X1_15 rfl dX1_keep_28 ?_
  refine g_puti (pc := 31) hC hU hH hS gk0_23 g_cl1 2 (by decide) kf_X1_19 rfl rfl rfl rfl dX1_keep_31 (fun H locs hH hS => ?_)
  refine lv_aload_n (pc := 34) hx hb dX1_keep_34 rfl (lv_at hl 0 rfl) ?_
  refine g_get (pc := 35) (v := .ref (ad 24)) hC hU hH gk0_23 g_cl1 0 (by decide) kf_X1_11 rfl dX1_keep_35 ?_
  refine lv_aload_n (pc := 38) hx hb dX1_keep_38 rfl (lv_at hl 0 rfl) ?_
  refine g_get (pc := 39) (v := .int ((wi st 23 2 (st.1 23 1)).1 23 1)) hC hU hH gk0_23 g_cl1 1 (by decide) kf_X1_15 rfl dX1_keep_39 ?_
  obtain ⟨h26_1, hf⟩ := gc_s hf
  refine g_aald (pc := 42) hC hU hH gk0_24 gn0_24 h26_1 dX1_keep_42 ?_
  refine lv_aload_n (pc := 43) hx hb dX1_keep_43 rfl (lv_at hl 1 rfl) ?_
  obtain ⟨h26_2, hf⟩ := gc_s hf
  obtain ⟨q26_1, hq26_1, hf⟩ := gbd hf
  refine g_callVv (pc := 44) (rest := []) hC hU hH hS hl.1 h26_2 rfl (by decide) (mX5_copy h26_2 hr1 hq26_1) ky_X5_copy km_X1_23 ⟨Nat.le_of_ble_eq_true rfl, Nat.le_of_ble_eq_true rfl⟩ ⟨Nat.zero_le _, Nat.zero_le _⟩ rfl (Nat.le_of_ble_eq_true rfl) dX1_keep_44 rfl (fun H locs hH hS => ?_)
  exact g_vret (pc := 47) hC hret hlk hH hS hf dX1_keep_47
def fX1_keep (r1 : Nat)   (st : gS) : Option (gS) :=
  if 40 ≤ (st.1 23 1) then ((fX1_dropOldest st).bind fun q0_1 => (fX1_keep_26 r1 q0_1)) else (fX1_keep_26 r1 (wi st 23 1 ((st.1 23 1) + 1)))
set_option maxRecDepth 100000 in
set_option maxHeartbeats 4000000 in
theorem bX1_keep_0 {r1 : Nat} (hC : CallFix p m c cX1_keep 2 s args lw_good RX1) (hret : meth.sig.returnType = none) (hlk : meth.locks = false) (hU : gU 0 D cA ad s) (hr1 : gK 0 r1 = 5) {st' : gS}   {st : gS} {H : Heap} {locs : List Loc} {ls : Array Slot} (hf : fX1_keep r1 st = some st') (hH : gP0 0 D cA ad st H) (hS : va_S (gA 0 ad) s.heap H locs) (hl : lv_has ls 2 [(0, .ref (ad 23)), (1, .ref (ad r1))]) : W p l e (gRm 2) s m args below meth c H locs 0 0 (MQ below (gQc 0 D cA ad st' none) args s 0 0 (gA 0 ad)) (F0 m 0 ls []) := by
  obtain ⟨hx, hb, hml, hown, hts⟩ := id hC
  unfold fX1_keep at hf
  refine lv_aload_n (pc := 0) hx hb dX1_keep_0 rfl (lv_at hl 0 rfl) ?_
  refine g_get (pc := 1) (v := .int (st.1 23 1)) hC hU hH gk0_23 g_cl1 1 (by decide) kf_X1_15 rfl dX1_keep_1 ?_
  refine lv_bipush (v := 40) (pc := 4) hx hb dX1_keep_4 (by decide) ?_
  refine lv_icmp_ge (tgt := 22) (pc := 6) hx hb dX1_keep_6 (by decide) (fun hc => ?_) (fun hc => ?_)
  · have hf := gif_p hc hf
    refine lv_aload_n (pc := 22) hx hb dX1_keep_22 rfl (lv_at hl 0 rfl) ?_
    obtain ⟨q0_1, hq0_1, hf⟩ := gbd hf
    refine g_callVv (pc := 23) (rest := []) hC hU hH hS hl.1 gk0_23 rfl (by decide) (mX1_dropOldest  hq0_1) ky_X1_dropOldest km_X1_27 ⟨Nat.le_of_ble_eq_true rfl, Nat.le_of_ble_eq_true rfl⟩ ⟨Nat.zero_le _, Nat.zero_le _⟩ rfl (Nat.le_of_ble_eq_true rfl) dX1_keep_23 rfl (fun H locs hH hS => ?_)
    exact bX1_keep_26 hC hret hlk hU hr1 hf hH hS (lv_sub hl [0, 1] rfl)
  · have hf := gif_n hc hf
    refine lv_aload_n (pc := 9) hx hb dX1_keep_9 rfl (lv_at hl 0 rfl) ?_
    refine lv_dup (pc := 10) hx hb dX1_keep_10 rfl ?_
    refine g_get (pc := 11) (v := .int (st.1 23 1)) hC hU hH gk0_23 g_cl1 1 (by decide) kf_X1_15 rfl dX1_keep_11 ?_
    refine lv_iconst (v := 1) (pc := 14) hx hb dX1_keep_14 (by decide) ?_
    refine lv_iadd (pc := 15) hx hb dX1_keep_15 ?_
    refine g_puti (pc := 16) hC hU hH hS gk0_23 g_cl1 1 (by decide) kf_X1_15 rfl rfl rfl rfl dX1_keep_16 (fun H locs hH hS => ?_)
    refine lv_goto (tgt := 26) (pc := 19) hx hb dX1_keep_19 (by decide) ?_
    exact bX1_keep_26 hC hret hlk hU hr1 hf hH hS (lv_sub hl [0, 1] rfl)
set_option maxRecDepth 100000 in
set_option maxHeartbeats 4000000 in
theorem mX1_keep {l : Launch} {D : va_G} {cA : Nat → ClassId} {ad : Nat → Nat} {r1 : Nat} (hr1 : gK 0 r1 = 5) {st st' : gS} (hf : fX1_keep r1 st = some st') : gM l yX1_keep cX1_keep 2 none 2 0 D cA ad st [.ref (ad 23), .ref (ad r1)] none st' := by
  refine g_met (by decide) (Nat.le_of_ble_eq_true rfl) ?_
  intro p e s m args below meth c ls hC hret hlk hU hH hl
  exact bX1_keep_0 hC hret hlk hU hr1 hf hH va_S.rf hl
def fX10_take (a1 : Int32) (a2 : Int32)   (st : gS) : Option (Int32 × gS) :=
  (fX10_canTake a1 a2 st).bind fun q0_1 => (if q0_1.1 = 0 then (some ((-1), q0_1.2)) else (gc (gK 0 (q0_1.2.2.2 0 9) = 8) ((fX5_takeOff 20 (q0_1.2.2.2 0 9) a1 a2 q0_1.2).bind fun q0_2 => ((fX1_keep 20 q0_2).bind fun q0_3 => (some (q0_3.1 20 2, q0_3))))))
set_option maxRecDepth 100000 in
set_option maxHeartbeats 4000000 in
theorem bX10_take_0 {a1 : Int32} {a2 : Int32} (hC : CallFix p m c cX10_take 3 s args lw_good RX10) (hret : meth.sig.returnType = (some .int)) (hlk : meth.locks = false) (hU : gU 0 D cA ad s)  {r : Int32} {st' : gS}   {st : gS} {H : Heap} {locs : List Loc} {ls : Array Slot} (hf : fX10_take a1 a2 st = some (r, st')) (hH : gP0 0 D cA ad st H) (hS : va_S (gA 0 ad) s.heap H locs) (hl : lv_has ls 3 [(0, .ref (ad 0)), (1, .int a1), (2, .int a2)]) : W p l e (gRm 7) s m args below meth c H locs 0 0 (MQ below (gQc 0 D cA ad st' (some (.int r))) args s 0 0 (gA 0 ad)) (F0 m 0 ls []) := by
  obtain ⟨hx, hb, hml, hown, hts⟩ := id hC
  unfold fX10_take at hf
  refine lv_aload_n (pc := 0) hx hb dX10_take_0 rfl (lv_at hl 0 rfl) ?_
  refine lv_iload_n (pc := 1) hx hb dX10_take_1 rfl (lv_at hl 1 rfl) ?_
  refine lv_iload_n (pc := 2) hx hb dX10_take_2 rfl (lv_at hl 2 rfl) ?_
  obtain ⟨q0_1, hq0_1, hf⟩ := gbd hf
  refine g_callVi (pc := 3) (rest := []) hC hU hH hS hl.1 gk0_0 rfl (by decide) (mX10_canTake  hq0_1) ky_X10_canTake km_X10_194 ⟨Nat.le_of_ble_eq_true rfl, Nat.le_of_ble_eq_true rfl⟩ ⟨Nat.zero_le _, Nat.zero_le _⟩ rfl (Nat.le_of_ble_eq_true rfl) dX10_take_3 rfl (fun H locs hH hS => ?_)
  refine lv_if_ne (tgt := 11) (pc := 6) hx hb dX10_take_6 (by decide) (fun hc => ?_) (fun hc => ?_)
  · have hf := gif_n hc hf
    refine lv_aload_n (pc := 11) hx hb dX10_take_11 rfl (lv_at hl 0 rfl) ?_
    refine g_get (pc := 12) (v := .ref (ad 20)) hC hU hH gk0_0 g_cl10 2 (by decide) kf_X10_28 rfl dX10_take_12 ?_
    refine lv_aload_n (pc := 15) hx hb dX10_take_15 rfl (lv_at hl 0 rfl) ?_
    refine g_get (pc := 16) (v := .ref (ad (q0_1.2.2.2 0 9))) hC hU hH gk0_0 g_cl10 9 (by decide) kf_X10_71 rfl dX10_take_16 ?_
    refine lv_iload_n (pc := 19) hx hb dX10_take_19 rfl (lv_at hl 1 rfl) ?_
    refine lv_iload_n (pc := 20) hx hb dX10_take_20 rfl (lv_at hl 2 rfl) ?_
    obtain ⟨h0_1, hf⟩ := gc_s hf
    obtain ⟨q0_2, hq0_2, hf⟩ := gbd hf
    refine g_callVv (pc := 21) (rest := []) hC hU hH hS hl.1 gk0_20 rfl (by decide) (mX5_takeOff gk0_20 h0_1 hq0_2) ky_X5_takeOff km_X10_198 ⟨Nat.le_of_ble_eq_true rfl, Nat.le_of_ble_eq_true rfl⟩ ⟨Nat.zero_le _, Nat.zero_le _⟩ rfl (Nat.le_of_ble_eq_true rfl) dX10_take_21 rfl (fun H locs hH hS => ?_)
    refine lv_aload_n (pc := 24) hx hb dX10_take_24 rfl (lv_at hl 0 rfl) ?_
    refine g_get (pc := 25) (v := .ref (ad 23)) hC hU hH gk0_0 g_cl10 3 (by decide) kf_X10_35 rfl dX10_take_25 ?_
    refine lv_aload_n (pc := 28) hx hb dX10_take_28 rfl (lv_at hl 0 rfl) ?_
    refine g_get (pc := 29) (v := .ref (ad 20)) hC hU hH gk0_0 g_cl10 2 (by decide) kf_X10_28 rfl dX10_take_29 ?_
    obtain ⟨q0_3, hq0_3, hf⟩ := gbd hf
    refine g_callVv (pc := 32) (rest := []) hC hU hH hS hl.1 gk0_23 rfl (by decide) (mX1_keep gk0_20 hq0_3) ky_X1_keep km_X10_202 ⟨Nat.le_of_ble_eq_true rfl, Nat.le_of_ble_eq_true rfl⟩ ⟨Nat.zero_le _, Nat.zero_le _⟩ rfl (Nat.le_of_ble_eq_true rfl) dX10_take_32 rfl (fun H locs hH hS => ?_)
    refine lv_aload_n (pc := 35) hx hb dX10_take_35 rfl (lv_at hl 0 rfl) ?_
    refine g_get (pc := 36) (v := .ref (ad 20)) hC hU hH gk0_0 g_cl10 2 (by decide) kf_X10_28 rfl dX10_take_36 ?_
    refine g_get (pc := 39) (v := .int (q0_3.1 20 2)) hC hU hH gk0_20 g_cl5 2 (by decide) kf_X10_155 rfl dX10_take_39 ?_
    exact g_iret (pc := 42) hC hret hlk hH hS hf dX10_take_42
  · have hf := gif_p hc hf
    refine lv_iconst (v := (-1)) (pc := 9) hx hb dX10_take_9 (by decide) ?_
    exact g_iret (pc := 10) hC hret hlk hH hS hf dX10_take_10
set_option maxRecDepth 100000 in
set_option maxHeartbeats 4000000 in
theorem mX10_take {l : Launch} {D : va_G} {cA : Nat → ClassId} {ad : Nat → Nat} {a1 : Int32} {a2 : Int32}  {r : Int32} {st st' : gS} (hf : fX10_take a1 a2 st = some (r, st')) : gM l yX10_take cX10_take 3 (some .int) 7 0 D cA ad st [.ref (ad 0), .int a1, .int a2] (some (.int r)) st' := by
  refine g_met (by decide) (Nat.le_of_ble_eq_true rfl) ?_
  intro p e s m args below meth c ls hC hret hlk hU hH hl
  exact bX10_take_0 hC hret hlk hU hf hH va_S.rf hl
def fX10_rain    (st : gS) : Option (Int32 × gS) :=
  if (st.1 20 5) = 0 then ((fX1_keep 20 (wi st 20 5 1)).bind fun q0_1 => (some (q0_1.1 20 4, q0_1))) else (some ((-1), st))
set_option maxRecDepth 100000 in
set_option maxHeartbeats 4000000 in
theorem bX10_rain_0  (hC : CallFix p m c cX10_rain 1 s args lw_good RX10) (hret : meth.sig.returnType = (some .int)) (hlk : meth.locks = false) (hU : gU 0 D cA ad s)  {r : Int32} {st' : gS}   {st : gS} {H : Heap} {locs : List Loc} {ls : Array Slot} (hf : fX10_rain st = some (r, st')) (hH : gP0 0 D cA ad st H) (hS : va_S (gA 0 ad) s.heap H locs) (hl : lv_has ls 1 [(0, .ref (ad 0))]) : W p l e (gRm 3) s m args below meth c H locs 0 0 (MQ below (gQc 0 D cA ad st' (some (.int r))) args s 0 0 (gA 0 ad)) (F0 m 0 ls []) := by
  obtain ⟨hx, hb, hml, hown, hts⟩ := id hC
  unfold fX10_rain at hf
  refine lv_aload_n (pc := 0) hx hb dX10_rain_0 rfl (lv_at hl 0 rfl) ?_
  refine g_get (pc := 1) (v := .ref (ad 20)) hC hU hH gk0_0 g_cl10 2 (by decide) kf_X10_28 rfl dX10_rain_1 ?_
  refine g_get (pc := 4) (v := .int (st.1 20 5)) hC hU hH gk0_20 g_cl5 5 (by decide) kf_X10_208 rfl dX10_rain_4 ?_
  refine lv_if_eq (tgt := 12) (pc := 7) hx hb dX10_rain_7 (by decide) (fun hc => ?_) (fun hc => ?_)
  · have hf := gif_p hc hf
    refine lv_aload_n (pc := 12) hx hb dX10_rain_12 rfl (lv_at hl 0 rfl) ?_
    refine g_get (pc := 13) (v := .ref (ad 20)) hC hU hH gk0_0 g_cl10 2 (by decide) kf_X10_28 rfl dX10_rain_13 ?_
    refine lv_iconst (v := 1) (pc := 16) hx hb dX10_rain_16 (by decide) ?_
    refine g_puti (pc := 17) hC hU hH hS gk0_20 g_cl5 5 (by decide) kf_X10_208 rfl rfl rfl rfl dX10_rain_17 (fun H locs hH hS => ?_)
    refine lv_aload_n (pc := 20) hx hb dX10_rain_20 rfl (lv_at hl 0 rfl) ?_
    refine g_get (pc := 21) (v := .ref (ad 23)) hC hU hH gk0_0 g_cl10 3 (by decide) kf_X10_35 rfl dX10_rain_21 ?_
    refine lv_aload_n (pc := 24) hx hb dX10_rain_24 rfl (lv_at hl 0 rfl) ?_
    refine g_get (pc := 25) (v := .ref (ad 20)) hC hU hH gk0_0 g_cl10 2 (by decide) kf_X10_28 rfl dX10_rain_25 ?_
    obtain ⟨q0_1, hq0_1, hf⟩ := gbd hf
    refine g_callVv (pc := 28) (rest := []) hC hU hH hS hl.1 gk0_23 rfl (by decide) (mX1_keep gk0_20 hq0_1) ky_X1_keep km_X10_202 ⟨Nat.le_of_ble_eq_true rfl, Nat.le_of_ble_eq_true rfl⟩ ⟨Nat.zero_le _, Nat.zero_le _⟩ rfl (Nat.le_of_ble_eq_true rfl) dX10_rain_28 rfl (fun H locs hH hS => ?_)
    refine lv_aload_n (pc := 31) hx hb dX10_rain_31 rfl (lv_at hl 0 rfl) ?_
    refine g_get (pc := 32) (v := .ref (ad 20)) hC hU hH gk0_0 g_cl10 2 (by decide) kf_X10_28 rfl dX10_rain_32 ?_
    refine g_get (pc := 35) (v := .int (q0_1.1 20 4)) hC hU hH gk0_20 g_cl5 4 (by decide) kf_X10_211 rfl dX10_rain_35 ?_
    exact g_iret (pc := 38) hC hret hlk hH hS hf dX10_rain_38
  · have hf := gif_n hc hf
    refine lv_iconst (v := (-1)) (pc := 10) hx hb dX10_rain_10 (by decide) ?_
    exact g_iret (pc := 11) hC hret hlk hH hS hf dX10_rain_11
set_option maxRecDepth 100000 in
set_option maxHeartbeats 4000000 in
theorem mX10_rain {l : Launch} {D : va_G} {cA : Nat → ClassId} {ad : Nat → Nat}   {r : Int32} {st st' : gS} (hf : fX10_rain  st = some (r, st')) : gM l yX10_rain cX10_rain 1 (some .int) 3 0 D cA ad st [.ref (ad 0)] (some (.int r)) st' := by
  refine g_met (by decide) (Nat.le_of_ble_eq_true rfl) ?_
  intro p e s m args below meth c ls hC hret hlk hU hH hl
  exact bX10_rain_0 hC hret hlk hU hf hH va_S.rf hl
def fX10_give (a1 : Int32)   (st : gS) : Option (Int32 × gS) :=
  gc (gK 0 (st.2.2 0 9) = 8) ((fX8_hasTribe (st.2.2 0 9) a1 st).bind fun q0_1 => (if q0_1.1 = 0 then (some ((-1), q0_1.2)) else (if a1 = (q0_1.2.1 20 3) then (some ((-1), q0_1.2)) else ((fX1_keep 20 (wi q0_1.2 20 3 a1)).bind fun q0_2 => (some (q0_1.2.1 20 3, q0_2))))))
set_option maxRecDepth 100000 in
set_option maxHeartbeats 4000000 in
theorem bX10_give_0 {a1 : Int32} (hC : CallFix p m c cX10_give 3 s args lw_good RX10) (hret : meth.sig.returnType = (some .int)) (hlk : meth.locks = false) (hU : gU 0 D cA ad s)  {r : Int32} {st' : gS}   {st : gS} {H : Heap} {locs : List Loc} {ls : Array Slot} (hf : fX10_give a1 st = some (r, st')) (hH : gP0 0 D cA ad st H) (hS : va_S (gA 0 ad) s.heap H locs) (hl : lv_has ls 3 [(0, .ref (ad 0)), (1, .int a1)]) : W p l e (gRm 3) s m args below meth c H locs 0 0 (MQ below (gQc 0 D cA ad st' (some (.int r))) args s 0 0 (gA 0 ad)) (F0 m 0 ls []) := by
  obtain ⟨hx, hb, hml, hown, hts⟩ := id hC
  unfold fX10_give at hf
  refine lv_aload_n (pc := 0) hx hb dX10_give_0 rfl (lv_at hl 0 rfl) ?_
  refine g_get (pc := 1) (v := .ref (ad (st.2.2 0 9))) hC hU hH gk0_0 g_cl10 9 (by decide) kf_X10_71 rfl dX10_give_1 ?_
  refine lv_iload_n (pc := 4) hx hb dX10_give_4 rfl (lv_at hl 1 rfl) ?_
  obtain ⟨h0_1, hf⟩ := gc_s hf
  obtain ⟨q0_1, hq0_1, hf⟩ := gbd hf
  refine g_callVi (pc := 5) (rest := []) hC hU hH hS hl.1 h0_1 rfl (by decide) (mX8_hasTribe h0_1 hq0_1) ky_X8_hasTribe km_X10_130 ⟨Nat.le_of_ble_eq_true rfl, Nat.le_of_ble_eq_true rfl⟩ ⟨Nat.zero_le _, Nat.zero_le _⟩ rfl (Nat.le_of_ble_eq_true rfl) dX10_give_5 rfl (fun H locs hH hS => ?_)
  refine lv_if_eq (tgt := 22) (pc := 8) hx hb dX10_give_8 (by decide) (fun hc => ?_) (fun hc => ?_)
  · have hf := gif_p hc hf
    refine lv_iconst (v := (-1)) (pc := 22) hx hb dX10_give_22 (by decide) ?_
    exact g_iret (pc := 23) hC hret hlk hH hS hf dX10_give_23
  · have hf := gif_n hc hf
    refine lv_iload_n (pc := 11) hx hb dX10_give_11 rfl (lv_at hl 1 rfl) ?_
    refine lv_aload_n (pc := 12) hx hb dX10_give_12 rfl (lv_at hl 0 rfl) ?_
    refine g_get (pc := 13) (v := .ref (ad 20)) hC hU hH gk0_0 g_cl10 2 (by decide) kf_X10_28 rfl dX10_give_13 ?_
    refine g_get (pc := 16) (v := .int (q0_1.2.1 20 3)) hC hU hH gk0_20 g_cl5 3 (by decide) kf_X10_152 rfl dX10_give_16 ?_
    refine lv_icmp_ne (tgt := 24) (pc := 19) hx hb dX10_give_19 (by decide) (fun hc => ?_) (fun hc => ?_)
    · have hf := gif_n hc hf
      refine lv_aload_n (pc := 24) hx hb dX10_give_24 rfl (lv_at hl 0 rfl) ?_
      refine g_get (pc := 25) (v := .ref (ad 20)) hC hU hH gk0_0 g_cl10 2 (by decide) kf_X10_28 rfl dX10_give_25 ?_
      refine g_get (pc := 28) (v := .int (q0_1.2.1 20 3)) hC hU hH gk0_20 g_cl5 3 (by decide) kf_X10_152 rfl dX10_give_28 ?_
      refine lv_istore_n (lv' := [(2, .int (q0_1.2.1 20 3)), (0, .ref (ad 0)), (1, .int a1)]) (pc := 31) hx hb dX10_give_31 rfl hl (by decide) rfl (fun ls hl => ?_)
      refine lv_aload_n (pc := 32) hx hb dX10_give_32 rfl (lv_at hl 1 rfl) ?_
      refine g_get (pc := 33) (v := .ref (ad 20)) hC hU hH gk0_0 g_cl10 2 (by decide) kf_X10_28 rfl dX10_give_33 ?_
      refine lv_iload_n (pc := 36) hx hb dX10_give_36 rfl (lv_at hl 2 rfl) ?_
      refine g_puti (pc := 37) hC hU hH hS gk0_20 g_cl5 3 (by decide) kf_X10_152 rfl rfl rfl rfl dX10_give_37 (fun H locs hH hS => ?_)
      refine lv_aload_n (pc := 40) hx hb dX10_give_40 rfl (lv_at hl 1 rfl) ?_
      refine g_get (pc := 41) (v := .ref (ad 23)) hC hU hH gk0_0 g_cl10 3 (by decide) kf_X10_35 rfl dX10_give_41 ?_
      refine lv_aload_n (pc := 44) hx hb dX10_give_44 rfl (lv_at hl 1 rfl) ?_
      refine g_get (pc := 45) (v := .ref (ad 20)) hC hU hH gk0_0 g_cl10 2 (by decide) kf_X10_28 rfl dX10_give_45 ?_
      obtain ⟨q0_2, hq0_2, hf⟩ := gbd hf
      refine g_callVv (pc := 48) (rest := []) hC hU hH hS hl.1 gk0_23 rfl (by decide) (mX1_keep gk0_20 hq0_2) ky_X1_keep km_X10_202 ⟨Nat.le_of_ble_eq_true rfl, Nat.le_of_ble_eq_true rfl⟩ ⟨Nat.zero_le _, Nat.zero_le _⟩ rfl (Nat.le_of_ble_eq_true rfl) dX10_give_48 rfl (fun H locs hH hS => ?_)
      refine lv_iload_n (pc := 51) hx hb dX10_give_51 rfl (lv_at hl 0 rfl) ?_
      exact g_iret (pc := 52) hC hret hlk hH hS hf dX10_give_52
    · have hf := gif_p hc hf
      refine lv_iconst (v := (-1)) (pc := 22) hx hb dX10_give_22 (by decide) ?_
      exact g_iret (pc := 23) hC hret hlk hH hS hf dX10_give_23
set_option maxRecDepth 100000 in
set_option maxHeartbeats 4000000 in
theorem mX10_give {l : Launch} {D : va_G} {cA : Nat → ClassId} {ad : Nat → Nat} {a1 : Int32}  {r : Int32} {st st' : gS} (hf : fX10_give a1 st = some (r, st')) : gM l yX10_give cX10_give 3 (some .int) 3 0 D cA ad st [.ref (ad 0), .int a1] (some (.int r)) st' := by
  refine g_met (by decide) (Nat.le_of_ble_eq_true rfl) ?_
  intro p e s m args below meth c ls hC hret hlk hU hH hl
  exact bX10_give_0 hC hret hlk hU hf hH va_S.rf hl
def fX8_worthToAll_4 (t : Nat) (a1 : Int32) (k4 : Int32 → Int32 → gS → Option (Int32 × gS)) (l2 : Int32) (l3 : Int32) (st : gS) : Option (Int32 × gS) :=
  if (st.1 t 13) ≤ l3 then (some (l2, st)) else ((fX8_worthOf t l3 a1 st).bind fun q4_1 => (k4 (l2 + q4_1.1) (l3 + 1) q4_1.2))
set_option maxRecDepth 100000 in
set_option maxHeartbeats 4000000 in
theorem bX8_worthToAll_4 {t : Nat} {a1 : Int32} (hC : CallFix p m c cX8_worthToAll 4 s args lw_good RX8) (hret : meth.sig.returnType = (some .int)) (hlk : meth.locks = false) (hU : gU 0 D cA ad s) (ht : gK 0 t = 8) {r : Int32} {st' : gS} {k4 : Int32 → Int32 → gS → Option (Int32 × gS)} (hk4 : ∀ {l2 : Int32} {l3 : Int32} {st : gS} {H : Heap} {locs : List Loc} {ls : Array Slot}, k4 l2 l3 st = some (r, st') → gP0 0 D cA ad st H → va_S (gA 0 ad) s.heap H locs → lv_has ls 4 [(0, .ref (ad t)), (1, .int a1), (2, .int l2), (3, .int l3)] → W p l e (gRm 4) s m args below meth c H locs 0 0 (MQ below (gQc 0 D cA ad st' (some (.int r))) args s 0 0 (gA 0 ad)) (F0 m 4 ls [])) {l2 : Int32} {l3 : Int32} {st : gS} {H : Heap} {locs : List Loc} {ls : Array Slot} (hf : fX8_worthToAll_4 t a1 k4 l2 l3 st = some (r, st')) (hH : gP0 0 D cA ad st H) (hS : va_S (gA 0 ad) s.heap H locs) (hl : lv_has ls 4 [(0, .ref (ad t)), (1, .int a1), (2, .int l2), (3, .int l3)]) : W p l e (gRm 4) s m args below meth c H locs 0 0 (MQ below (gQc 0 D cA ad st' (some (.int r))) args s 0 0 (gA 0 ad)) (F0 m 4 ls []) := by
  obtain ⟨hx, hb, hml, hown, hts⟩ := id hC
  unfold fX8_worthToAll_4 at hf
  refine lv_iload_n (pc := 4) hx hb dX8_worthToAll_4 rfl (lv_at hl 3 rfl) ?_
  refine lv_aload_n (pc := 5) hx hb dX8_worthToAll_5 rfl (lv_at hl 0 rfl) ?_
  refine g_get (pc := 6) (v := .int (st.1 t 13)) hC hU hH ht g_cl8 13 (by decide) kf_X8_57 rfl dX8_worthToAll_6 ?_
  refine lv_icmp_ge (tgt := 27) (pc := 9) hx hb dX8_worthToAll_9 (by decide) (fun hc => ?_) (fun hc => ?_)
  · have hf := gif_p hc hf
    refine lv_iload_n (pc := 27) hx hb dX8_worthToAll_27 rfl (lv_at hl 2 rfl) ?_
    exact g_iret (pc := 28) hC hret hlk hH hS hf dX8_worthToAll_28
  · have hf := gif_n hc hf
    refine lv_iload_n (pc := 12) hx hb dX8_worthToAll_12 rfl (lv_at hl 2 rfl) ?_
    refine lv_aload_n (pc := 13) hx hb dX8_worthToAll_13 rfl (lv_at hl 0 rfl) ?_
    refine lv_iload_n (pc := 14) hx hb dX8_worthToAll_14 rfl (lv_at hl 3 rfl) ?_
    refine lv_iload_n (pc := 15) hx hb dX8_worthToAll_15 rfl (lv_at hl 1 rfl) ?_
    obtain ⟨q4_1, hq4_1, hf⟩ := gbd hf
    refine g_callVi (pc := 16) (rest := [.int l2]) hC hU hH hS hl.1 ht rfl (by decide) (mX8_worthOf ht hq4_1) ky_X8_worthOf km_X8_92 ⟨Nat.le_of_ble_eq_true rfl, Nat.le_of_ble_eq_true rfl⟩ ⟨Nat.zero_le _, Nat.zero_le _⟩ rfl (Nat.le_of_ble_eq_true rfl) dX8_worthToAll_16 rfl (fun H locs hH hS => ?_)
    refine lv_iadd (pc := 19) hx hb dX8_worthToAll_19 ?_
    refine lv_istore_n (lv' := [(2, .int (l2 + q4_1.1)), (0, .ref (ad t)), (1, .int a1), (3, .int l3)]) (pc := 20) hx hb dX8_worthToAll_20 rfl hl (by decide) rfl (fun ls hl => ?_)
    refine lv_iinc (v := l3 + 1) (lv' := [(3, .int (l3 + 1)), (2, .int (l2 + q4_1.1)), (0, .ref (ad t)), (1, .int a1)]) (k := 3) (pc := 21) hx hb dX8_worthToAll_21 hl rfl rfl (by decide) rfl (fun ls hl => ?_)
    refine lv_goto (tgt := 4) (pc := 24) hx hb dX8_worthToAll_24 (by decide) ?_
    exact hk4 hf hH hS (lv_sub hl [2, 3, 1, 0] rfl)
def hX8_worthToAll_4 (t : Nat) (a1 : Int32)  : Nat → Int32 → Int32 → gS → Option (Int32 × gS)
  | 0 => fun _ _ _ => none
  | n + 1 => fun l2 l3 st => fX8_worthToAll_4 t a1 (hX8_worthToAll_4 t a1 n) l2 l3 st
set_option maxRecDepth 100000 in
set_option maxHeartbeats 4000000 in
theorem wX8_worthToAll_4 {t : Nat} {a1 : Int32} (hC : CallFix p m c cX8_worthToAll 4 s args lw_good RX8) (hret : meth.sig.returnType = (some .int)) (hlk : meth.locks = false) (hU : gU 0 D cA ad s) (ht : gK 0 t = 8) {r : Int32} {st' : gS}  : ∀ (n : Nat) {l2 : Int32} {l3 : Int32} {st : gS} {H : Heap} {locs : List Loc} {ls : Array Slot}, hX8_worthToAll_4 t a1 n l2 l3 st = some (r, st') → gP0 0 D cA ad st H → va_S (gA 0 ad) s.heap H locs → lv_has ls 4 [(0, .ref (ad t)), (1, .int a1), (2, .int l2), (3, .int l3)] → W p l e (gRm 4) s m args below meth c H locs 0 0 (MQ below (gQc 0 D cA ad st' (some (.int r))) args s 0 0 (gA 0 ad)) (F0 m 4 ls []) := by
  intro n
  induction n with
  | zero => intro l2 l3 st H locs ls hf hH hS hl; cases hf
  | succ n ih =>
    intro l2 l3 st H locs ls hf hH hS hl
    exact bX8_worthToAll_4 (t := t) (a1 := a1) hC hret hlk hU ht (fun hf hH hS hl => ih hf hH hS hl) hf hH hS hl
def fX8_worthToAll (t : Nat) (a1 : Int32)   (st : gS) : Option (Int32 × gS) :=
  hX8_worthToAll_4 t a1 FU 0 0 st
set_option maxRecDepth 100000 in
set_option maxHeartbeats 4000000 in
theorem bX8_worthToAll_0 {t : Nat} {a1 : Int32} (hC : CallFix p m c cX8_worthToAll 4 s args lw_good RX8) (hret : meth.sig.returnType = (some .int)) (hlk : meth.locks = false) (hU : gU 0 D cA ad s) (ht : gK 0 t = 8) {r : Int32} {st' : gS}   {st : gS} {H : Heap} {locs : List Loc} {ls : Array Slot} (hf : fX8_worthToAll t a1 st = some (r, st')) (hH : gP0 0 D cA ad st H) (hS : va_S (gA 0 ad) s.heap H locs) (hl : lv_has ls 4 [(0, .ref (ad t)), (1, .int a1)]) : W p l e (gRm 4) s m args below meth c H locs 0 0 (MQ below (gQc 0 D cA ad st' (some (.int r))) args s 0 0 (gA 0 ad)) (F0 m 0 ls []) := by
  obtain ⟨hx, hb, hml, hown, hts⟩ := id hC
  unfold fX8_worthToAll at hf
  refine lv_iconst (v := 0) (pc := 0) hx hb dX8_worthToAll_0 (by decide) ?_
  refine lv_istore_n (lv' := [(2, .int 0), (0, .ref (ad t)), (1, .int a1)]) (pc := 1) hx hb dX8_worthToAll_1 rfl hl (by decide) rfl (fun ls hl => ?_)
  refine lv_iconst (v := 0) (pc := 2) hx hb dX8_worthToAll_2 (by decide) ?_
  refine lv_istore_n (lv' := [(3, .int 0), (2, .int 0), (0, .ref (ad t)), (1, .int a1)]) (pc := 3) hx hb dX8_worthToAll_3 rfl hl (by decide) rfl (fun ls hl => ?_)
  exact wX8_worthToAll_4 hC hret hlk hU ht FU hf hH hS (lv_sub hl [2, 3, 1, 0] rfl)
set_option maxRecDepth 100000 in
set_option maxHeartbeats 4000000 in
theorem mX8_worthToAll {l : Launch} {D : va_G} {cA : Nat → ClassId} {ad : Nat → Nat} {t : Nat} {a1 : Int32} (ht : gK 0 t = 8) {r : Int32} {st st' : gS} (hf : fX8_worthToAll t a1 st = some (r, st')) : gM l yX8_worthToAll cX8_worthToAll 4 (some .int) 4 0 D cA ad st [.ref (ad t), .int a1] (some (.int r)) st' := by
  refine g_met (by decide) (Nat.le_of_ble_eq_true rfl) ?_
  intro p e s m args below meth c ls hC hret hlk hU hH hl
  exact bX8_worthToAll_0 hC hret hlk hU ht hf hH va_S.rf hl
def fX5_sleep_84 (t : Nat) (r1 : Nat)   (st : gS) : Option (gS) :=
  some (wi (wi st t 5 0) t 8 (((wi st t 5 0).1 t 8) + 1))
set_option maxRecDepth 100000 in
set_option maxHeartbeats 4000000 in
theorem bX5_sleep_84 {t : Nat} {r1 : Nat} (hC : CallFix p m c cX5_sleep 3 s args lw_good RX5) (hret : meth.sig.returnType = none) (hlk : meth.locks = false) (hU : gU 0 D cA ad s) (ht : gK 0 t = 5) (hr1 : gK 0 r1 = 8) {st' : gS}   {st : gS} {H : Heap} {locs : List Loc} {ls : Array Slot} (hf : fX5_sleep_84 t r1 st = some st') (hH : gP0 0 D cA ad st H) (hS : va_S (gA 0 ad) s.heap H locs) (hl : lv_has ls 3 [(0, .ref (ad t))]) : W p l e (gRm 4) s m args below meth c H locs 0 0 (MQ below (gQc 0 D cA ad st' none) args s 0 0 (gA 0 ad)) (F0 m 84 ls []) := by
  obtain ⟨hx, hb, hml, hown, hts⟩ := id hC
  unfold fX5_sleep_84 at hf
  refine lv_aload_n (pc := 84) hx hb dX5_sleep_84 rfl (lv_at hl 0 rfl) ?_
  refine lv_iconst (v := 0) (pc := 85) hx hb dX5_sleep_85 (by decide) ?_
  refine g_puti (pc := 86) hC hU hH hS ht g_cl5 5 (by decide) kf_X5_28 rfl rfl rfl rfl dX5_sleep_86 (fun H locs hH hS => ?_)
  refine lv_aload_n (pc := 89) hx hb dX5_sleep_89 rfl (lv_at hl 0 rfl) ?_
  refine lv_dup (pc := 90) hx hb dX5_sleep_90 rfl ?_
  refine g_get (pc := 91) (v := .int ((wi st t 5 0).1 t 8)) hC hU hH ht g_cl5 8 (by decide) kf_X5_37 rfl dX5_sleep_91 ?_
  refine lv_iconst (v := 1) (pc := 94) hx hb dX5_sleep_94 (by decide) ?_
  refine lv_iadd (pc := 95) hx hb dX5_sleep_95 ?_
  refine g_puti (pc := 96) hC hU hH hS ht g_cl5 8 (by decide) kf_X5_37 rfl rfl rfl rfl dX5_sleep_96 (fun H locs hH hS => ?_)
  exact g_vret (pc := 99) hC hret hlk hH hS hf dX5_sleep_99
def fX5_sleep_58 (t : Nat) (r1 : Nat)   (st : gS) : Option (gS) :=
  if ((wi st t 4 ((st.1 t 4) + 1)).1 t 4) < ((wi st t 4 ((st.1 t 4) + 1)).1 r1 16) then (fX5_sleep_84 t r1 (wi st t 4 ((st.1 t 4) + 1))) else ((fX5_drop t r1 (wi st t 4 ((st.1 t 4) + 1))).bind fun q58_1 => (fX5_sleep_84 t r1 q58_1))
set_option maxRecDepth 100000 in
set_option maxHeartbeats 4000000 in
theorem bX5_sleep_58 {t : Nat} {r1 : Nat} (hC : CallFix p m c cX5_sleep 3 s args lw_good RX5) (hret : meth.sig.returnType = none) (hlk : meth.locks = false) (hU : gU 0 D cA ad s) (ht : gK 0 t = 5) (hr1 : gK 0 r1 = 8) {st' : gS}   {st : gS} {H : Heap} {locs : List Loc} {ls : Array Slot} (hf : fX5_sleep_58 t r1 st = some st') (hH : gP0 0 D cA ad st H) (hS : va_S (gA 0 ad) s.heap H locs) (hl : lv_has ls 3 [(0, .ref (ad t)), (1, .ref (ad r1))]) : W p l e (gRm 4) s m args below meth c H locs 0 0 (MQ below (gQc 0 D cA ad st' none) args s 0 0 (gA 0 ad)) (F0 m 58 ls []) := by
  obtain ⟨hx, hb, hml, hown, hts⟩ := id hC
  unfold fX5_sleep_58 at hf
  refine lv_aload_n (pc := 58) hx hb dX5_sleep_58 rfl (lv_at hl 0 rfl) ?_
  refine lv_dup (pc := 59) hx hb dX5_sleep_59 rfl ?_
  refine g_get (pc := 60) (v := .int (st.1 t 4)) hC hU hH ht g_cl5 4 (by decide) kf_X5_25 rfl dX5_sleep_60 ?_
  refine lv_iconst (v := 1) (pc := 63) hx hb dX5_sleep_63 (by decide) ?_
  refine lv_iadd (pc := 64) hx hb dX5_sleep_64 ?_
  refine g_puti (pc := 65) hC hU hH hS ht g_cl5 4 (by decide) kf_X5_25 rfl rfl rfl rfl dX5_sleep_65 (fun H locs hH hS => ?_)
  refine lv_aload_n (pc := 68) hx hb dX5_sleep_68 rfl (lv_at hl 0 rfl) ?_
  refine g_get (pc := 69) (v := .int ((wi st t 4 ((st.1 t 4) + 1)).1 t 4)) hC hU hH ht g_cl5 4 (by decide) kf_X5_25 rfl dX5_sleep_69 ?_
  refine lv_aload_n (pc := 72) hx hb dX5_sleep_72 rfl (lv_at hl 1 rfl) ?_
  refine g_get (pc := 73) (v := .int ((wi st t 4 ((st.1 t 4) + 1)).1 r1 16)) hC hU hH hr1 g_cl8 16 (by decide) kf_X5_91 rfl dX5_sleep_73 ?_
  refine lv_icmp_lt (tgt := 84) (pc := 76) hx hb dX5_sleep_76 (by decide) (fun hc => ?_) (fun hc => ?_)
  · have hf := gif_p hc hf
    exact bX5_sleep_84 hC hret hlk hU ht hr1 hf hH hS (lv_sub hl [0] rfl)
  · have hf := gif_n hc hf
    refine lv_aload_n (pc := 79) hx hb dX5_sleep_79 rfl (lv_at hl 0 rfl) ?_
    refine lv_aload_n (pc := 80) hx hb dX5_sleep_80 rfl (lv_at hl 1 rfl) ?_
    obtain ⟨q58_1, hq58_1, hf⟩ := gbd hf
    refine g_callVv (pc := 81) (rest := []) hC hU hH hS hl.1 ht rfl (by decide) (mX5_drop ht hr1 hq58_1) ky_X5_drop km_X5_80 ⟨Nat.le_of_ble_eq_true rfl, Nat.le_of_ble_eq_true rfl⟩ ⟨Nat.zero_le _, Nat.zero_le _⟩ rfl (Nat.le_of_ble_eq_true rfl) dX5_sleep_81 rfl (fun H locs hH hS => ?_)
    exact bX5_sleep_84 hC hret hlk hU ht hr1 hf hH hS (lv_sub hl [0] rfl)
def fX5_sleep_2 (t : Nat) (r1 : Nat) (k2 : Int32 → gS → Option (gS)) (l2 : Int32) (st : gS) : Option (gS) :=
  if (st.1 r1 13) ≤ l2 then ((fX8_hasTribe r1 (st.1 t 3) st).bind fun q2_1 => (if q2_1.1 = 0 then (fX5_sleep_58 t r1 q2_1.2) else (gc (gI (q2_1.2.1 t 3) 5) (gc (gI (q2_1.2.1 t 3) 5) (fX5_sleep_58 t r1 (wi q2_1.2 (t + 1 + 1) (q2_1.2.1 t 3).toNatClampNeg ((q2_1.2.1 (t + 1 + 1) (q2_1.2.1 t 3).toNatClampNeg) + 1))))))) else (gc (gI l2 5) ((fX8_worthOf r1 l2 (st.1 t 2) st).bind fun q2_2 => (gc (gI l2 5) (k2 (l2 + 1) (wi q2_2.2 (t + 1 + 0) l2.toNatClampNeg ((st.1 (t + 1 + 0) l2.toNatClampNeg) + q2_2.1))))))
set_option maxRecDepth 100000 in
set_option maxHeartbeats 4000000 in
theorem bX5_sleep_2 {t : Nat} {r1 : Nat} (hC : CallFix p m c cX5_sleep 3 s args lw_good RX5) (hret : meth.sig.returnType = none) (hlk : meth.locks = false) (hU : gU 0 D cA ad s) (ht : gK 0 t = 5) (hr1 : gK 0 r1 = 8) {st' : gS} {k2 : Int32 → gS → Option (gS)} (hk2 : ∀ {l2 : Int32} {st : gS} {H : Heap} {locs : List Loc} {ls : Array Slot}, k2 l2 st = some st' → gP0 0 D cA ad st H → va_S (gA 0 ad) s.heap H locs → lv_has ls 3 [(0, .ref (ad t)), (1, .ref (ad r1)), (2, .int l2)] → W p l e (gRm 4) s m args below meth c H locs 0 0 (MQ below (gQc 0 D cA ad st' none) args s 0 0 (gA 0 ad)) (F0 m 2 ls [])) {l2 : Int32} {st : gS} {H : Heap} {locs : List Loc} {ls : Array Slot} (hf : fX5_sleep_2 t r1 k2 l2 st = some st') (hH : gP0 0 D cA ad st H) (hS : va_S (gA 0 ad) s.heap H locs) (hl : lv_has ls 3 [(0, .ref (ad t)), (1, .ref (ad r1)), (2, .int l2)]) : W p l e (gRm 4) s m args below meth c H locs 0 0 (MQ below (gQc 0 D cA ad st' none) args s 0 0 (gA 0 ad)) (F0 m 2 ls []) := by
  obtain ⟨hx, hb, hml, hown, hts⟩ := id hC
  unfold fX5_sleep_2 at hf
  refine lv_iload_n (pc := 2) hx hb dX5_sleep_2 rfl (lv_at hl 2 rfl) ?_
  refine lv_aload_n (pc := 3) hx hb dX5_sleep_3 rfl (lv_at hl 1 rfl) ?_
  refine g_get (pc := 4) (v := .int (st.1 r1 13)) hC hU hH hr1 g_cl8 13 (by decide) kf_X5_54 rfl dX5_sleep_4 ?_
  refine lv_icmp_ge (tgt := 34) (pc := 7) hx hb dX5_sleep_7 (by decide) (fun hc => ?_) (fun hc => ?_)
  · have hf := gif_p hc hf
    refine lv_aload_n (pc := 34) hx hb dX5_sleep_34 rfl (lv_at hl 1 rfl) ?_
    refine lv_aload_n (pc := 35) hx hb dX5_sleep_35 rfl (lv_at hl 0 rfl) ?_
    refine g_get (pc := 36) (v := .int (st.1 t 3)) hC hU hH ht g_cl5 3 (by decide) kf_X5_22 rfl dX5_sleep_36 ?_
    obtain ⟨q2_1, hq2_1, hf⟩ := gbd hf
    refine g_callVi (pc := 39) (rest := []) hC hU hH hS hl.1 hr1 rfl (by decide) (mX8_hasTribe hr1 hq2_1) ky_X8_hasTribe km_X5_88 ⟨Nat.le_of_ble_eq_true rfl, Nat.le_of_ble_eq_true rfl⟩ ⟨Nat.zero_le _, Nat.zero_le _⟩ rfl (Nat.le_of_ble_eq_true rfl) dX5_sleep_39 rfl (fun H locs hH hS => ?_)
    refine lv_if_eq (tgt := 58) (pc := 42) hx hb dX5_sleep_42 (by decide) (fun hc => ?_) (fun hc => ?_)
    · have hf := gif_p hc hf
      exact bX5_sleep_58 hC hret hlk hU ht hr1 hf hH hS (lv_sub hl [0, 1] rfl)
    · have hf := gif_n hc hf
      refine lv_aload_n (pc := 45) hx hb dX5_sleep_45 rfl (lv_at hl 0 rfl) ?_
      refine g_get (pc := 46) (v := .ref (ad (t + 1 + 1))) hC hU hH ht g_cl5 1 (by decide) kf_X5_15 rfl dX5_sleep_46 ?_
      refine lv_aload_n (pc := 49) hx hb dX5_sleep_49 rfl (lv_at hl 0 rfl) ?_
      refine g_get (pc := 50) (v := .int (q2_1.2.1 t 3)) hC hU hH ht g_cl5 3 (by decide) kf_X5_22 rfl dX5_sleep_50 ?_
      refine lv_dup2_11 (pc := 53) hx hb dX5_sleep_53 rfl rfl ?_
      obtain ⟨h2_1, hf⟩ := gc_s hf
      refine g_iald (pc := 54) hC hU hH (gk_5_1 ht) (gn_5_1 ht) h2_1 dX5_sleep_54 ?_
      refine lv_iconst (v := 1) (pc := 55) hx hb dX5_sleep_55 (by decide) ?_
      refine lv_iadd (pc := 56) hx hb dX5_sleep_56 ?_
      obtain ⟨h2_2, hf⟩ := gc_s hf
      refine g_iast (pc := 57) hC hU hH hS (gk_5_1 ht) (gn_5_1 ht) h2_2 dX5_sleep_57 (fun H locs hH hS => ?_)
      exact bX5_sleep_58 hC hret hlk hU ht hr1 hf hH hS (lv_sub hl [0, 1] rfl)
  · have hf := gif_n hc hf
    refine lv_aload_n (pc := 10) hx hb dX5_sleep_10 rfl (lv_at hl 0 rfl) ?_
    refine g_get (pc := 11) (v := .ref (ad (t + 1 + 0))) hC hU hH ht g_cl5 0 (by decide) kf_X5_9 rfl dX5_sleep_11 ?_
    refine lv_iload_n (pc := 14) hx hb dX5_sleep_14 rfl (lv_at hl 2 rfl) ?_
    refine lv_dup2_11 (pc := 15) hx hb dX5_sleep_15 rfl rfl ?_
    obtain ⟨h2_3, hf⟩ := gc_s hf
    refine g_iald (pc := 16) hC hU hH (gk_5_0 ht) (gn_5_0 ht) h2_3 dX5_sleep_16 ?_
    refine lv_aload_n (pc := 17) hx hb dX5_sleep_17 rfl (lv_at hl 1 rfl) ?_
    refine lv_iload_n (pc := 18) hx hb dX5_sleep_18 rfl (lv_at hl 2 rfl) ?_
    refine lv_aload_n (pc := 19) hx hb dX5_sleep_19 rfl (lv_at hl 0 rfl) ?_
    refine g_get (pc := 20) (v := .int (st.1 t 2)) hC hU hH ht g_cl5 2 (by decide) kf_X5_18 rfl dX5_sleep_20 ?_
    obtain ⟨q2_2, hq2_2, hf⟩ := gbd hf
    refine g_callVi (pc := 23) (rest := [.int (st.1 (t + 1 + 0) l2.toNatClampNeg), .int l2, .ref (ad (t + 1 + 0))]) hC hU hH hS hl.1 hr1 rfl (by decide) (mX8_worthOf hr1 hq2_2) ky_X8_worthOf km_X5_84 ⟨Nat.le_of_ble_eq_true rfl, Nat.le_of_ble_eq_true rfl⟩ ⟨Nat.zero_le _, Nat.zero_le _⟩ rfl (Nat.le_of_ble_eq_true rfl) dX5_sleep_23 rfl (fun H locs hH hS => ?_)
    refine lv_iadd (pc := 26) hx hb dX5_sleep_26 ?_
    obtain ⟨h2_4, hf⟩ := gc_s hf
    refine g_iast (pc := 27) hC hU hH hS (gk_5_0 ht) (gn_5_0 ht) h2_4 dX5_sleep_27 (fun H locs hH hS => ?_)
    refine lv_iinc (v := l2 + 1) (lv' := [(2, .int (l2 + 1)), (0, .ref (ad t)), (1, .ref (ad r1))]) (k := 2) (pc := 28) hx hb dX5_sleep_28 hl rfl rfl (by decide) rfl (fun ls hl => ?_)
    refine lv_goto (tgt := 2) (pc := 31) hx hb dX5_sleep_31 (by decide) ?_
    exact hk2 hf hH hS (lv_sub hl [1, 2, 0] rfl)
def hX5_sleep_2 (t : Nat) (r1 : Nat)  : Nat → Int32 → gS → Option (gS)
  | 0 => fun _ _ => none
  | n + 1 => fun l2 st => fX5_sleep_2 t r1 (hX5_sleep_2 t r1 n) l2 st
set_option maxRecDepth 100000 in
set_option maxHeartbeats 4000000 in
theorem wX5_sleep_2 {t : Nat} {r1 : Nat} (hC : CallFix p m c cX5_sleep 3 s args lw_good RX5) (hret : meth.sig.returnType = none) (hlk : meth.locks = false) (hU : gU 0 D cA ad s) (ht : gK 0 t = 5) (hr1 : gK 0 r1 = 8) {st' : gS}  : ∀ (n : Nat) {l2 : Int32} {st : gS} {H : Heap} {locs : List Loc} {ls : Array Slot}, hX5_sleep_2 t r1 n l2 st = some st' → gP0 0 D cA ad st H → va_S (gA 0 ad) s.heap H locs → lv_has ls 3 [(0, .ref (ad t)), (1, .ref (ad r1)), (2, .int l2)] → W p l e (gRm 4) s m args below meth c H locs 0 0 (MQ below (gQc 0 D cA ad st' none) args s 0 0 (gA 0 ad)) (F0 m 2 ls []) := by
  intro n
  induction n with
  | zero => intro l2 st H locs ls hf hH hS hl; cases hf
  | succ n ih =>
    intro l2 st H locs ls hf hH hS hl
    exact bX5_sleep_2 (t := t) (r1 := r1) hC hret hlk hU ht hr1 (fun hf hH hS hl => ih hf hH hS hl) hf hH hS hl
def fX5_sleep (t : Nat) (r1 : Nat)   (st : gS) : Option (gS) :=
  hX5_sleep_2 t r1 FU 0 st
set_option maxRecDepth 100000 in
set_option maxHeartbeats 4000000 in
theorem bX5_sleep_0 {t : Nat} {r1 : Nat} (hC : CallFix p m c cX5_sleep 3 s args lw_good RX5) (hret : meth.sig.returnType = none) (hlk : meth.locks = false) (hU : gU 0 D cA ad s) (ht : gK 0 t = 5) (hr1 : gK 0 r1 = 8) {st' : gS}   {st : gS} {H : Heap} {locs : List Loc} {ls : Array Slot} (hf : fX5_sleep t r1 st = some st') (hH : gP0 0 D cA ad st H) (hS : va_S (gA 0 ad) s.heap H locs) (hl : lv_has ls 3 [(0, .ref (ad t)), (1, .ref (ad r1))]) : W p l e (gRm 4) s m args below meth c H locs 0 0 (MQ below (gQc 0 D cA ad st' none) args s 0 0 (gA 0 ad)) (F0 m 0 ls []) := by
  obtain ⟨hx, hb, hml, hown, hts⟩ := id hC
  unfold fX5_sleep at hf
  refine lv_iconst (v := 0) (pc := 0) hx hb dX5_sleep_0 (by decide) ?_
  refine lv_istore_n (lv' := [(2, .int 0), (0, .ref (ad t)), (1, .ref (ad r1))]) (pc := 1) hx hb dX5_sleep_1 rfl hl (by decide) rfl (fun ls hl => ?_)
  exact wX5_sleep_2 hC hret hlk hU ht hr1 FU hf hH hS (lv_sub hl [1, 2, 0] rfl)
set_option maxRecDepth 100000 in
set_option maxHeartbeats 4000000 in
theorem mX5_sleep {l : Launch} {D : va_G} {cA : Nat → ClassId} {ad : Nat → Nat} {t : Nat} {r1 : Nat} (ht : gK 0 t = 5) (hr1 : gK 0 r1 = 8) {st st' : gS} (hf : fX5_sleep t r1 st = some st') : gM l yX5_sleep cX5_sleep 3 none 4 0 D cA ad st [.ref (ad t), .ref (ad r1)] none st' := by
  refine g_met (by decide) (Nat.le_of_ble_eq_true rfl) ?_
  intro p e s m args below meth c ls hC hret hlk hU hH hl
  exact bX5_sleep_0 hC hret hlk hU ht hr1 hf hH va_S.rf hl
def fX10_night    (st : gS) : Option (Int32 × gS) :=
  if (st.1 20 8) < 999 then (gc (gK 0 (st.2.2 0 9) = 8) ((fX8_worthToAll (st.2.2 0 9) (st.1 20 2) st).bind fun q0_1 => (gc (gK 0 (q0_1.2.2.2 0 9) = 8) ((fX5_sleep 20 (q0_1.2.2.2 0 9) q0_1.2).bind fun q0_2 => ((fX1_keep 20 q0_2).bind fun q0_3 => (some (q0_1.1, q0_3))))))) else (some ((-1), st))
set_option maxRecDepth 100000 in
set_option maxHeartbeats 4000000 in
theorem bX10_night_0  (hC : CallFix p m c cX10_night 2 s args lw_good RX10) (hret : meth.sig.returnType = (some .int)) (hlk : meth.locks = false) (hU : gU 0 D cA ad s)  {r : Int32} {st' : gS}   {st : gS} {H : Heap} {locs : List Loc} {ls : Array Slot} (hf : fX10_night st = some (r, st')) (hH : gP0 0 D cA ad st H) (hS : va_S (gA 0 ad) s.heap H locs) (hl : lv_has ls 2 [(0, .ref (ad 0))]) : W p l e (gRm 5) s m args below meth c H locs 0 0 (MQ below (gQc 0 D cA ad st' (some (.int r))) args s 0 0 (gA 0 ad)) (F0 m 0 ls []) := by
  obtain ⟨hx, hb, hml, hown, hts⟩ := id hC
  unfold fX10_night at hf
  refine lv_aload_n (pc := 0) hx hb dX10_night_0 rfl (lv_at hl 0 rfl) ?_
  refine g_get (pc := 1) (v := .ref (ad 20)) hC hU hH gk0_0 g_cl10 2 (by decide) kf_X10_28 rfl dX10_night_1 ?_
  refine g_get (pc := 4) (v := .int (st.1 20 8)) hC hU hH gk0_20 g_cl5 8 (by decide) kf_X10_214 rfl dX10_night_4 ?_
  refine lv_sipush (v := 999) (pc := 7) hx hb dX10_night_7 (by decide) ?_
  refine lv_icmp_lt (tgt := 15) (pc := 10) hx hb dX10_night_10 (by decide) (fun hc => ?_) (fun hc => ?_)
  · have hf := gif_p hc hf
    refine lv_aload_n (pc := 15) hx hb dX10_night_15 rfl (lv_at hl 0 rfl) ?_
    refine g_get (pc := 16) (v := .ref (ad (st.2.2 0 9))) hC hU hH gk0_0 g_cl10 9 (by decide) kf_X10_71 rfl dX10_night_16 ?_
    refine lv_aload_n (pc := 19) hx hb dX10_night_19 rfl (lv_at hl 0 rfl) ?_
    refine g_get (pc := 20) (v := .ref (ad 20)) hC hU hH gk0_0 g_cl10 2 (by decide) kf_X10_28 rfl dX10_night_20 ?_
    refine g_get (pc := 23) (v := .int (st.1 20 2)) hC hU hH gk0_20 g_cl5 2 (by decide) kf_X10_155 rfl dX10_night_23 ?_
    obtain ⟨h0_1, hf⟩ := gc_s hf
    obtain ⟨q0_1, hq0_1, hf⟩ := gbd hf
    refine g_callVi (pc := 26) (rest := []) hC hU hH hS hl.1 h0_1 rfl (by decide) (mX8_worthToAll h0_1 hq0_1) ky_X8_worthToAll km_X10_217 ⟨Nat.le_of_ble_eq_true rfl, Nat.le_of_ble_eq_true rfl⟩ ⟨Nat.zero_le _, Nat.zero_le _⟩ rfl (Nat.le_of_ble_eq_true rfl) dX10_night_26 rfl (fun H locs hH hS => ?_)
    refine lv_istore_n (lv' := [(1, .int q0_1.1), (0, .ref (ad 0))]) (pc := 29) hx hb dX10_night_29 rfl hl (by decide) rfl (fun ls hl => ?_)
    refine lv_aload_n (pc := 30) hx hb dX10_night_30 rfl (lv_at hl 1 rfl) ?_
    refine g_get (pc := 31) (v := .ref (ad 20)) hC hU hH gk0_0 g_cl10 2 (by decide) kf_X10_28 rfl dX10_night_31 ?_
    refine lv_aload_n (pc := 34) hx hb dX10_night_34 rfl (lv_at hl 1 rfl) ?_
    refine g_get (pc := 35) (v := .ref (ad (q0_1.2.2.2 0 9))) hC hU hH gk0_0 g_cl10 9 (by decide) kf_X10_71 rfl dX10_night_35 ?_
    obtain ⟨h0_2, hf⟩ := gc_s hf
    obtain ⟨q0_2, hq0_2, hf⟩ := gbd hf
    refine g_callVv (pc := 38) (rest := []) hC hU hH hS hl.1 gk0_20 rfl (by decide) (mX5_sleep gk0_20 h0_2 hq0_2) ky_X5_sleep km_X10_220 ⟨Nat.le_of_ble_eq_true rfl, Nat.le_of_ble_eq_true rfl⟩ ⟨Nat.zero_le _, Nat.zero_le _⟩ rfl (Nat.le_of_ble_eq_true rfl) dX10_night_38 rfl (fun H locs hH hS => ?_)
    refine lv_aload_n (pc := 41) hx hb dX10_night_41 rfl (lv_at hl 1 rfl) ?_
    refine g_get (pc := 42) (v := .ref (ad 23)) hC hU hH gk0_0 g_cl10 3 (by decide) kf_X10_35 rfl dX10_night_42 ?_
    refine lv_aload_n (pc := 45) hx hb dX10_night_45 rfl (lv_at hl 1 rfl) ?_
    refine g_get (pc := 46) (v := .ref (ad 20)) hC hU hH gk0_0 g_cl10 2 (by decide) kf_X10_28 rfl dX10_night_46 ?_
    obtain ⟨q0_3, hq0_3, hf⟩ := gbd hf
    refine g_callVv (pc := 49) (rest := []) hC hU hH hS hl.1 gk0_23 rfl (by decide) (mX1_keep gk0_20 hq0_3) ky_X1_keep km_X10_202 ⟨Nat.le_of_ble_eq_true rfl, Nat.le_of_ble_eq_true rfl⟩ ⟨Nat.zero_le _, Nat.zero_le _⟩ rfl (Nat.le_of_ble_eq_true rfl) dX10_night_49 rfl (fun H locs hH hS => ?_)
    refine lv_iload_n (pc := 52) hx hb dX10_night_52 rfl (lv_at hl 0 rfl) ?_
    exact g_iret (pc := 53) hC hret hlk hH hS hf dX10_night_53
  · have hf := gif_n hc hf
    refine lv_iconst (v := (-1)) (pc := 13) hx hb dX10_night_13 (by decide) ?_
    exact g_iret (pc := 14) hC hret hlk hH hS hf dX10_night_14
set_option maxRecDepth 100000 in
set_option maxHeartbeats 4000000 in
theorem mX10_night {l : Launch} {D : va_G} {cA : Nat → ClassId} {ad : Nat → Nat}   {r : Int32} {st st' : gS} (hf : fX10_night  st = some (r, st')) : gM l yX10_night cX10_night 2 (some .int) 5 0 D cA ad st [.ref (ad 0)] (some (.int r)) st' := by
  refine g_met (by decide) (Nat.le_of_ble_eq_true rfl) ?_
  intro p e s m args below meth c ls hC hret hlk hU hH hl
  exact bX10_night_0 hC hret hlk hU hf hH va_S.rf hl
def fX1_stepBack (r1 : Nat)   (st : gS) : Option (Int32 × gS) :=
  if 0 < (st.1 23 1) then (gc (gI ((wi st 23 1 ((st.1 23 1) - 1)).1 23 1) 41) (gc (gK 0 ((wi st 23 1 ((st.1 23 1) - 1)).2.2 24 ((wi st 23 1 ((st.1 23 1) - 1)).1 23 1).toNatClampNeg) = 5) ((fX5_copy r1 ((wi st 23 1 ((st.1 23 1) - 1)).2.2 24 ((wi st 23 1 ((st.1 23 1) - 1)).1 23 1).toNatClampNeg) (wi st 23 1 ((st.1 23 1) - 1))).bind fun q0_1 => (some (1, q0_1))))) else (some (0, st))
set_option maxRecDepth 100000 in
set_option maxHeartbeats 4000000 in
theorem bX1_stepBack_0 {r1 : Nat} (hC : CallFix p m c cX1_stepBack 2 s args lw_good RX1) (hret : meth.sig.returnType = (some .boolean)) (hlk : meth.locks = false) (hU : gU 0 D cA ad s) (hr1 : gK 0 r1 = 5) {r : Int32} {st' : gS}   {st : gS} {H : Heap} {locs : List Loc} {ls : Array Slot} (hf : fX1_stepBack r1 st = some (r, st')) (hH : gP0 0 D cA ad st H) (hS : va_S (gA 0 ad) s.heap H locs) (hl : lv_has ls 2 [(0, .ref (ad 23)), (1, .ref (ad r1))]) : W p l e (gRm 2) s m args below meth c H locs 0 0 (MQ below (gQc 0 D cA ad st' (some (.int r))) args s 0 0 (gA 0 ad)) (F0 m 0 ls []) := by
  obtain ⟨hx, hb, hml, hown, hts⟩ := id hC
  unfold fX1_stepBack at hf
  refine lv_aload_n (pc := 0) hx hb dX1_stepBack_0 rfl (lv_at hl 0 rfl) ?_
  refine g_get (pc := 1) (v := .int (st.1 23 1)) hC hU hH gk0_23 g_cl1 1 (by decide) kf_X1_15 rfl dX1_stepBack_1 ?_
  refine lv_if_gt (tgt := 9) (pc := 4) hx hb dX1_stepBack_4 (by decide) (fun hc => ?_) (fun hc => ?_)
  · have hf := gif_p hc hf
    refine lv_aload_n (pc := 9) hx hb dX1_stepBack_9 rfl (lv_at hl 0 rfl) ?_
    refine lv_dup (pc := 10) hx hb dX1_stepBack_10 rfl ?_
    refine g_get (pc := 11) (v := .int (st.1 23 1)) hC hU hH gk0_23 g_cl1 1 (by decide) kf_X1_15 rfl dX1_stepBack_11 ?_
    refine lv_iconst (v := 1) (pc := 14) hx hb dX1_stepBack_14 (by decide) ?_
    refine lv_isub (pc := 15) hx hb dX1_stepBack_15 ?_
    refine g_puti (pc := 16) hC hU hH hS gk0_23 g_cl1 1 (by decide) kf_X1_15 rfl rfl rfl rfl dX1_stepBack_16 (fun H locs hH hS => ?_)
    refine lv_aload_n (pc := 19) hx hb dX1_stepBack_19 rfl (lv_at hl 1 rfl) ?_
    refine lv_aload_n (pc := 20) hx hb dX1_stepBack_20 rfl (lv_at hl 0 rfl) ?_
    refine g_get (pc := 21) (v := .ref (ad 24)) hC hU hH gk0_23 g_cl1 0 (by decide) kf_X1_11 rfl dX1_stepBack_21 ?_
    refine lv_aload_n (pc := 24) hx hb dX1_stepBack_24 rfl (lv_at hl 0 rfl) ?_
    refine g_get (pc := 25) (v := .int ((wi st 23 1 ((st.1 23 1) - 1)).1 23 1)) hC hU hH gk0_23 g_cl1 1 (by decide) kf_X1_15 rfl dX1_stepBack_25 ?_
    obtain ⟨h0_1, hf⟩ := gc_s hf
    refine g_aald (pc := 28) hC hU hH gk0_24 gn0_24 h0_1 dX1_stepBack_28 ?_
    obtain ⟨h0_2, hf⟩ := gc_s hf
    obtain ⟨q0_1, hq0_1, hf⟩ := gbd hf
    refine g_callVv (pc := 29) (rest := []) hC hU hH hS hl.1 hr1 rfl (by decide) (mX5_copy hr1 h0_2 hq0_1) ky_X5_copy km_X1_23 ⟨Nat.le_of_ble_eq_true rfl, Nat.le_of_ble_eq_true rfl⟩ ⟨Nat.zero_le _, Nat.zero_le _⟩ rfl (Nat.le_of_ble_eq_true rfl) dX1_stepBack_29 rfl (fun H locs hH hS => ?_)
    refine lv_iconst (v := 1) (pc := 32) hx hb dX1_stepBack_32 (by decide) ?_
    exact g_zret (pc := 33) hC hret hlk hH hS (by decide) hf dX1_stepBack_33
  · have hf := gif_n hc hf
    refine lv_iconst (v := 0) (pc := 7) hx hb dX1_stepBack_7 (by decide) ?_
    exact g_zret (pc := 8) hC hret hlk hH hS (by decide) hf dX1_stepBack_8
set_option maxRecDepth 100000 in
set_option maxHeartbeats 4000000 in
theorem mX1_stepBack {l : Launch} {D : va_G} {cA : Nat → ClassId} {ad : Nat → Nat} {r1 : Nat} (hr1 : gK 0 r1 = 5) {r : Int32} {st st' : gS} (hf : fX1_stepBack r1 st = some (r, st')) : gM l yX1_stepBack cX1_stepBack 2 (some .boolean) 2 0 D cA ad st [.ref (ad 23), .ref (ad r1)] (some (.int r)) st' := by
  refine g_met (by decide) (Nat.le_of_ble_eq_true rfl) ?_
  intro p e s m args below meth c ls hC hret hlk hU hH hl
  exact bX1_stepBack_0 hC hret hlk hU hr1 hf hH va_S.rf hl
def fX10_undo    (st : gS) : Option (Int32 × gS) :=
  (fX1_stepBack 20 st).bind fun q0_1 => (gc (gB q0_1.1) (some (q0_1.1, q0_1.2)))
set_option maxRecDepth 100000 in
set_option maxHeartbeats 4000000 in
theorem bX10_undo_0  (hC : CallFix p m c cX10_undo 1 s args lw_good RX10) (hret : meth.sig.returnType = (some .boolean)) (hlk : meth.locks = false) (hU : gU 0 D cA ad s)  {r : Int32} {st' : gS}   {st : gS} {H : Heap} {locs : List Loc} {ls : Array Slot} (hf : fX10_undo st = some (r, st')) (hH : gP0 0 D cA ad st H) (hS : va_S (gA 0 ad) s.heap H locs) (hl : lv_has ls 1 [(0, .ref (ad 0))]) : W p l e (gRm 3) s m args below meth c H locs 0 0 (MQ below (gQc 0 D cA ad st' (some (.int r))) args s 0 0 (gA 0 ad)) (F0 m 0 ls []) := by
  obtain ⟨hx, hb, hml, hown, hts⟩ := id hC
  unfold fX10_undo at hf
  refine lv_aload_n (pc := 0) hx hb dX10_undo_0 rfl (lv_at hl 0 rfl) ?_
  refine g_get (pc := 1) (v := .ref (ad 23)) hC hU hH gk0_0 g_cl10 3 (by decide) kf_X10_35 rfl dX10_undo_1 ?_
  refine lv_aload_n (pc := 4) hx hb dX10_undo_4 rfl (lv_at hl 0 rfl) ?_
  refine g_get (pc := 5) (v := .ref (ad 20)) hC hU hH gk0_0 g_cl10 2 (by decide) kf_X10_28 rfl dX10_undo_5 ?_
  obtain ⟨q0_1, hq0_1, hf⟩ := gbd hf
  refine g_callVi (pc := 8) (rest := []) hC hU hH hS hl.1 gk0_23 rfl (by decide) (mX1_stepBack gk0_20 hq0_1) ky_X1_stepBack km_X10_223 ⟨Nat.le_of_ble_eq_true rfl, Nat.le_of_ble_eq_true rfl⟩ ⟨Nat.zero_le _, Nat.zero_le _⟩ rfl (Nat.le_of_ble_eq_true rfl) dX10_undo_8 rfl (fun H locs hH hS => ?_)
  obtain ⟨h0_1, hf⟩ := gc_s hf
  exact g_zret (pc := 11) hC hret hlk hH hS h0_1 hf dX10_undo_11
set_option maxRecDepth 100000 in
set_option maxHeartbeats 4000000 in
theorem mX10_undo {l : Launch} {D : va_G} {cA : Nat → ClassId} {ad : Nat → Nat}   {r : Int32} {st st' : gS} (hf : fX10_undo  st = some (r, st')) : gM l yX10_undo cX10_undo 1 (some .boolean) 3 0 D cA ad st [.ref (ad 0)] (some (.int r)) st' := by
  refine g_met (by decide) (Nat.le_of_ble_eq_true rfl) ?_
  intro p e s m args below meth c ls hC hret hlk hU hH hl
  exact bX10_undo_0 hC hret hlk hU hf hH va_S.rf hl
def fX1_stepOn (r1 : Nat)   (st : gS) : Option (Int32 × gS) :=
  if (st.1 23 2) ≤ (st.1 23 1) then (some (0, st)) else (if (st.1 23 1) < 40 then (gc (gI ((wi st 23 1 ((st.1 23 1) + 1)).1 23 1) 41) (gc (gK 0 ((wi st 23 1 ((st.1 23 1) + 1)).2.2 24 ((wi st 23 1 ((st.1 23 1) + 1)).1 23 1).toNatClampNeg) = 5) ((fX5_copy r1 ((wi st 23 1 ((st.1 23 1) + 1)).2.2 24 ((wi st 23 1 ((st.1 23 1) + 1)).1 23 1).toNatClampNeg) (wi st 23 1 ((st.1 23 1) + 1))).bind fun q0_1 => (some (1, q0_1))))) else (some (0, st)))
set_option maxRecDepth 100000 in
set_option maxHeartbeats 4000000 in
theorem bX1_stepOn_0 {r1 : Nat} (hC : CallFix p m c cX1_stepOn 2 s args lw_good RX1) (hret : meth.sig.returnType = (some .boolean)) (hlk : meth.locks = false) (hU : gU 0 D cA ad s) (hr1 : gK 0 r1 = 5) {r : Int32} {st' : gS}   {st : gS} {H : Heap} {locs : List Loc} {ls : Array Slot} (hf : fX1_stepOn r1 st = some (r, st')) (hH : gP0 0 D cA ad st H) (hS : va_S (gA 0 ad) s.heap H locs) (hl : lv_has ls 2 [(0, .ref (ad 23)), (1, .ref (ad r1))]) : W p l e (gRm 2) s m args below meth c H locs 0 0 (MQ below (gQc 0 D cA ad st' (some (.int r))) args s 0 0 (gA 0 ad)) (F0 m 0 ls []) := by
  obtain ⟨hx, hb, hml, hown, hts⟩ := id hC
  unfold fX1_stepOn at hf
  refine lv_aload_n (pc := 0) hx hb dX1_stepOn_0 rfl (lv_at hl 0 rfl) ?_
  refine g_get (pc := 1) (v := .int (st.1 23 1)) hC hU hH gk0_23 g_cl1 1 (by decide) kf_X1_15 rfl dX1_stepOn_1 ?_
  refine lv_aload_n (pc := 4) hx hb dX1_stepOn_4 rfl (lv_at hl 0 rfl) ?_
  refine g_get (pc := 5) (v := .int (st.1 23 2)) hC hU hH gk0_23 g_cl1 2 (by decide) kf_X1_19 rfl dX1_stepOn_5 ?_
  refine lv_icmp_ge (tgt := 20) (pc := 8) hx hb dX1_stepOn_8 (by decide) (fun hc => ?_) (fun hc => ?_)
  · have hf := gif_p hc hf
    refine lv_iconst (v := 0) (pc := 20) hx hb dX1_stepOn_20 (by decide) ?_
    exact g_zret (pc := 21) hC hret hlk hH hS (by decide) hf dX1_stepOn_21
  · have hf := gif_n hc hf
    refine lv_aload_n (pc := 11) hx hb dX1_stepOn_11 rfl (lv_at hl 0 rfl) ?_
    refine g_get (pc := 12) (v := .int (st.1 23 1)) hC hU hH gk0_23 g_cl1 1 (by decide) kf_X1_15 rfl dX1_stepOn_12 ?_
    refine lv_bipush (v := 40) (pc := 15) hx hb dX1_stepOn_15 (by decide) ?_
    refine lv_icmp_lt (tgt := 22) (pc := 17) hx hb dX1_stepOn_17 (by decide) (fun hc => ?_) (fun hc => ?_)
    · have hf := gif_p hc hf
      refine lv_aload_n (pc := 22) hx hb dX1_stepOn_22 rfl (lv_at hl 0 rfl) ?_
      refine lv_dup (pc := 23) hx hb dX1_stepOn_23 rfl ?_
      refine g_get (pc := 24) (v := .int (st.1 23 1)) hC hU hH gk0_23 g_cl1 1 (by decide) kf_X1_15 rfl dX1_stepOn_24 ?_
      refine lv_iconst (v := 1) (pc := 27) hx hb dX1_stepOn_27 (by decide) ?_
      refine lv_iadd (pc := 28) hx hb dX1_stepOn_28 ?_
      refine g_puti (pc := 29) hC hU hH hS gk0_23 g_cl1 1 (by decide) kf_X1_15 rfl rfl rfl rfl dX1_stepOn_29 (fun H locs hH hS => ?_)
      refine lv_aload_n (pc := 32) hx hb dX1_stepOn_32 rfl (lv_at hl 1 rfl) ?_
      refine lv_aload_n (pc := 33) hx hb dX1_stepOn_33 rfl (lv_at hl 0 rfl) ?_
      refine g_get (pc := 34) (v := .ref (ad 24)) hC hU hH gk0_23 g_cl1 0 (by decide) kf_X1_11 rfl dX1_stepOn_34 ?_
      refine lv_aload_n (pc := 37) hx hb dX1_stepOn_37 rfl (lv_at hl 0 rfl) ?_
      refine g_get (pc := 38) (v := .int ((wi st 23 1 ((st.1 23 1) + 1)).1 23 1)) hC hU hH gk0_23 g_cl1 1 (by decide) kf_X1_15 rfl dX1_stepOn_38 ?_
      obtain ⟨h0_1, hf⟩ := gc_s hf
      refine g_aald (pc := 41) hC hU hH gk0_24 gn0_24 h0_1 dX1_stepOn_41 ?_
      obtain ⟨h0_2, hf⟩ := gc_s hf
      obtain ⟨q0_1, hq0_1, hf⟩ := gbd hf
      refine g_callVv (pc := 42) (rest := []) hC hU hH hS hl.1 hr1 rfl (by decide) (mX5_copy hr1 h0_2 hq0_1) ky_X5_copy km_X1_23 ⟨Nat.le_of_ble_eq_true rfl, Nat.le_of_ble_eq_true rfl⟩ ⟨Nat.zero_le _, Nat.zero_le _⟩ rfl (Nat.le_of_ble_eq_true rfl) dX1_stepOn_42 rfl (fun H locs hH hS => ?_)
      refine lv_iconst (v := 1) (pc := 45) hx hb dX1_stepOn_45 (by decide) ?_
      exact g_zret (pc := 46) hC hret hlk hH hS (by decide) hf dX1_stepOn_46
    · have hf := gif_n hc hf
      refine lv_iconst (v := 0) (pc := 20) hx hb dX1_stepOn_20 (by decide) ?_
      exact g_zret (pc := 21) hC hret hlk hH hS (by decide) hf dX1_stepOn_21
set_option maxRecDepth 100000 in
set_option maxHeartbeats 4000000 in
theorem mX1_stepOn {l : Launch} {D : va_G} {cA : Nat → ClassId} {ad : Nat → Nat} {r1 : Nat} (hr1 : gK 0 r1 = 5) {r : Int32} {st st' : gS} (hf : fX1_stepOn r1 st = some (r, st')) : gM l yX1_stepOn cX1_stepOn 2 (some .boolean) 2 0 D cA ad st [.ref (ad 23), .ref (ad r1)] (some (.int r)) st' := by
  refine g_met (by decide) (Nat.le_of_ble_eq_true rfl) ?_
  intro p e s m args below meth c ls hC hret hlk hU hH hl
  exact bX1_stepOn_0 hC hret hlk hU hr1 hf hH va_S.rf hl
def fX10_redo    (st : gS) : Option (Int32 × gS) :=
  (fX1_stepOn 20 st).bind fun q0_1 => (gc (gB q0_1.1) (some (q0_1.1, q0_1.2)))
set_option maxRecDepth 100000 in
set_option maxHeartbeats 4000000 in
theorem bX10_redo_0  (hC : CallFix p m c cX10_redo 1 s args lw_good RX10) (hret : meth.sig.returnType = (some .boolean)) (hlk : meth.locks = false) (hU : gU 0 D cA ad s)  {r : Int32} {st' : gS}   {st : gS} {H : Heap} {locs : List Loc} {ls : Array Slot} (hf : fX10_redo st = some (r, st')) (hH : gP0 0 D cA ad st H) (hS : va_S (gA 0 ad) s.heap H locs) (hl : lv_has ls 1 [(0, .ref (ad 0))]) : W p l e (gRm 3) s m args below meth c H locs 0 0 (MQ below (gQc 0 D cA ad st' (some (.int r))) args s 0 0 (gA 0 ad)) (F0 m 0 ls []) := by
  obtain ⟨hx, hb, hml, hown, hts⟩ := id hC
  unfold fX10_redo at hf
  refine lv_aload_n (pc := 0) hx hb dX10_redo_0 rfl (lv_at hl 0 rfl) ?_
  refine g_get (pc := 1) (v := .ref (ad 23)) hC hU hH gk0_0 g_cl10 3 (by decide) kf_X10_35 rfl dX10_redo_1 ?_
  refine lv_aload_n (pc := 4) hx hb dX10_redo_4 rfl (lv_at hl 0 rfl) ?_
  refine g_get (pc := 5) (v := .ref (ad 20)) hC hU hH gk0_0 g_cl10 2 (by decide) kf_X10_28 rfl dX10_redo_5 ?_
  obtain ⟨q0_1, hq0_1, hf⟩ := gbd hf
  refine g_callVi (pc := 8) (rest := []) hC hU hH hS hl.1 gk0_23 rfl (by decide) (mX1_stepOn gk0_20 hq0_1) ky_X1_stepOn km_X10_227 ⟨Nat.le_of_ble_eq_true rfl, Nat.le_of_ble_eq_true rfl⟩ ⟨Nat.zero_le _, Nat.zero_le _⟩ rfl (Nat.le_of_ble_eq_true rfl) dX10_redo_8 rfl (fun H locs hH hS => ?_)
  obtain ⟨h0_1, hf⟩ := gc_s hf
  exact g_zret (pc := 11) hC hret hlk hH hS h0_1 hf dX10_redo_11
set_option maxRecDepth 100000 in
set_option maxHeartbeats 4000000 in
theorem mX10_redo {l : Launch} {D : va_G} {cA : Nat → ClassId} {ad : Nat → Nat}   {r : Int32} {st st' : gS} (hf : fX10_redo  st = some (r, st')) : gM l yX10_redo cX10_redo 1 (some .boolean) 3 0 D cA ad st [.ref (ad 0)] (some (.int r)) st' := by
  refine g_met (by decide) (Nat.le_of_ble_eq_true rfl) ?_
  intro p e s m args below meth c ls hC hret hlk hU hH hl
  exact bX10_redo_0 hC hret hlk hU hf hH va_S.rf hl
def fX10_isOther (a1 : Int32)   (st : gS) : Option (Int32 × gS) :=
  gc (gK 0 (st.2.2 0 9) = 8) ((fX8_hasTribe (st.2.2 0 9) a1 st).bind fun q0_1 => (if q0_1.1 = 0 then (some (0, q0_1.2)) else (if a1 = (q0_1.2.1 20 3) then (some (0, q0_1.2)) else (some (1, q0_1.2)))))
set_option maxRecDepth 100000 in
set_option maxHeartbeats 4000000 in
theorem bX10_isOther_0 {a1 : Int32} (hC : CallFix p m c cX10_isOther 2 s args lw_good RX10) (hret : meth.sig.returnType = (some .boolean)) (hlk : meth.locks = false) (hU : gU 0 D cA ad s)  {r : Int32} {st' : gS}   {st : gS} {H : Heap} {locs : List Loc} {ls : Array Slot} (hf : fX10_isOther a1 st = some (r, st')) (hH : gP0 0 D cA ad st H) (hS : va_S (gA 0 ad) s.heap H locs) (hl : lv_has ls 2 [(0, .ref (ad 0)), (1, .int a1)]) : W p l e (gRm 2) s m args below meth c H locs 0 0 (MQ below (gQc 0 D cA ad st' (some (.int r))) args s 0 0 (gA 0 ad)) (F0 m 0 ls []) := by
  obtain ⟨hx, hb, hml, hown, hts⟩ := id hC
  unfold fX10_isOther at hf
  refine lv_aload_n (pc := 0) hx hb dX10_isOther_0 rfl (lv_at hl 0 rfl) ?_
  refine g_get (pc := 1) (v := .ref (ad (st.2.2 0 9))) hC hU hH gk0_0 g_cl10 9 (by decide) kf_X10_71 rfl dX10_isOther_1 ?_
  refine lv_iload_n (pc := 4) hx hb dX10_isOther_4 rfl (lv_at hl 1 rfl) ?_
  obtain ⟨h0_1, hf⟩ := gc_s hf
  obtain ⟨q0_1, hq0_1, hf⟩ := gbd hf
  refine g_callVi (pc := 5) (rest := []) hC hU hH hS hl.1 h0_1 rfl (by decide) (mX8_hasTribe h0_1 hq0_1) ky_X8_hasTribe km_X10_130 ⟨Nat.le_of_ble_eq_true rfl, Nat.le_of_ble_eq_true rfl⟩ ⟨Nat.zero_le _, Nat.zero_le _⟩ rfl (Nat.le_of_ble_eq_true rfl) dX10_isOther_5 rfl (fun H locs hH hS => ?_)
  refine lv_if_eq (tgt := 26) (pc := 8) hx hb dX10_isOther_8 (by decide) (fun hc => ?_) (fun hc => ?_)
  · have hf := gif_p hc hf
    refine lv_iconst (v := 0) (pc := 26) hx hb dX10_isOther_26 (by decide) ?_
    exact g_zret (pc := 27) hC hret hlk hH hS (by decide) hf dX10_isOther_27
  · have hf := gif_n hc hf
    refine lv_iload_n (pc := 11) hx hb dX10_isOther_11 rfl (lv_at hl 1 rfl) ?_
    refine lv_aload_n (pc := 12) hx hb dX10_isOther_12 rfl (lv_at hl 0 rfl) ?_
    refine g_get (pc := 13) (v := .ref (ad 20)) hC hU hH gk0_0 g_cl10 2 (by decide) kf_X10_28 rfl dX10_isOther_13 ?_
    refine g_get (pc := 16) (v := .int (q0_1.2.1 20 3)) hC hU hH gk0_20 g_cl5 3 (by decide) kf_X10_152 rfl dX10_isOther_16 ?_
    refine lv_icmp_eq (tgt := 26) (pc := 19) hx hb dX10_isOther_19 (by decide) (fun hc => ?_) (fun hc => ?_)
    · have hf := gif_p hc hf
      refine lv_iconst (v := 0) (pc := 26) hx hb dX10_isOther_26 (by decide) ?_
      exact g_zret (pc := 27) hC hret hlk hH hS (by decide) hf dX10_isOther_27
    · have hf := gif_n hc hf
      refine lv_iconst (v := 1) (pc := 22) hx hb dX10_isOther_22 (by decide) ?_
      refine lv_goto (tgt := 27) (pc := 23) hx hb dX10_isOther_23 (by decide) ?_
      exact g_zret (pc := 27) hC hret hlk hH hS (by decide) hf dX10_isOther_27
set_option maxRecDepth 100000 in
set_option maxHeartbeats 4000000 in
theorem mX10_isOther {l : Launch} {D : va_G} {cA : Nat → ClassId} {ad : Nat → Nat} {a1 : Int32}  {r : Int32} {st st' : gS} (hf : fX10_isOther a1 st = some (r, st')) : gM l yX10_isOther cX10_isOther 2 (some .boolean) 2 0 D cA ad st [.ref (ad 0), .int a1] (some (.int r)) st' := by
  refine g_met (by decide) (Nat.le_of_ble_eq_true rfl) ?_
  intro p e s m args below meth c ls hC hret hlk hU hH hl
  exact bX10_isOther_0 hC hret hlk hU hf hH va_S.rf hl
def fX9_sit (r1 : Nat) (a2 : Int32)   (st : gS) : Option (gS) :=
  gc (gI 0 2) (gc (gI 1 2) (some (wi (wi st 151 (0 : Int32).toNatClampNeg a2) 151 (1 : Int32).toNatClampNeg ((wi st 151 (0 : Int32).toNatClampNeg a2).1 r1 3))))
set_option maxRecDepth 100000 in
set_option maxHeartbeats 4000000 in
theorem bX9_sit_0 {r1 : Nat} {a2 : Int32} (hC : CallFix p m c cX9_sit 3 s args lw_good RX9) (hret : meth.sig.returnType = none) (hlk : meth.locks = false) (hU : gU 0 D cA ad s) (hr1 : gK 0 r1 = 5) {st' : gS}   {st : gS} {H : Heap} {locs : List Loc} {ls : Array Slot} (hf : fX9_sit r1 a2 st = some st') (hH : gP0 0 D cA ad st H) (hS : va_S (gA 0 ad) s.heap H locs) (hl : lv_has ls 3 [(0, .ref (ad 150)), (1, .ref (ad r1)), (2, .int a2)]) : W p l e (gRm 1) s m args below meth c H locs 0 0 (MQ below (gQc 0 D cA ad st' none) args s 0 0 (gA 0 ad)) (F0 m 0 ls []) := by
  obtain ⟨hx, hb, hml, hown, hts⟩ := id hC
  unfold fX9_sit at hf
  refine lv_aload_n (pc := 0) hx hb dX9_sit_0 rfl (lv_at hl 0 rfl) ?_
  refine g_get (pc := 1) (v := .ref (ad 151)) hC hU hH gk0_150 g_cl9 0 (by decide) kf_X9_9 rfl dX9_sit_1 ?_
  refine lv_iconst (v := 0) (pc := 4) hx hb dX9_sit_4 (by decide) ?_
  refine lv_iload_n (pc := 5) hx hb dX9_sit_5 rfl (lv_at hl 2 rfl) ?_
  obtain ⟨h0_1, hf⟩ := gc_s hf
  refine g_iast (pc := 6) hC hU hH hS gk0_151 gn0_151 h0_1 dX9_sit_6 (fun H locs hH hS => ?_)
  refine lv_aload_n (pc := 7) hx hb dX9_sit_7 rfl (lv_at hl 0 rfl) ?_
  refine g_get (pc := 8) (v := .ref (ad 151)) hC hU hH gk0_150 g_cl9 0 (by decide) kf_X9_9 rfl dX9_sit_8 ?_
  refine lv_iconst (v := 1) (pc := 11) hx hb dX9_sit_11 (by decide) ?_
  refine lv_aload_n (pc := 12) hx hb dX9_sit_12 rfl (lv_at hl 1 rfl) ?_
  refine g_get (pc := 13) (v := .int ((wi st 151 (0 : Int32).toNatClampNeg a2).1 r1 3)) hC hU hH hr1 g_cl5 3 (by decide) kf_X9_45 rfl dX9_sit_13 ?_
  obtain ⟨h0_2, hf⟩ := gc_s hf
  refine g_iast (pc := 16) hC hU hH hS gk0_151 gn0_151 h0_2 dX9_sit_16 (fun H locs hH hS => ?_)
  exact g_vret (pc := 17) hC hret hlk hH hS hf dX9_sit_17
set_option maxRecDepth 100000 in
set_option maxHeartbeats 4000000 in
theorem mX9_sit {l : Launch} {D : va_G} {cA : Nat → ClassId} {ad : Nat → Nat} {r1 : Nat} {a2 : Int32} (hr1 : gK 0 r1 = 5) {st st' : gS} (hf : fX9_sit r1 a2 st = some st') : gM l yX9_sit cX9_sit 3 none 1 0 D cA ad st [.ref (ad 150), .ref (ad r1), .int a2] none st' := by
  refine g_met (by decide) (Nat.le_of_ble_eq_true rfl) ?_
  intro p e s m args below meth c ls hC hret hlk hU hH hl
  exact bX9_sit_0 hC hret hlk hU hr1 hf hH va_S.rf hl
def fX9_measureMoves_5 (r1 : Nat) (a2 : Int32) (k5 : Int32 → Int32 → gS → Option (Int32 × gS)) (l3 : Int32) (l4 : Int32) (st : gS) : Option (Int32 × gS) :=
  if (st.1 r1 14) ≤ l4 then (gc (gB l3) (some (l3, st))) else (gc (gI (1 - a2) 2) (gc (gI l4 16) (gc (gI (st.1 (r1 + 1 + 7) l4.toNatClampNeg) 8) (gl ((st.1 (153 + 1 + (1 - a2).toNatClampNeg) (st.1 (r1 + 1 + 7) l4.toNatClampNeg).toNatClampNeg) + 1) fun x32 => (gc (gI a2 2) (gc (gI l4 16) (gc (gI (st.1 (r1 + 1 + 6) l4.toNatClampNeg) 8) (if (st.1 (153 + 1 + a2.toNatClampNeg) (st.1 (r1 + 1 + 6) l4.toNatClampNeg).toNatClampNeg) ≤ x32 then (k5 l3 (l4 + 1) st) else (gc (gI a2 2) ((fX8_can r1 (st.1 151 a2.toNatClampNeg) l4 st).bind fun q5_1 => (if q5_1.1 = 0 then (k5 l3 (l4 + 1) q5_1.2) else (gc (gI a2 2) (gc (gI l4 16) (gc (gI (q5_1.2.1 (r1 + 1 + 6) l4.toNatClampNeg) 8) (k5 1 (l4 + 1) (wi q5_1.2 (153 + 1 + a2.toNatClampNeg) (q5_1.2.1 (r1 + 1 + 6) l4.toNatClampNeg).toNatClampNeg x32))))))))))))))))
set_option maxRecDepth 100000 in
set_option maxHeartbeats 4000000 in
theorem bX9_measureMoves_5 {r1 : Nat} {a2 : Int32} (hC : CallFix p m c cX9_measureMoves 6 s args lw_good RX9) (hret : meth.sig.returnType = (some .boolean)) (hlk : meth.locks = false) (hU : gU 0 D cA ad s) (hr1 : gK 0 r1 = 8) {r : Int32} {st' : gS} {k5 : Int32 → Int32 → gS → Option (Int32 × gS)} (hk5 : ∀ {l3 : Int32} {l4 : Int32} {st : gS} {H : Heap} {locs : List Loc} {ls : Array Slot}, k5 l3 l4 st = some (r, st') → gP0 0 D cA ad st H → va_S (gA 0 ad) s.heap H locs → lv_has ls 6 [(0, .ref (ad 150)), (1, .ref (ad r1)), (2, .int a2), (3, .int l3), (4, .int l4)] → W p l e (gRm 3) s m args below meth c H locs 0 0 (MQ below (gQc 0 D cA ad st' (some (.int r))) args s 0 0 (gA 0 ad)) (F0 m 5 ls [])) {l3 : Int32} {l4 : Int32} {st : gS} {H : Heap} {locs : List Loc} {ls : Array Slot} (hf : fX9_measureMoves_5 r1 a2 k5 l3 l4 st = some (r, st')) (hH : gP0 0 D cA ad st H) (hS : va_S (gA 0 ad) s.heap H locs) (hl : lv_has ls 6 [(0, .ref (ad 150)), (1, .ref (ad r1)), (2, .int a2), (3, .int l3), (4, .int l4)]) : W p l e (gRm 3) s m args below meth c H locs 0 0 (MQ below (gQc 0 D cA ad st' (some (.int r))) args s 0 0 (gA 0 ad)) (F0 m 5 ls []) := by
  obtain ⟨hx, hb, hml, hown, hts⟩ := id hC
  unfold fX9_measureMoves_5 at hf
  refine lv_iload (pc := 5) hx hb dX9_measureMoves_5 (lv_at hl 4 rfl) ?_
  refine lv_aload_n (pc := 7) hx hb dX9_measureMoves_7 rfl (lv_at hl 1 rfl) ?_
  refine g_get (pc := 8) (v := .int (st.1 r1 14)) hC hU hH hr1 g_cl8 14 (by decide) kf_X9_81 rfl dX9_measureMoves_8 ?_
  refine lv_icmp_ge (tgt := 92) (pc := 11) hx hb dX9_measureMoves_11 (by decide) (fun hc => ?_) (fun hc => ?_)
  · have hf := gif_p hc hf
    refine lv_iload_n (pc := 92) hx hb dX9_measureMoves_92 rfl (lv_at hl 3 rfl) ?_
    obtain ⟨h5_1, hf⟩ := gc_s hf
    exact g_zret (pc := 93) hC hret hlk hH hS h5_1 hf dX9_measureMoves_93
  · have hf := gif_n hc hf
    refine lv_aload_n (pc := 14) hx hb dX9_measureMoves_14 rfl (lv_at hl 0 rfl) ?_
    refine g_get (pc := 15) (v := .ref (ad 153)) hC hU hH gk0_150 g_cl9 2 (by decide) kf_X9_20 rfl dX9_measureMoves_15 ?_
    refine lv_iconst (v := 1) (pc := 18) hx hb dX9_measureMoves_18 (by decide) ?_
    refine lv_iload_n (pc := 19) hx hb dX9_measureMoves_19 rfl (lv_at hl 2 rfl) ?_
    refine lv_isub (pc := 20) hx hb dX9_measureMoves_20 ?_
    obtain ⟨h5_2, hf⟩ := gc_s hf
    refine g_gald (pc := 21) hC hU hH gk0_153 gn0_153 h5_2 dX9_measureMoves_21 ?_
    refine lv_aload_n (pc := 22) hx hb dX9_measureMoves_22 rfl (lv_at hl 1 rfl) ?_
    refine g_get (pc := 23) (v := .ref (ad (r1 + 1 + 7))) hC hU hH hr1 g_cl8 7 (by decide) kf_X9_84 rfl dX9_measureMoves_23 ?_
    refine lv_iload (pc := 26) hx hb dX9_measureMoves_26 (lv_at hl 4 rfl) ?_
    obtain ⟨h5_3, hf⟩ := gc_s hf
    refine g_iald (pc := 28) hC hU hH (gk_8_7 hr1) (gn_8_7 hr1) h5_3 dX9_measureMoves_28 ?_
    obtain ⟨h5_4, hf⟩ := gc_s hf
    refine g_iald (pc := 29) hC hU hH (gg_153 h5_2).1 (gg_153 h5_2).2 h5_4 dX9_measureMoves_29 ?_
    refine lv_iconst (v := 1) (pc := 30) hx hb dX9_measureMoves_30 (by decide) ?_
    refine lv_iadd (pc := 31) hx hb dX9_measureMoves_31 ?_
    refine lv_topi (pc := 32) (fun x32 ex32 => ?_)
    have hf := gl_s ex32 hf
    refine lv_istore (lv' := [(5, .int x32), (0, .ref (ad 150)), (1, .ref (ad r1)), (2, .int a2), (3, .int l3), (4, .int l4)]) (pc := 32) hx hb dX9_measureMoves_32 hl (by decide) rfl (fun ls hl => ?_)
    refine lv_iload (pc := 34) hx hb dX9_measureMoves_34 (lv_at hl 0 rfl) ?_
    refine lv_aload_n (pc := 36) hx hb dX9_measureMoves_36 rfl (lv_at hl 1 rfl) ?_
    refine g_get (pc := 37) (v := .ref (ad 153)) hC hU hH gk0_150 g_cl9 2 (by decide) kf_X9_20 rfl dX9_measureMoves_37 ?_
    refine lv_iload_n (pc := 40) hx hb dX9_measureMoves_40 rfl (lv_at hl 3 rfl) ?_
    obtain ⟨h5_5, hf⟩ := gc_s hf
    refine g_gald (pc := 41) hC hU hH gk0_153 gn0_153 h5_5 dX9_measureMoves_41 ?_
    refine lv_aload_n (pc := 42) hx hb dX9_measureMoves_42 rfl (lv_at hl 2 rfl) ?_
    refine g_get (pc := 43) (v := .ref (ad (r1 + 1 + 6))) hC hU hH hr1 g_cl8 6 (by decide) kf_X9_87 rfl dX9_measureMoves_43 ?_
    refine lv_iload (pc := 46) hx hb dX9_measureMoves_46 (lv_at hl 5 rfl) ?_
    obtain ⟨h5_6, hf⟩ := gc_s hf
    refine g_iald (pc := 48) hC hU hH (gk_8_6 hr1) (gn_8_6 hr1) h5_6 dX9_measureMoves_48 ?_
    obtain ⟨h5_7, hf⟩ := gc_s hf
    refine g_iald (pc := 49) hC hU hH (gg_153 h5_5).1 (gg_153 h5_5).2 h5_7 dX9_measureMoves_49 ?_
    refine lv_icmp_ge (tgt := 86) (pc := 50) hx hb dX9_measureMoves_50 (by decide) (fun hc => ?_) (fun hc => ?_)
    · have hf := gif_p hc hf
      refine lv_iinc (v := l4 + 1) (lv' := [(4, .int (l4 + 1)), (5, .int x32), (0, .ref (ad 150)), (1, .ref (ad r1)), (2, .int a2), (3, .int l3)]) (k := 5) (pc := 86) hx hb dX9_measureMoves_86 hl rfl rfl (by decide) rfl (fun ls hl => ?_)
      refine lv_goto (tgt := 5) (pc := 89) hx hb dX9_measureMoves_89 (by decide) ?_
      exact hk5 hf hH hS (lv_sub hl [2, 3, 4, 5, 0] rfl)
    · have hf := gif_n hc hf
      refine lv_aload_n (pc := 53) hx hb dX9_measureMoves_53 rfl (lv_at hl 2 rfl) ?_
      refine lv_aload_n (pc := 54) hx hb dX9_measureMoves_54 rfl (lv_at hl 1 rfl) ?_
      refine g_get (pc := 55) (v := .ref (ad 151)) hC hU hH gk0_150 g_cl9 0 (by decide) kf_X9_9 rfl dX9_measureMoves_55 ?_
      refine lv_iload_n (pc := 58) hx hb dX9_measureMoves_58 rfl (lv_at hl 3 rfl) ?_
      obtain ⟨h5_8, hf⟩ := gc_s hf
      refine g_iald (pc := 59) hC hU hH gk0_151 gn0_151 h5_8 dX9_measureMoves_59 ?_
      refine lv_iload (pc := 60) hx hb dX9_measureMoves_60 (lv_at hl 5 rfl) ?_
      obtain ⟨q5_1, hq5_1, hf⟩ := gbd hf
      refine g_callVi (pc := 62) (rest := []) hC hU hH hS hl.1 hr1 rfl (by decide) (mX8_can hr1 hq5_1) ky_X8_can km_X9_90 ⟨Nat.le_of_ble_eq_true rfl, Nat.le_of_ble_eq_true rfl⟩ ⟨Nat.zero_le _, Nat.zero_le _⟩ rfl (Nat.le_of_ble_eq_true rfl) dX9_measureMoves_62 rfl (fun H locs hH hS => ?_)
      refine lv_if_eq (tgt := 86) (pc := 65) hx hb dX9_measureMoves_65 (by decide) (fun hc => ?_) (fun hc => ?_)
      · have hf := gif_p hc hf
        refine lv_iinc (v := l4 + 1) (lv' := [(4, .int (l4 + 1)), (5, .int x32), (0, .ref (ad 150)), (1, .ref (ad r1)), (2, .int a2), (3, .int l3)]) (k := 5) (pc := 86) hx hb dX9_measureMoves_86 hl rfl rfl (by decide) rfl (fun ls hl => ?_)
        refine lv_goto (tgt := 5) (pc := 89) hx hb dX9_measureMoves_89 (by decide) ?_
        exact hk5 hf hH hS (lv_sub hl [2, 3, 4, 5, 0] rfl)
      · have hf := gif_n hc hf
        refine lv_aload_n (pc := 68) hx hb dX9_measureMoves_68 rfl (lv_at hl 1 rfl) ?_
        refine g_get (pc := 69) (v := .ref (ad 153)) hC hU hH gk0_150 g_cl9 2 (by decide) kf_X9_20 rfl dX9_measureMoves_69 ?_
        refine lv_iload_n (pc := 72) hx hb dX9_measureMoves_72 rfl (lv_at hl 3 rfl) ?_
        obtain ⟨h5_9, hf⟩ := gc_s hf
        refine g_gald (pc := 73) hC hU hH gk0_153 gn0_153 h5_9 dX9_measureMoves_73 ?_
        refine lv_aload_n (pc := 74) hx hb dX9_measureMoves_74 rfl (lv_at hl 2 rfl) ?_
        refine g_get (pc := 75) (v := .ref (ad (r1 + 1 + 6))) hC hU hH hr1 g_cl8 6 (by decide) kf_X9_87 rfl dX9_measureMoves_75 ?_
        refine lv_iload (pc := 78) hx hb dX9_measureMoves_78 (lv_at hl 5 rfl) ?_
        obtain ⟨h5_10, hf⟩ := gc_s hf
        refine g_iald (pc := 80) hC hU hH (gk_8_6 hr1) (gn_8_6 hr1) h5_10 dX9_measureMoves_80 ?_
        refine lv_iload (pc := 81) hx hb dX9_measureMoves_81 (lv_at hl 0 rfl) ?_
        obtain ⟨h5_11, hf⟩ := gc_s hf
        refine g_iast (pc := 83) hC hU hH hS (gg_153 h5_9).1 (gg_153 h5_9).2 h5_11 dX9_measureMoves_83 (fun H locs hH hS => ?_)
        refine lv_iconst (v := 1) (pc := 84) hx hb dX9_measureMoves_84 (by decide) ?_
        refine lv_istore_n (lv' := [(3, .int 1), (5, .int x32), (0, .ref (ad 150)), (1, .ref (ad r1)), (2, .int a2), (4, .int l4)]) (pc := 85) hx hb dX9_measureMoves_85 rfl hl (by decide) rfl (fun ls hl => ?_)
        refine lv_iinc (v := l4 + 1) (lv' := [(4, .int (l4 + 1)), (3, .int 1), (5, .int x32), (0, .ref (ad 150)), (1, .ref (ad r1)), (2, .int a2)]) (k := 5) (pc := 86) hx hb dX9_measureMoves_86 hl rfl rfl (by decide) rfl (fun ls hl => ?_)
        refine lv_goto (tgt := 5) (pc := 89) hx hb dX9_measureMoves_89 (by decide) ?_
        exact hk5 hf hH hS (lv_sub hl [3, 4, 5, 1, 0] rfl)
def hX9_measureMoves_5 (r1 : Nat) (a2 : Int32)  : Nat → Int32 → Int32 → gS → Option (Int32 × gS)
  | 0 => fun _ _ _ => none
  | n + 1 => fun l3 l4 st => fX9_measureMoves_5 r1 a2 (hX9_measureMoves_5 r1 a2 n) l3 l4 st
set_option maxRecDepth 100000 in
set_option maxHeartbeats 4000000 in
theorem wX9_measureMoves_5 {r1 : Nat} {a2 : Int32} (hC : CallFix p m c cX9_measureMoves 6 s args lw_good RX9) (hret : meth.sig.returnType = (some .boolean)) (hlk : meth.locks = false) (hU : gU 0 D cA ad s) (hr1 : gK 0 r1 = 8) {r : Int32} {st' : gS}  : ∀ (n : Nat) {l3 : Int32} {l4 : Int32} {st : gS} {H : Heap} {locs : List Loc} {ls : Array Slot}, hX9_measureMoves_5 r1 a2 n l3 l4 st = some (r, st') → gP0 0 D cA ad st H → va_S (gA 0 ad) s.heap H locs → lv_has ls 6 [(0, .ref (ad 150)), (1, .ref (ad r1)), (2, .int a2), (3, .int l3), (4, .int l4)] → W p l e (gRm 3) s m args below meth c H locs 0 0 (MQ below (gQc 0 D cA ad st' (some (.int r))) args s 0 0 (gA 0 ad)) (F0 m 5 ls []) := by
  intro n
  induction n with
  | zero => intro l3 l4 st H locs ls hf hH hS hl; cases hf
  | succ n ih =>
    intro l3 l4 st H locs ls hf hH hS hl
    exact bX9_measureMoves_5 (r1 := r1) (a2 := a2) hC hret hlk hU hr1 (fun hf hH hS hl => ih hf hH hS hl) hf hH hS hl
def fX9_measureMoves (r1 : Nat) (a2 : Int32)   (st : gS) : Option (Int32 × gS) :=
  hX9_measureMoves_5 r1 a2 FU 0 0 st
set_option maxRecDepth 100000 in
set_option maxHeartbeats 4000000 in
theorem bX9_measureMoves_0 {r1 : Nat} {a2 : Int32} (hC : CallFix p m c cX9_measureMoves 6 s args lw_good RX9) (hret : meth.sig.returnType = (some .boolean)) (hlk : meth.locks = false) (hU : gU 0 D cA ad s) (hr1 : gK 0 r1 = 8) {r : Int32} {st' : gS}   {st : gS} {H : Heap} {locs : List Loc} {ls : Array Slot} (hf : fX9_measureMoves r1 a2 st = some (r, st')) (hH : gP0 0 D cA ad st H) (hS : va_S (gA 0 ad) s.heap H locs) (hl : lv_has ls 6 [(0, .ref (ad 150)), (1, .ref (ad r1)), (2, .int a2)]) : W p l e (gRm 3) s m args below meth c H locs 0 0 (MQ below (gQc 0 D cA ad st' (some (.int r))) args s 0 0 (gA 0 ad)) (F0 m 0 ls []) := by
  obtain ⟨hx, hb, hml, hown, hts⟩ := id hC
  unfold fX9_measureMoves at hf
  refine lv_iconst (v := 0) (pc := 0) hx hb dX9_measureMoves_0 (by decide) ?_
  refine lv_istore_n (lv' := [(3, .int 0), (0, .ref (ad 150)), (1, .ref (ad r1)), (2, .int a2)]) (pc := 1) hx hb dX9_measureMoves_1 rfl hl (by decide) rfl (fun ls hl => ?_)
  refine lv_iconst (v := 0) (pc := 2) hx hb dX9_measureMoves_2 (by decide) ?_
  refine lv_istore (lv' := [(4, .int 0), (3, .int 0), (0, .ref (ad 150)), (1, .ref (ad r1)), (2, .int a2)]) (pc := 3) hx hb dX9_measureMoves_3 hl (by decide) rfl (fun ls hl => ?_)
  exact wX9_measureMoves_5 hC hret hlk hU hr1 FU hf hH hS (lv_sub hl [2, 3, 4, 1, 0] rfl)
set_option maxRecDepth 100000 in
set_option maxHeartbeats 4000000 in
theorem mX9_measureMoves {l : Launch} {D : va_G} {cA : Nat → ClassId} {ad : Nat → Nat} {r1 : Nat} {a2 : Int32} (hr1 : gK 0 r1 = 8) {r : Int32} {st st' : gS} (hf : fX9_measureMoves r1 a2 st = some (r, st')) : gM l yX9_measureMoves cX9_measureMoves 6 (some .boolean) 3 0 D cA ad st [.ref (ad 150), .ref (ad r1), .int a2] (some (.int r)) st' := by
  refine g_met (by decide) (Nat.le_of_ble_eq_true rfl) ?_
  intro p e s m args below meth c ls hC hret hlk hU hH hl
  exact bX9_measureMoves_0 hC hret hlk hU hr1 hf hH va_S.rf hl
def fX9_measure_82 (r1 : Nat) (a2 : Int32) (k45 : Int32 → Int32 → gS → Option (gS)) (l4 : Int32) (st : gS) : Option (gS) :=
  k45 1 (l4 + 1) st
set_option maxRecDepth 100000 in
set_option maxHeartbeats 4000000 in
theorem bX9_measure_82 {r1 : Nat} {a2 : Int32} (hC : CallFix p m c cX9_measure 7 s args lw_good RX9) (hret : meth.sig.returnType = none) (hlk : meth.locks = false) (hU : gU 0 D cA ad s) (hr1 : gK 0 r1 = 8) {st' : gS} {k45 : Int32 → Int32 → gS → Option (gS)} (hk45 : ∀ {l3 : Int32} {l4 : Int32} {st : gS} {H : Heap} {locs : List Loc} {ls : Array Slot}, k45 l3 l4 st = some st' → gP0 0 D cA ad st H → va_S (gA 0 ad) s.heap H locs → lv_has ls 7 [(0, .ref (ad 150)), (1, .ref (ad r1)), (3, .int l3), (4, .int l4)] → W p l e (gRm 4) s m args below meth c H locs 0 0 (MQ below (gQc 0 D cA ad st' none) args s 0 0 (gA 0 ad)) (F0 m 45 ls [])) {l4 : Int32} {st : gS} {H : Heap} {locs : List Loc} {ls : Array Slot} (hf : fX9_measure_82 r1 a2 k45 l4 st = some st') (hH : gP0 0 D cA ad st H) (hS : va_S (gA 0 ad) s.heap H locs) (hl : lv_has ls 7 [(0, .ref (ad 150)), (1, .ref (ad r1)), (4, .int l4)]) : W p l e (gRm 4) s m args below meth c H locs 0 0 (MQ below (gQc 0 D cA ad st' none) args s 0 0 (gA 0 ad)) (F0 m 82 ls []) := by
  obtain ⟨hx, hb, hml, hown, hts⟩ := id hC
  unfold fX9_measure_82 at hf
  refine lv_iconst (v := 1) (pc := 82) hx hb dX9_measure_82 (by decide) ?_
  refine lv_goto (tgt := 87) (pc := 83) hx hb dX9_measure_83 (by decide) ?_
  refine lv_istore_n (lv' := [(3, .int 1), (0, .ref (ad 150)), (1, .ref (ad r1)), (4, .int l4)]) (pc := 87) hx hb dX9_measure_87 rfl hl (by decide) rfl (fun ls hl => ?_)
  refine lv_iinc (v := l4 + 1) (lv' := [(4, .int (l4 + 1)), (3, .int 1), (0, .ref (ad 150)), (1, .ref (ad r1))]) (k := 3) (pc := 88) hx hb dX9_measure_88 hl rfl rfl (by decide) rfl (fun ls hl => ?_)
  refine lv_goto (tgt := 45) (pc := 91) hx hb dX9_measure_91 (by decide) ?_
  exact hk45 hf hH hS (lv_sub hl [2, 3, 1, 0] rfl)
def fX9_measure_45 (r1 : Nat) (a2 : Int32) (k45 : Int32 → Int32 → gS → Option (gS)) (l3 : Int32) (l4 : Int32) (st : gS) : Option (gS) :=
  if 16 ≤ l4 then (some st) else (if l3 = 0 then (some st) else ((fX9_measureMoves r1 0 st).bind fun q45_1 => ((fX9_measureMoves r1 1 q45_1.2).bind fun q45_2 => (if q45_1.1 = 0 then (if q45_2.1 = 0 then (k45 0 (l4 + 1) q45_2.2) else (fX9_measure_82 r1 a2 k45 l4 q45_2.2)) else (fX9_measure_82 r1 a2 k45 l4 q45_2.2)))))
set_option maxRecDepth 100000 in
set_option maxHeartbeats 4000000 in
theorem bX9_measure_45 {r1 : Nat} {a2 : Int32} (hC : CallFix p m c cX9_measure 7 s args lw_good RX9) (hret : meth.sig.returnType = none) (hlk : meth.locks = false) (hU : gU 0 D cA ad s) (hr1 : gK 0 r1 = 8) {st' : gS} {k45 : Int32 → Int32 → gS → Option (gS)} (hk45 : ∀ {l3 : Int32} {l4 : Int32} {st : gS} {H : Heap} {locs : List Loc} {ls : Array Slot}, k45 l3 l4 st = some st' → gP0 0 D cA ad st H → va_S (gA 0 ad) s.heap H locs → lv_has ls 7 [(0, .ref (ad 150)), (1, .ref (ad r1)), (3, .int l3), (4, .int l4)] → W p l e (gRm 4) s m args below meth c H locs 0 0 (MQ below (gQc 0 D cA ad st' none) args s 0 0 (gA 0 ad)) (F0 m 45 ls [])) {l3 : Int32} {l4 : Int32} {st : gS} {H : Heap} {locs : List Loc} {ls : Array Slot} (hf : fX9_measure_45 r1 a2 k45 l3 l4 st = some st') (hH : gP0 0 D cA ad st H) (hS : va_S (gA 0 ad) s.heap H locs) (hl : lv_has ls 7 [(0, .ref (ad 150)), (1, .ref (ad r1)), (3, .int l3), (4, .int l4)]) : W p l e (gRm 4) s m args below meth c H locs 0 0 (MQ below (gQc 0 D cA ad st' none) args s 0 0 (gA 0 ad)) (F0 m 45 ls []) := by
  obtain ⟨hx, hb, hml, hown, hts⟩ := id hC
  unfold fX9_measure_45 at hf
  refine lv_iload (pc := 45) hx hb dX9_measure_45 (lv_at hl 3 rfl) ?_
  refine lv_bipush (v := 16) (pc := 47) hx hb dX9_measure_47 (by decide) ?_
  refine lv_icmp_ge (tgt := 94) (pc := 49) hx hb dX9_measure_49 (by decide) (fun hc => ?_) (fun hc => ?_)
  · have hf := gif_p hc hf
    exact g_vret (pc := 94) hC hret hlk hH hS hf dX9_measure_94
  · have hf := gif_n hc hf
    refine lv_iload_n (pc := 52) hx hb dX9_measure_52 rfl (lv_at hl 2 rfl) ?_
    refine lv_if_eq (tgt := 94) (pc := 53) hx hb dX9_measure_53 (by decide) (fun hc => ?_) (fun hc => ?_)
    · have hf := gif_p hc hf
      exact g_vret (pc := 94) hC hret hlk hH hS hf dX9_measure_94
    · have hf := gif_n hc hf
      refine lv_aload_n (pc := 56) hx hb dX9_measure_56 rfl (lv_at hl 0 rfl) ?_
      refine lv_aload_n (pc := 57) hx hb dX9_measure_57 rfl (lv_at hl 1 rfl) ?_
      refine lv_iconst (v := 0) (pc := 58) hx hb dX9_measure_58 (by decide) ?_
      obtain ⟨q45_1, hq45_1, hf⟩ := gbd hf
      refine g_callVi (pc := 59) (rest := []) hC hU hH hS hl.1 gk0_150 rfl (by decide) (mX9_measureMoves hr1 hq45_1) ky_X9_measureMoves km_X9_77 ⟨Nat.le_of_ble_eq_true rfl, Nat.le_of_ble_eq_true rfl⟩ ⟨Nat.zero_le _, Nat.zero_le _⟩ rfl (Nat.le_of_ble_eq_true rfl) dX9_measure_59 rfl (fun H locs hH hS => ?_)
      refine lv_istore (lv' := [(5, .int q45_1.1), (0, .ref (ad 150)), (1, .ref (ad r1)), (3, .int l3), (4, .int l4)]) (pc := 62) hx hb dX9_measure_62 hl (by decide) rfl (fun ls hl => ?_)
      refine lv_aload_n (pc := 64) hx hb dX9_measure_64 rfl (lv_at hl 1 rfl) ?_
      refine lv_aload_n (pc := 65) hx hb dX9_measure_65 rfl (lv_at hl 2 rfl) ?_
      refine lv_iconst (v := 1) (pc := 66) hx hb dX9_measure_66 (by decide) ?_
      obtain ⟨q45_2, hq45_2, hf⟩ := gbd hf
      refine g_callVi (pc := 67) (rest := []) hC hU hH hS hl.1 gk0_150 rfl (by decide) (mX9_measureMoves hr1 hq45_2) ky_X9_measureMoves km_X9_77 ⟨Nat.le_of_ble_eq_true rfl, Nat.le_of_ble_eq_true rfl⟩ ⟨Nat.zero_le _, Nat.zero_le _⟩ rfl (Nat.le_of_ble_eq_true rfl) dX9_measure_67 rfl (fun H locs hH hS => ?_)
      refine lv_istore (lv' := [(6, .int q45_2.1), (5, .int q45_1.1), (0, .ref (ad 150)), (1, .ref (ad r1)), (3, .int l3), (4, .int l4)]) (pc := 70) hx hb dX9_measure_70 hl (by decide) rfl (fun ls hl => ?_)
      refine lv_iload (pc := 72) hx hb dX9_measure_72 (lv_at hl 1 rfl) ?_
      refine lv_if_ne (tgt := 82) (pc := 74) hx hb dX9_measure_74 (by decide) (fun hc => ?_) (fun hc => ?_)
      · have hf := gif_n hc hf
        exact bX9_measure_82 hC hret hlk hU hr1 hk45 hf hH hS (lv_sub hl [2, 3, 5] rfl)
      · have hf := gif_p hc hf
        refine lv_iload (pc := 77) hx hb dX9_measure_77 (lv_at hl 0 rfl) ?_
        refine lv_if_eq (tgt := 86) (pc := 79) hx hb dX9_measure_79 (by decide) (fun hc => ?_) (fun hc => ?_)
        · have hf := gif_p hc hf
          refine lv_iconst (v := 0) (pc := 86) hx hb dX9_measure_86 (by decide) ?_
          refine lv_istore_n (lv' := [(3, .int 0), (6, .int q45_2.1), (5, .int q45_1.1), (0, .ref (ad 150)), (1, .ref (ad r1)), (4, .int l4)]) (pc := 87) hx hb dX9_measure_87 rfl hl (by decide) rfl (fun ls hl => ?_)
          refine lv_iinc (v := l4 + 1) (lv' := [(4, .int (l4 + 1)), (3, .int 0), (6, .int q45_2.1), (5, .int q45_1.1), (0, .ref (ad 150)), (1, .ref (ad r1))]) (k := 5) (pc := 88) hx hb dX9_measure_88 hl rfl rfl (by decide) rfl (fun ls hl => ?_)
          refine lv_goto (tgt := 45) (pc := 91) hx hb dX9_measure_91 (by decide) ?_
          exact hk45 hf hH hS (lv_sub hl [4, 5, 1, 0] rfl)
        · have hf := gif_n hc hf
          exact bX9_measure_82 hC hret hlk hU hr1 hk45 hf hH hS (lv_sub hl [2, 3, 5] rfl)
def hX9_measure_45 (r1 : Nat) (a2 : Int32)  : Nat → Int32 → Int32 → gS → Option (gS)
  | 0 => fun _ _ _ => none
  | n + 1 => fun l3 l4 st => fX9_measure_45 r1 a2 (hX9_measure_45 r1 a2 n) l3 l4 st
set_option maxRecDepth 100000 in
set_option maxHeartbeats 4000000 in
theorem wX9_measure_45 {r1 : Nat} {a2 : Int32} (hC : CallFix p m c cX9_measure 7 s args lw_good RX9) (hret : meth.sig.returnType = none) (hlk : meth.locks = false) (hU : gU 0 D cA ad s) (hr1 : gK 0 r1 = 8) {st' : gS}  : ∀ (n : Nat) {l3 : Int32} {l4 : Int32} {st : gS} {H : Heap} {locs : List Loc} {ls : Array Slot}, hX9_measure_45 r1 a2 n l3 l4 st = some st' → gP0 0 D cA ad st H → va_S (gA 0 ad) s.heap H locs → lv_has ls 7 [(0, .ref (ad 150)), (1, .ref (ad r1)), (3, .int l3), (4, .int l4)] → W p l e (gRm 4) s m args below meth c H locs 0 0 (MQ below (gQc 0 D cA ad st' none) args s 0 0 (gA 0 ad)) (F0 m 45 ls []) := by
  intro n
  induction n with
  | zero => intro l3 l4 st H locs ls hf hH hS hl; cases hf
  | succ n ih =>
    intro l3 l4 st H locs ls hf hH hS hl
    exact bX9_measure_45 (r1 := r1) (a2 := a2) hC hret hlk hU hr1 (fun hf hH hS hl => ih hf hH hS hl) hf hH hS hl
def fX9_measure (r1 : Nat) (a2 : Int32)   (st : gS) : Option (gS) :=
  gc (gI 0 2) ((fJ7_fill_53178 (153 + 1 + (0 : Int32).toNatClampNeg) 99 st).bind fun q0_1 => (gc (gI 1 2) ((fJ7_fill_53178 (153 + 1 + (1 : Int32).toNatClampNeg) 99 q0_1).bind fun q0_2 => (gc (gI 0 2) (gc (gI a2 8) (gc (gI 1 2) (gc (gI a2 8) (hX9_measure_45 r1 a2 FU 1 0 (wi (wi q0_2 (153 + 1 + (0 : Int32).toNatClampNeg) a2.toNatClampNeg 0) (153 + 1 + (1 : Int32).toNatClampNeg) a2.toNatClampNeg 0)))))))))
set_option maxRecDepth 100000 in
set_option maxHeartbeats 4000000 in
theorem bX9_measure_0 {r1 : Nat} {a2 : Int32} (hC : CallFix p m c cX9_measure 7 s args lw_good RX9) (hret : meth.sig.returnType = none) (hlk : meth.locks = false) (hU : gU 0 D cA ad s) (hr1 : gK 0 r1 = 8) {st' : gS}   {st : gS} {H : Heap} {locs : List Loc} {ls : Array Slot} (hf : fX9_measure r1 a2 st = some st') (hH : gP0 0 D cA ad st H) (hS : va_S (gA 0 ad) s.heap H locs) (hl : lv_has ls 7 [(0, .ref (ad 150)), (1, .ref (ad r1)), (2, .int a2)]) : W p l e (gRm 4) s m args below meth c H locs 0 0 (MQ below (gQc 0 D cA ad st' none) args s 0 0 (gA 0 ad)) (F0 m 0 ls []) := by
  obtain ⟨hx, hb, hml, hown, hts⟩ := id hC
  unfold fX9_measure at hf
  refine lv_aload_n (pc := 0) hx hb dX9_measure_0 rfl (lv_at hl 0 rfl) ?_
  refine g_get (pc := 1) (v := .ref (ad 153)) hC hU hH gk0_150 g_cl9 2 (by decide) kf_X9_20 rfl dX9_measure_1 ?_
  refine lv_iconst (v := 0) (pc := 4) hx hb dX9_measure_4 (by decide) ?_
  obtain ⟨h0_1, hf⟩ := gc_s hf
  refine g_gald (pc := 5) hC hU hH gk0_153 gn0_153 h0_1 dX9_measure_5 ?_
  refine lv_bipush (v := 99) (pc := 6) hx hb dX9_measure_6 (by decide) ?_
  obtain ⟨q0_1, hq0_1, hf⟩ := gbd hf
  refine g_callSv (pc := 8) (rest := []) hC hU hH hS hl.1 (mJ7_fill_53178 (gg_153 h0_1).1 hq0_1) ky_J7_fill_53178 km_X9_71 ⟨Nat.le_of_ble_eq_true rfl, Nat.le_of_ble_eq_true rfl⟩ ⟨Nat.zero_le _, Nat.zero_le _⟩ rfl (Nat.le_of_ble_eq_true rfl) dX9_measure_8 rfl (fun H locs hH hS => ?_)
  refine lv_aload_n (pc := 11) hx hb dX9_measure_11 rfl (lv_at hl 0 rfl) ?_
  refine g_get (pc := 12) (v := .ref (ad 153)) hC hU hH gk0_150 g_cl9 2 (by decide) kf_X9_20 rfl dX9_measure_12 ?_
  refine lv_iconst (v := 1) (pc := 15) hx hb dX9_measure_15 (by decide) ?_
  obtain ⟨h0_2, hf⟩ := gc_s hf
  refine g_gald (pc := 16) hC hU hH gk0_153 gn0_153 h0_2 dX9_measure_16 ?_
  refine lv_bipush (v := 99) (pc := 17) hx hb dX9_measure_17 (by decide) ?_
  obtain ⟨q0_2, hq0_2, hf⟩ := gbd hf
  refine g_callSv (pc := 19) (rest := []) hC hU hH hS hl.1 (mJ7_fill_53178 (gg_153 h0_2).1 hq0_2) ky_J7_fill_53178 km_X9_71 ⟨Nat.le_of_ble_eq_true rfl, Nat.le_of_ble_eq_true rfl⟩ ⟨Nat.zero_le _, Nat.zero_le _⟩ rfl (Nat.le_of_ble_eq_true rfl) dX9_measure_19 rfl (fun H locs hH hS => ?_)
  refine lv_aload_n (pc := 22) hx hb dX9_measure_22 rfl (lv_at hl 0 rfl) ?_
  refine g_get (pc := 23) (v := .ref (ad 153)) hC hU hH gk0_150 g_cl9 2 (by decide) kf_X9_20 rfl dX9_measure_23 ?_
  refine lv_iconst (v := 0) (pc := 26) hx hb dX9_measure_26 (by decide) ?_
  obtain ⟨h0_3, hf⟩ := gc_s hf
  refine g_gald (pc := 27) hC hU hH gk0_153 gn0_153 h0_3 dX9_measure_27 ?_
  refine lv_iload_n (pc := 28) hx hb dX9_measure_28 rfl (lv_at hl 2 rfl) ?_
  refine lv_iconst (v := 0) (pc := 29) hx hb dX9_measure_29 (by decide) ?_
  obtain ⟨h0_4, hf⟩ := gc_s hf
  refine g_iast (pc := 30) hC hU hH hS (gg_153 h0_3).1 (gg_153 h0_3).2 h0_4 dX9_measure_30 (fun H locs hH hS => ?_)
  refine lv_aload_n (pc := 31) hx hb dX9_measure_31 rfl (lv_at hl 0 rfl) ?_
  refine g_get (pc := 32) (v := .ref (ad 153)) hC hU hH gk0_150 g_cl9 2 (by decide) kf_X9_20 rfl dX9_measure_32 ?_
  refine lv_iconst (v := 1) (pc := 35) hx hb dX9_measure_35 (by decide) ?_
  obtain ⟨h0_5, hf⟩ := gc_s hf
  refine g_gald (pc := 36) hC hU hH gk0_153 gn0_153 h0_5 dX9_measure_36 ?_
  refine lv_iload_n (pc := 37) hx hb dX9_measure_37 rfl (lv_at hl 2 rfl) ?_
  refine lv_iconst (v := 0) (pc := 38) hx hb dX9_measure_38 (by decide) ?_
  obtain ⟨h0_6, hf⟩ := gc_s hf
  refine g_iast (pc := 39) hC hU hH hS (gg_153 h0_5).1 (gg_153 h0_5).2 h0_6 dX9_measure_39 (fun H locs hH hS => ?_)
  refine lv_iconst (v := 1) (pc := 40) hx hb dX9_measure_40 (by decide) ?_
  refine lv_istore_n (lv' := [(3, .int 1), (0, .ref (ad 150)), (1, .ref (ad r1)), (2, .int a2)]) (pc := 41) hx hb dX9_measure_41 rfl hl (by decide) rfl (fun ls hl => ?_)
  refine lv_iconst (v := 0) (pc := 42) hx hb dX9_measure_42 (by decide) ?_
  refine lv_istore (lv' := [(4, .int 0), (3, .int 1), (0, .ref (ad 150)), (1, .ref (ad r1)), (2, .int a2)]) (pc := 43) hx hb dX9_measure_43 hl (by decide) rfl (fun ls hl => ?_)
  exact wX9_measure_45 hC hret hlk hU hr1 FU hf hH hS (lv_sub hl [2, 3, 1, 0] rfl)
set_option maxRecDepth 100000 in
set_option maxHeartbeats 4000000 in
theorem mX9_measure {l : Launch} {D : va_G} {cA : Nat → ClassId} {ad : Nat → Nat} {r1 : Nat} {a2 : Int32} (hr1 : gK 0 r1 = 8) {st st' : gS} (hf : fX9_measure r1 a2 st = some st') : gM l yX9_measure cX9_measure 7 none 4 0 D cA ad st [.ref (ad 150), .ref (ad r1), .int a2] none st' := by
  refine g_met (by decide) (Nat.le_of_ble_eq_true rfl) ?_
  intro p e s m args below meth c ls hC hret hlk hU hH hl
  exact bX9_measure_0 hC hret hlk hU hr1 hf hH va_S.rf hl
def fX9_firstNearer_3 (r1 : Nat) (a2 : Int32) (a3 : Int32) (a4 : Int32) (k3 : Int32 → gS → Option (Int32 × gS)) (l5 : Int32) (st : gS) : Option (Int32 × gS) :=
  if (st.1 r1 14) ≤ l5 then (some ((-1), st)) else (gc (gI l5 16) (if (st.1 (r1 + 1 + 6) l5.toNatClampNeg) = a2 then (gc (gI (1 - a3) 2) (gc (gI l5 16) (gc (gI (st.1 (r1 + 1 + 7) l5.toNatClampNeg) 8) (if (st.1 (153 + 1 + (1 - a3).toNatClampNeg) (st.1 (r1 + 1 + 7) l5.toNatClampNeg).toNatClampNeg) = a4 then (gc (gI a3 2) ((fX8_can r1 (st.1 151 a3.toNatClampNeg) l5 st).bind fun q3_1 => (if q3_1.1 = 0 then (k3 (l5 + 1) q3_1.2) else (some (l5, q3_1.2))))) else (k3 (l5 + 1) st))))) else (k3 (l5 + 1) st)))
set_option maxRecDepth 100000 in
set_option maxHeartbeats 4000000 in
theorem bX9_firstNearer_3 {r1 : Nat} {a2 : Int32} {a3 : Int32} {a4 : Int32} (hC : CallFix p m c cX9_firstNearer 6 s args lw_good RX9) (hret : meth.sig.returnType = (some .int)) (hlk : meth.locks = false) (hU : gU 0 D cA ad s) (hr1 : gK 0 r1 = 8) {r : Int32} {st' : gS} {k3 : Int32 → gS → Option (Int32 × gS)} (hk3 : ∀ {l5 : Int32} {st : gS} {H : Heap} {locs : List Loc} {ls : Array Slot}, k3 l5 st = some (r, st') → gP0 0 D cA ad st H → va_S (gA 0 ad) s.heap H locs → lv_has ls 6 [(0, .ref (ad 150)), (1, .ref (ad r1)), (2, .int a2), (3, .int a3), (4, .int a4), (5, .int l5)] → W p l e (gRm 3) s m args below meth c H locs 0 0 (MQ below (gQc 0 D cA ad st' (some (.int r))) args s 0 0 (gA 0 ad)) (F0 m 3 ls [])) {l5 : Int32} {st : gS} {H : Heap} {locs : List Loc} {ls : Array Slot} (hf : fX9_firstNearer_3 r1 a2 a3 a4 k3 l5 st = some (r, st')) (hH : gP0 0 D cA ad st H) (hS : va_S (gA 0 ad) s.heap H locs) (hl : lv_has ls 6 [(0, .ref (ad 150)), (1, .ref (ad r1)), (2, .int a2), (3, .int a3), (4, .int a4), (5, .int l5)]) : W p l e (gRm 3) s m args below meth c H locs 0 0 (MQ below (gQc 0 D cA ad st' (some (.int r))) args s 0 0 (gA 0 ad)) (F0 m 3 ls []) := by
  obtain ⟨hx, hb, hml, hown, hts⟩ := id hC
  unfold fX9_firstNearer_3 at hf
  refine lv_iload (pc := 3) hx hb dX9_firstNearer_3 (lv_at hl 5 rfl) ?_
  refine lv_aload_n (pc := 5) hx hb dX9_firstNearer_5 rfl (lv_at hl 1 rfl) ?_
  refine g_get (pc := 6) (v := .int (st.1 r1 14)) hC hU hH hr1 g_cl8 14 (by decide) kf_X9_81 rfl dX9_firstNearer_6 ?_
  refine lv_icmp_ge (tgt := 68) (pc := 9) hx hb dX9_firstNearer_9 (by decide) (fun hc => ?_) (fun hc => ?_)
  · have hf := gif_p hc hf
    refine lv_iconst (v := (-1)) (pc := 68) hx hb dX9_firstNearer_68 (by decide) ?_
    exact g_iret (pc := 69) hC hret hlk hH hS hf dX9_firstNearer_69
  · have hf := gif_n hc hf
    refine lv_aload_n (pc := 12) hx hb dX9_firstNearer_12 rfl (lv_at hl 1 rfl) ?_
    refine g_get (pc := 13) (v := .ref (ad (r1 + 1 + 6))) hC hU hH hr1 g_cl8 6 (by decide) kf_X9_87 rfl dX9_firstNearer_13 ?_
    refine lv_iload (pc := 16) hx hb dX9_firstNearer_16 (lv_at hl 5 rfl) ?_
    obtain ⟨h3_1, hf⟩ := gc_s hf
    refine g_iald (pc := 18) hC hU hH (gk_8_6 hr1) (gn_8_6 hr1) h3_1 dX9_firstNearer_18 ?_
    refine lv_iload_n (pc := 19) hx hb dX9_firstNearer_19 rfl (lv_at hl 2 rfl) ?_
    refine lv_icmp_ne (tgt := 62) (pc := 20) hx hb dX9_firstNearer_20 (by decide) (fun hc => ?_) (fun hc => ?_)
    · have hf := gif_n hc hf
      refine lv_iinc (v := l5 + 1) (lv' := [(5, .int (l5 + 1)), (0, .ref (ad 150)), (1, .ref (ad r1)), (2, .int a2), (3, .int a3), (4, .int a4)]) (k := 5) (pc := 62) hx hb dX9_firstNearer_62 hl rfl rfl (by decide) rfl (fun ls hl => ?_)
      refine lv_goto (tgt := 3) (pc := 65) hx hb dX9_firstNearer_65 (by decide) ?_
      exact hk3 hf hH hS (lv_sub hl [1, 2, 3, 4, 5, 0] rfl)
    · have hf := gif_p hc hf
      refine lv_aload_n (pc := 23) hx hb dX9_firstNearer_23 rfl (lv_at hl 0 rfl) ?_
      refine g_get (pc := 24) (v := .ref (ad 153)) hC hU hH gk0_150 g_cl9 2 (by decide) kf_X9_20 rfl dX9_firstNearer_24 ?_
      refine lv_iconst (v := 1) (pc := 27) hx hb dX9_firstNearer_27 (by decide) ?_
      refine lv_iload_n (pc := 28) hx hb dX9_firstNearer_28 rfl (lv_at hl 3 rfl) ?_
      refine lv_isub (pc := 29) hx hb dX9_firstNearer_29 ?_
      obtain ⟨h3_2, hf⟩ := gc_s hf
      refine g_gald (pc := 30) hC hU hH gk0_153 gn0_153 h3_2 dX9_firstNearer_30 ?_
      refine lv_aload_n (pc := 31) hx hb dX9_firstNearer_31 rfl (lv_at hl 1 rfl) ?_
      refine g_get (pc := 32) (v := .ref (ad (r1 + 1 + 7))) hC hU hH hr1 g_cl8 7 (by decide) kf_X9_84 rfl dX9_firstNearer_32 ?_
      refine lv_iload (pc := 35) hx hb dX9_firstNearer_35 (lv_at hl 5 rfl) ?_
      obtain ⟨h3_3, hf⟩ := gc_s hf
      refine g_iald (pc := 37) hC hU hH (gk_8_7 hr1) (gn_8_7 hr1) h3_3 dX9_firstNearer_37 ?_
      obtain ⟨h3_4, hf⟩ := gc_s hf
      refine g_iald (pc := 38) hC hU hH (gg_153 h3_2).1 (gg_153 h3_2).2 h3_4 dX9_firstNearer_38 ?_
      refine lv_iload (pc := 39) hx hb dX9_firstNearer_39 (lv_at hl 4 rfl) ?_
      refine lv_icmp_ne (tgt := 62) (pc := 41) hx hb dX9_firstNearer_41 (by decide) (fun hc => ?_) (fun hc => ?_)
      · have hf := gif_n hc hf
        refine lv_iinc (v := l5 + 1) (lv' := [(5, .int (l5 + 1)), (0, .ref (ad 150)), (1, .ref (ad r1)), (2, .int a2), (3, .int a3), (4, .int a4)]) (k := 5) (pc := 62) hx hb dX9_firstNearer_62 hl rfl rfl (by decide) rfl (fun ls hl => ?_)
        refine lv_goto (tgt := 3) (pc := 65) hx hb dX9_firstNearer_65 (by decide) ?_
        exact hk3 hf hH hS (lv_sub hl [1, 2, 3, 4, 5, 0] rfl)
      · have hf := gif_p hc hf
        refine lv_aload_n (pc := 44) hx hb dX9_firstNearer_44 rfl (lv_at hl 1 rfl) ?_
        refine lv_aload_n (pc := 45) hx hb dX9_firstNearer_45 rfl (lv_at hl 0 rfl) ?_
        refine g_get (pc := 46) (v := .ref (ad 151)) hC hU hH gk0_150 g_cl9 0 (by decide) kf_X9_9 rfl dX9_firstNearer_46 ?_
        refine lv_iload_n (pc := 49) hx hb dX9_firstNearer_49 rfl (lv_at hl 3 rfl) ?_
        obtain ⟨h3_5, hf⟩ := gc_s hf
        refine g_iald (pc := 50) hC hU hH gk0_151 gn0_151 h3_5 dX9_firstNearer_50 ?_
        refine lv_iload (pc := 51) hx hb dX9_firstNearer_51 (lv_at hl 5 rfl) ?_
        obtain ⟨q3_1, hq3_1, hf⟩ := gbd hf
        refine g_callVi (pc := 53) (rest := []) hC hU hH hS hl.1 hr1 rfl (by decide) (mX8_can hr1 hq3_1) ky_X8_can km_X9_90 ⟨Nat.le_of_ble_eq_true rfl, Nat.le_of_ble_eq_true rfl⟩ ⟨Nat.zero_le _, Nat.zero_le _⟩ rfl (Nat.le_of_ble_eq_true rfl) dX9_firstNearer_53 rfl (fun H locs hH hS => ?_)
        refine lv_if_eq (tgt := 62) (pc := 56) hx hb dX9_firstNearer_56 (by decide) (fun hc => ?_) (fun hc => ?_)
        · have hf := gif_p hc hf
          refine lv_iinc (v := l5 + 1) (lv' := [(5, .int (l5 + 1)), (0, .ref (ad 150)), (1, .ref (ad r1)), (2, .int a2), (3, .int a3), (4, .int a4)]) (k := 5) (pc := 62) hx hb dX9_firstNearer_62 hl rfl rfl (by decide) rfl (fun ls hl => ?_)
          refine lv_goto (tgt := 3) (pc := 65) hx hb dX9_firstNearer_65 (by decide) ?_
          exact hk3 hf hH hS (lv_sub hl [1, 2, 3, 4, 5, 0] rfl)
        · have hf := gif_n hc hf
          refine lv_iload (pc := 59) hx hb dX9_firstNearer_59 (lv_at hl 5 rfl) ?_
          exact g_iret (pc := 61) hC hret hlk hH hS hf dX9_firstNearer_61
def hX9_firstNearer_3 (r1 : Nat) (a2 : Int32) (a3 : Int32) (a4 : Int32)  : Nat → Int32 → gS → Option (Int32 × gS)
  | 0 => fun _ _ => none
  | n + 1 => fun l5 st => fX9_firstNearer_3 r1 a2 a3 a4 (hX9_firstNearer_3 r1 a2 a3 a4 n) l5 st
set_option maxRecDepth 100000 in
set_option maxHeartbeats 4000000 in
theorem wX9_firstNearer_3 {r1 : Nat} {a2 : Int32} {a3 : Int32} {a4 : Int32} (hC : CallFix p m c cX9_firstNearer 6 s args lw_good RX9) (hret : meth.sig.returnType = (some .int)) (hlk : meth.locks = false) (hU : gU 0 D cA ad s) (hr1 : gK 0 r1 = 8) {r : Int32} {st' : gS}  : ∀ (n : Nat) {l5 : Int32} {st : gS} {H : Heap} {locs : List Loc} {ls : Array Slot}, hX9_firstNearer_3 r1 a2 a3 a4 n l5 st = some (r, st') → gP0 0 D cA ad st H → va_S (gA 0 ad) s.heap H locs → lv_has ls 6 [(0, .ref (ad 150)), (1, .ref (ad r1)), (2, .int a2), (3, .int a3), (4, .int a4), (5, .int l5)] → W p l e (gRm 3) s m args below meth c H locs 0 0 (MQ below (gQc 0 D cA ad st' (some (.int r))) args s 0 0 (gA 0 ad)) (F0 m 3 ls []) := by
  intro n
  induction n with
  | zero => intro l5 st H locs ls hf hH hS hl; cases hf
  | succ n ih =>
    intro l5 st H locs ls hf hH hS hl
    exact bX9_firstNearer_3 (r1 := r1) (a2 := a2) (a3 := a3) (a4 := a4) hC hret hlk hU hr1 (fun hf hH hS hl => ih hf hH hS hl) hf hH hS hl
def fX9_firstNearer (r1 : Nat) (a2 : Int32) (a3 : Int32) (a4 : Int32)   (st : gS) : Option (Int32 × gS) :=
  hX9_firstNearer_3 r1 a2 a3 a4 FU 0 st
set_option maxRecDepth 100000 in
set_option maxHeartbeats 4000000 in
theorem bX9_firstNearer_0 {r1 : Nat} {a2 : Int32} {a3 : Int32} {a4 : Int32} (hC : CallFix p m c cX9_firstNearer 6 s args lw_good RX9) (hret : meth.sig.returnType = (some .int)) (hlk : meth.locks = false) (hU : gU 0 D cA ad s) (hr1 : gK 0 r1 = 8) {r : Int32} {st' : gS}   {st : gS} {H : Heap} {locs : List Loc} {ls : Array Slot} (hf : fX9_firstNearer r1 a2 a3 a4 st = some (r, st')) (hH : gP0 0 D cA ad st H) (hS : va_S (gA 0 ad) s.heap H locs) (hl : lv_has ls 6 [(0, .ref (ad 150)), (1, .ref (ad r1)), (2, .int a2), (3, .int a3), (4, .int a4)]) : W p l e (gRm 3) s m args below meth c H locs 0 0 (MQ below (gQc 0 D cA ad st' (some (.int r))) args s 0 0 (gA 0 ad)) (F0 m 0 ls []) := by
  obtain ⟨hx, hb, hml, hown, hts⟩ := id hC
  unfold fX9_firstNearer at hf
  refine lv_iconst (v := 0) (pc := 0) hx hb dX9_firstNearer_0 (by decide) ?_
  refine lv_istore (lv' := [(5, .int 0), (0, .ref (ad 150)), (1, .ref (ad r1)), (2, .int a2), (3, .int a3), (4, .int a4)]) (pc := 1) hx hb dX9_firstNearer_1 hl (by decide) rfl (fun ls hl => ?_)
  exact wX9_firstNearer_3 hC hret hlk hU hr1 FU hf hH hS (lv_sub hl [1, 2, 3, 4, 5, 0] rfl)
set_option maxRecDepth 100000 in
set_option maxHeartbeats 4000000 in
theorem mX9_firstNearer {l : Launch} {D : va_G} {cA : Nat → ClassId} {ad : Nat → Nat} {r1 : Nat} {a2 : Int32} {a3 : Int32} {a4 : Int32} (hr1 : gK 0 r1 = 8) {r : Int32} {st st' : gS} (hf : fX9_firstNearer r1 a2 a3 a4 st = some (r, st')) : gM l yX9_firstNearer cX9_firstNearer 6 (some .int) 3 0 D cA ad st [.ref (ad 150), .ref (ad r1), .int a2, .int a3, .int a4] (some (.int r)) st' := by
  refine g_met (by decide) (Nat.le_of_ble_eq_true rfl) ?_
  intro p e s m args below meth c ls hC hret hlk hU hH hl
  exact bX9_firstNearer_0 hC hret hlk hU hr1 hf hH va_S.rf hl
def fX9_lay (a1 : Int32)   (st : gS) : Option (gS) :=
  if 16 ≤ (st.1 150 7) then (some st) else (gc (gI (st.1 150 7) 16) (some (wi (wi st 152 (st.1 150 7).toNatClampNeg a1) 150 7 (((wi st 152 (st.1 150 7).toNatClampNeg a1).1 150 7) + 1))))
set_option maxRecDepth 100000 in
set_option maxHeartbeats 4000000 in
theorem bX9_lay_0 {a1 : Int32} (hC : CallFix p m c cX9_lay 2 s args lw_good RX9) (hret : meth.sig.returnType = none) (hlk : meth.locks = false) (hU : gU 0 D cA ad s)  {st' : gS}   {st : gS} {H : Heap} {locs : List Loc} {ls : Array Slot} (hf : fX9_lay a1 st = some st') (hH : gP0 0 D cA ad st H) (hS : va_S (gA 0 ad) s.heap H locs) (hl : lv_has ls 2 [(0, .ref (ad 150)), (1, .int a1)]) : W p l e (gRm 1) s m args below meth c H locs 0 0 (MQ below (gQc 0 D cA ad st' none) args s 0 0 (gA 0 ad)) (F0 m 0 ls []) := by
  obtain ⟨hx, hb, hml, hown, hts⟩ := id hC
  unfold fX9_lay at hf
  refine lv_aload_n (pc := 0) hx hb dX9_lay_0 rfl (lv_at hl 0 rfl) ?_
  refine g_get (pc := 1) (v := .int (st.1 150 7)) hC hU hH gk0_150 g_cl9 7 (by decide) kf_X9_35 rfl dX9_lay_1 ?_
  refine lv_bipush (v := 16) (pc := 4) hx hb dX9_lay_4 (by decide) ?_
  refine lv_icmp_ge (tgt := 29) (pc := 6) hx hb dX9_lay_6 (by decide) (fun hc => ?_) (fun hc => ?_)
  · have hf := gif_p hc hf
    exact g_vret (pc := 29) hC hret hlk hH hS hf dX9_lay_29
  · have hf := gif_n hc hf
    refine lv_aload_n (pc := 9) hx hb dX9_lay_9 rfl (lv_at hl 0 rfl) ?_
    refine g_get (pc := 10) (v := .ref (ad 152)) hC hU hH gk0_150 g_cl9 1 (by decide) kf_X9_15 rfl dX9_lay_10 ?_
    refine lv_aload_n (pc := 13) hx hb dX9_lay_13 rfl (lv_at hl 0 rfl) ?_
    refine g_get (pc := 14) (v := .int (st.1 150 7)) hC hU hH gk0_150 g_cl9 7 (by decide) kf_X9_35 rfl dX9_lay_14 ?_
    refine lv_iload_n (pc := 17) hx hb dX9_lay_17 rfl (lv_at hl 1 rfl) ?_
    obtain ⟨h0_1, hf⟩ := gc_s hf
    refine g_iast (pc := 18) hC hU hH hS gk0_152 gn0_152 h0_1 dX9_lay_18 (fun H locs hH hS => ?_)
    refine lv_aload_n (pc := 19) hx hb dX9_lay_19 rfl (lv_at hl 0 rfl) ?_
    refine lv_dup (pc := 20) hx hb dX9_lay_20 rfl ?_
    refine g_get (pc := 21) (v := .int ((wi st 152 (st.1 150 7).toNatClampNeg a1).1 150 7)) hC hU hH gk0_150 g_cl9 7 (by decide) kf_X9_35 rfl dX9_lay_21 ?_
    refine lv_iconst (v := 1) (pc := 24) hx hb dX9_lay_24 (by decide) ?_
    refine lv_iadd (pc := 25) hx hb dX9_lay_25 ?_
    refine g_puti (pc := 26) hC hU hH hS gk0_150 g_cl9 7 (by decide) kf_X9_35 rfl rfl rfl rfl dX9_lay_26 (fun H locs hH hS => ?_)
    exact g_vret (pc := 29) hC hret hlk hH hS hf dX9_lay_29
set_option maxRecDepth 100000 in
set_option maxHeartbeats 4000000 in
theorem mX9_lay {l : Launch} {D : va_G} {cA : Nat → ClassId} {ad : Nat → Nat} {a1 : Int32}  {st st' : gS} (hf : fX9_lay a1 st = some st') : gM l yX9_lay cX9_lay 2 none 1 0 D cA ad st [.ref (ad 150), .int a1] none st' := by
  refine g_met (by decide) (Nat.le_of_ble_eq_true rfl) ?_
  intro p e s m args below meth c ls hC hret hlk hU hH hl
  exact bX9_lay_0 hC hret hlk hU hf hH va_S.rf hl
def fX9_layFewest_6 (r1 : Nat) (a2 : Int32) (a3 : Int32) (k6 : Int32 → Int32 → gS → Option (gS)) (l4 : Int32) (l5 : Int32) (st : gS) : Option (gS) :=
  if a3 ≤ l5 then (some st) else ((fX9_firstNearer r1 l4 (l5 &&& 1) ((a3 - l5) - 1) st).bind fun q6_1 => (if q6_1.1 = (-1) then (some q6_1.2) else ((fX9_lay q6_1.1 q6_1.2).bind fun q6_2 => (gc (gI q6_1.1 16) (gl (q6_2.1 (r1 + 1 + 7) q6_1.1.toNatClampNeg) fun x51 => (k6 x51 (l5 + 1) q6_2))))))
set_option maxRecDepth 100000 in
set_option maxHeartbeats 4000000 in
theorem bX9_layFewest_6 {r1 : Nat} {a2 : Int32} {a3 : Int32} (hC : CallFix p m c cX9_layFewest 7 s args lw_good RX9) (hret : meth.sig.returnType = none) (hlk : meth.locks = false) (hU : gU 0 D cA ad s) (hr1 : gK 0 r1 = 8) {st' : gS} {k6 : Int32 → Int32 → gS → Option (gS)} (hk6 : ∀ {l4 : Int32} {l5 : Int32} {st : gS} {H : Heap} {locs : List Loc} {ls : Array Slot}, k6 l4 l5 st = some st' → gP0 0 D cA ad st H → va_S (gA 0 ad) s.heap H locs → lv_has ls 7 [(0, .ref (ad 150)), (1, .ref (ad r1)), (3, .int a3), (4, .int l4), (5, .int l5)] → W p l e (gRm 4) s m args below meth c H locs 0 0 (MQ below (gQc 0 D cA ad st' none) args s 0 0 (gA 0 ad)) (F0 m 6 ls [])) {l4 : Int32} {l5 : Int32} {st : gS} {H : Heap} {locs : List Loc} {ls : Array Slot} (hf : fX9_layFewest_6 r1 a2 a3 k6 l4 l5 st = some st') (hH : gP0 0 D cA ad st H) (hS : va_S (gA 0 ad) s.heap H locs) (hl : lv_has ls 7 [(0, .ref (ad 150)), (1, .ref (ad r1)), (3, .int a3), (4, .int l4), (5, .int l5)]) : W p l e (gRm 4) s m args below meth c H locs 0 0 (MQ below (gQc 0 D cA ad st' none) args s 0 0 (gA 0 ad)) (F0 m 6 ls []) := by
  obtain ⟨hx, hb, hml, hown, hts⟩ := id hC
  unfold fX9_layFewest_6 at hf
  refine lv_iload (pc := 6) hx hb dX9_layFewest_6 (lv_at hl 4 rfl) ?_
  refine lv_iload_n (pc := 8) hx hb dX9_layFewest_8 rfl (lv_at hl 2 rfl) ?_
  refine lv_icmp_ge (tgt := 59) (pc := 9) hx hb dX9_layFewest_9 (by decide) (fun hc => ?_) (fun hc => ?_)
  · have hf := gif_p hc hf
    exact g_vret (pc := 59) hC hret hlk hH hS hf dX9_layFewest_59
  · have hf := gif_n hc hf
    refine lv_aload_n (pc := 12) hx hb dX9_layFewest_12 rfl (lv_at hl 0 rfl) ?_
    refine lv_aload_n (pc := 13) hx hb dX9_layFewest_13 rfl (lv_at hl 1 rfl) ?_
    refine lv_iload (pc := 14) hx hb dX9_layFewest_14 (lv_at hl 3 rfl) ?_
    refine lv_iload (pc := 16) hx hb dX9_layFewest_16 (lv_at hl 4 rfl) ?_
    refine lv_iconst (v := 1) (pc := 18) hx hb dX9_layFewest_18 (by decide) ?_
    refine lv_iand (pc := 19) hx hb dX9_layFewest_19 ?_
    refine lv_iload_n (pc := 20) hx hb dX9_layFewest_20 rfl (lv_at hl 2 rfl) ?_
    refine lv_iload (pc := 21) hx hb dX9_layFewest_21 (lv_at hl 4 rfl) ?_
    refine lv_isub (pc := 23) hx hb dX9_layFewest_23 ?_
    refine lv_iconst (v := 1) (pc := 24) hx hb dX9_layFewest_24 (by decide) ?_
    refine lv_isub (pc := 25) hx hb dX9_layFewest_25 ?_
    obtain ⟨q6_1, hq6_1, hf⟩ := gbd hf
    refine g_callVi (pc := 26) (rest := []) hC hU hH hS hl.1 gk0_150 rfl (by decide) (mX9_firstNearer hr1 hq6_1) ky_X9_firstNearer km_X9_94 ⟨Nat.le_of_ble_eq_true rfl, Nat.le_of_ble_eq_true rfl⟩ ⟨Nat.zero_le _, Nat.zero_le _⟩ rfl (Nat.le_of_ble_eq_true rfl) dX9_layFewest_26 rfl (fun H locs hH hS => ?_)
    refine lv_istore (lv' := [(6, .int q6_1.1), (0, .ref (ad 150)), (1, .ref (ad r1)), (3, .int a3), (4, .int l4), (5, .int l5)]) (pc := 29) hx hb dX9_layFewest_29 hl (by decide) rfl (fun ls hl => ?_)
    refine lv_iload (pc := 31) hx hb dX9_layFewest_31 (lv_at hl 0 rfl) ?_
    refine lv_iconst (v := (-1)) (pc := 33) hx hb dX9_layFewest_33 (by decide) ?_
    refine lv_icmp_ne (tgt := 38) (pc := 34) hx hb dX9_layFewest_34 (by decide) (fun hc => ?_) (fun hc => ?_)
    · have hf := gif_n hc hf
      refine lv_aload_n (pc := 38) hx hb dX9_layFewest_38 rfl (lv_at hl 1 rfl) ?_
      refine lv_iload (pc := 39) hx hb dX9_layFewest_39 (lv_at hl 0 rfl) ?_
      obtain ⟨q6_2, hq6_2, hf⟩ := gbd hf
      refine g_callVv (pc := 41) (rest := []) hC hU hH hS hl.1 gk0_150 rfl (by decide) (mX9_lay  hq6_2) ky_X9_lay km_X9_98 ⟨Nat.le_of_ble_eq_true rfl, Nat.le_of_ble_eq_true rfl⟩ ⟨Nat.zero_le _, Nat.zero_le _⟩ rfl (Nat.le_of_ble_eq_true rfl) dX9_layFewest_41 rfl (fun H locs hH hS => ?_)
      refine lv_aload_n (pc := 44) hx hb dX9_layFewest_44 rfl (lv_at hl 2 rfl) ?_
      refine g_get (pc := 45) (v := .ref (ad (r1 + 1 + 7))) hC hU hH hr1 g_cl8 7 (by decide) kf_X9_84 rfl dX9_layFewest_45 ?_
      refine lv_iload (pc := 48) hx hb dX9_layFewest_48 (lv_at hl 0 rfl) ?_
      obtain ⟨h6_1, hf⟩ := gc_s hf
      refine g_iald (pc := 50) hC hU hH (gk_8_7 hr1) (gn_8_7 hr1) h6_1 dX9_layFewest_50 ?_
      refine lv_topi (pc := 51) (fun x51 ex51 => ?_)
      have hf := gl_s ex51 hf
      refine lv_istore (lv' := [(4, .int x51), (6, .int q6_1.1), (0, .ref (ad 150)), (1, .ref (ad r1)), (3, .int a3), (5, .int l5)]) (pc := 51) hx hb dX9_layFewest_51 hl (by decide) rfl (fun ls hl => ?_)
      refine lv_iinc (v := l5 + 1) (lv' := [(5, .int (l5 + 1)), (4, .int x51), (6, .int q6_1.1), (0, .ref (ad 150)), (1, .ref (ad r1)), (3, .int a3)]) (k := 5) (pc := 53) hx hb dX9_layFewest_53 hl rfl rfl (by decide) rfl (fun ls hl => ?_)
      refine lv_goto (tgt := 6) (pc := 56) hx hb dX9_layFewest_56 (by decide) ?_
      exact hk6 hf hH hS (lv_sub hl [3, 4, 5, 1, 0] rfl)
    · have hf := gif_p hc hf
      exact g_vret (pc := 37) hC hret hlk hH hS hf dX9_layFewest_37
def hX9_layFewest_6 (r1 : Nat) (a2 : Int32) (a3 : Int32)  : Nat → Int32 → Int32 → gS → Option (gS)
  | 0 => fun _ _ _ => none
  | n + 1 => fun l4 l5 st => fX9_layFewest_6 r1 a2 a3 (hX9_layFewest_6 r1 a2 a3 n) l4 l5 st
set_option maxRecDepth 100000 in
set_option maxHeartbeats 4000000 in
theorem wX9_layFewest_6 {r1 : Nat} {a2 : Int32} {a3 : Int32} (hC : CallFix p m c cX9_layFewest 7 s args lw_good RX9) (hret : meth.sig.returnType = none) (hlk : meth.locks = false) (hU : gU 0 D cA ad s) (hr1 : gK 0 r1 = 8) {st' : gS}  : ∀ (n : Nat) {l4 : Int32} {l5 : Int32} {st : gS} {H : Heap} {locs : List Loc} {ls : Array Slot}, hX9_layFewest_6 r1 a2 a3 n l4 l5 st = some st' → gP0 0 D cA ad st H → va_S (gA 0 ad) s.heap H locs → lv_has ls 7 [(0, .ref (ad 150)), (1, .ref (ad r1)), (3, .int a3), (4, .int l4), (5, .int l5)] → W p l e (gRm 4) s m args below meth c H locs 0 0 (MQ below (gQc 0 D cA ad st' none) args s 0 0 (gA 0 ad)) (F0 m 6 ls []) := by
  intro n
  induction n with
  | zero => intro l4 l5 st H locs ls hf hH hS hl; cases hf
  | succ n ih =>
    intro l4 l5 st H locs ls hf hH hS hl
    exact bX9_layFewest_6 (r1 := r1) (a2 := a2) (a3 := a3) hC hret hlk hU hr1 (fun hf hH hS hl => ih hf hH hS hl) hf hH hS hl
def fX9_layFewest (r1 : Nat) (a2 : Int32) (a3 : Int32)   (st : gS) : Option (gS) :=
  hX9_layFewest_6 r1 a2 a3 FU a2 0 st
set_option maxRecDepth 100000 in
set_option maxHeartbeats 4000000 in
theorem bX9_layFewest_0 {r1 : Nat} {a2 : Int32} {a3 : Int32} (hC : CallFix p m c cX9_layFewest 7 s args lw_good RX9) (hret : meth.sig.returnType = none) (hlk : meth.locks = false) (hU : gU 0 D cA ad s) (hr1 : gK 0 r1 = 8) {st' : gS}   {st : gS} {H : Heap} {locs : List Loc} {ls : Array Slot} (hf : fX9_layFewest r1 a2 a3 st = some st') (hH : gP0 0 D cA ad st H) (hS : va_S (gA 0 ad) s.heap H locs) (hl : lv_has ls 7 [(0, .ref (ad 150)), (1, .ref (ad r1)), (2, .int a2), (3, .int a3)]) : W p l e (gRm 4) s m args below meth c H locs 0 0 (MQ below (gQc 0 D cA ad st' none) args s 0 0 (gA 0 ad)) (F0 m 0 ls []) := by
  obtain ⟨hx, hb, hml, hown, hts⟩ := id hC
  unfold fX9_layFewest at hf
  refine lv_iload_n (pc := 0) hx hb dX9_layFewest_0 rfl (lv_at hl 2 rfl) ?_
  refine lv_istore (lv' := [(4, .int a2), (0, .ref (ad 150)), (1, .ref (ad r1)), (2, .int a2), (3, .int a3)]) (pc := 1) hx hb dX9_layFewest_1 hl (by decide) rfl (fun ls hl => ?_)
  refine lv_iconst (v := 0) (pc := 3) hx hb dX9_layFewest_3 (by decide) ?_
  refine lv_istore (lv' := [(5, .int 0), (4, .int a2), (0, .ref (ad 150)), (1, .ref (ad r1)), (2, .int a2), (3, .int a3)]) (pc := 4) hx hb dX9_layFewest_4 hl (by decide) rfl (fun ls hl => ?_)
  exact wX9_layFewest_6 hC hret hlk hU hr1 FU hf hH hS (lv_sub hl [2, 3, 5, 1, 0] rfl)
set_option maxRecDepth 100000 in
set_option maxHeartbeats 4000000 in
theorem mX9_layFewest {l : Launch} {D : va_G} {cA : Nat → ClassId} {ad : Nat → Nat} {r1 : Nat} {a2 : Int32} {a3 : Int32} (hr1 : gK 0 r1 = 8) {st st' : gS} (hf : fX9_layFewest r1 a2 a3 st = some st') : gM l yX9_layFewest cX9_layFewest 7 none 4 0 D cA ad st [.ref (ad 150), .ref (ad r1), .int a2, .int a3] none st' := by
  refine g_met (by decide) (Nat.le_of_ble_eq_true rfl) ?_
  intro p e s m args below meth c ls hC hret hlk hU hH hl
  exact bX9_layFewest_0 hC hret hlk hU hr1 hf hH va_S.rf hl
def fX9_fewest (r1 : Nat) (r2 : Nat) (a3 : Int32) (a4 : Int32)   (st : gS) : Option (Int32 × gS) :=
  (fX8_hasFigure r1 (st.1 r2 2) st).bind fun q0_1 => (if q0_1.1 = 0 then (some ((-1), q0_1.2)) else ((fX8_hasFigure r1 a4 q0_1.2).bind fun q0_2 => (if q0_2.1 = 0 then (some ((-1), q0_2.2)) else ((fX9_sit r2 a3 q0_2.2).bind fun q0_3 => ((fX9_measure r1 a4 q0_3).bind fun q0_4 => (gc (gI 0 2) (gc (gI (q0_4.1 r2 2) 8) (gl (q0_4.1 (153 + 1 + (0 : Int32).toNatClampNeg) (q0_4.1 r2 2).toNatClampNeg) fun x46 => (if x46 < 99 then ((fX9_layFewest r1 (q0_4.1 r2 2) x46 q0_4).bind fun q0_5 => (some (x46, q0_5))) else (some ((-1), q0_4)))))))))))
set_option maxRecDepth 100000 in
set_option maxHeartbeats 4000000 in
theorem bX9_fewest_0 {r1 : Nat} {r2 : Nat} {a3 : Int32} {a4 : Int32} (hC : CallFix p m c cX9_fewest 6 s args lw_good RX9) (hret : meth.sig.returnType = (some .int)) (hlk : meth.locks = false) (hU : gU 0 D cA ad s) (hr1 : gK 0 r1 = 8) (hr2 : gK 0 r2 = 5) {r : Int32} {st' : gS}   {st : gS} {H : Heap} {locs : List Loc} {ls : Array Slot} (hf : fX9_fewest r1 r2 a3 a4 st = some (r, st')) (hH : gP0 0 D cA ad st H) (hS : va_S (gA 0 ad) s.heap H locs) (hl : lv_has ls 6 [(0, .ref (ad 150)), (1, .ref (ad r1)), (2, .ref (ad r2)), (3, .int a3), (4, .int a4)]) : W p l e (gRm 5) s m args below meth c H locs 0 0 (MQ below (gQc 0 D cA ad st' (some (.int r))) args s 0 0 (gA 0 ad)) (F0 m 0 ls []) := by
  obtain ⟨hx, hb, hml, hown, hts⟩ := id hC
  unfold fX9_fewest at hf
  refine lv_aload_n (pc := 0) hx hb dX9_fewest_0 rfl (lv_at hl 1 rfl) ?_
  refine lv_aload_n (pc := 1) hx hb dX9_fewest_1 rfl (lv_at hl 2 rfl) ?_
  refine g_get (pc := 2) (v := .int (st.1 r2 2)) hC hU hH hr2 g_cl5 2 (by decide) kf_X9_50 rfl dX9_fewest_2 ?_
  obtain ⟨q0_1, hq0_1, hf⟩ := gbd hf
  refine g_callVi (pc := 5) (rest := []) hC hU hH hS hl.1 hr1 rfl (by decide) (mX8_hasFigure hr1 hq0_1) ky_X8_hasFigure km_X9_53 ⟨Nat.le_of_ble_eq_true rfl, Nat.le_of_ble_eq_true rfl⟩ ⟨Nat.zero_le _, Nat.zero_le _⟩ rfl (Nat.le_of_ble_eq_true rfl) dX9_fewest_5 rfl (fun H locs hH hS => ?_)
  refine lv_if_eq (tgt := 20) (pc := 8) hx hb dX9_fewest_8 (by decide) (fun hc => ?_) (fun hc => ?_)
  · have hf := gif_p hc hf
    refine lv_iconst (v := (-1)) (pc := 20) hx hb dX9_fewest_20 (by decide) ?_
    exact g_iret (pc := 21) hC hret hlk hH hS hf dX9_fewest_21
  · have hf := gif_n hc hf
    refine lv_aload_n (pc := 11) hx hb dX9_fewest_11 rfl (lv_at hl 1 rfl) ?_
    refine lv_iload (pc := 12) hx hb dX9_fewest_12 (lv_at hl 4 rfl) ?_
    obtain ⟨q0_2, hq0_2, hf⟩ := gbd hf
    refine g_callVi (pc := 14) (rest := []) hC hU hH hS hl.1 hr1 rfl (by decide) (mX8_hasFigure hr1 hq0_2) ky_X8_hasFigure km_X9_53 ⟨Nat.le_of_ble_eq_true rfl, Nat.le_of_ble_eq_true rfl⟩ ⟨Nat.zero_le _, Nat.zero_le _⟩ rfl (Nat.le_of_ble_eq_true rfl) dX9_fewest_14 rfl (fun H locs hH hS => ?_)
    refine lv_if_ne (tgt := 22) (pc := 17) hx hb dX9_fewest_17 (by decide) (fun hc => ?_) (fun hc => ?_)
    · have hf := gif_n hc hf
      refine lv_aload_n (pc := 22) hx hb dX9_fewest_22 rfl (lv_at hl 0 rfl) ?_
      refine lv_aload_n (pc := 23) hx hb dX9_fewest_23 rfl (lv_at hl 2 rfl) ?_
      refine lv_iload_n (pc := 24) hx hb dX9_fewest_24 rfl (lv_at hl 3 rfl) ?_
      obtain ⟨q0_3, hq0_3, hf⟩ := gbd hf
      refine g_callVv (pc := 25) (rest := []) hC hU hH hS hl.1 gk0_150 rfl (by decide) (mX9_sit hr2 hq0_3) ky_X9_sit km_X9_59 ⟨Nat.le_of_ble_eq_true rfl, Nat.le_of_ble_eq_true rfl⟩ ⟨Nat.zero_le _, Nat.zero_le _⟩ rfl (Nat.le_of_ble_eq_true rfl) dX9_fewest_25 rfl (fun H locs hH hS => ?_)
      refine lv_aload_n (pc := 28) hx hb dX9_fewest_28 rfl (lv_at hl 0 rfl) ?_
      refine lv_aload_n (pc := 29) hx hb dX9_fewest_29 rfl (lv_at hl 1 rfl) ?_
      refine lv_iload (pc := 30) hx hb dX9_fewest_30 (lv_at hl 4 rfl) ?_
      obtain ⟨q0_4, hq0_4, hf⟩ := gbd hf
      refine g_callVv (pc := 32) (rest := []) hC hU hH hS hl.1 gk0_150 rfl (by decide) (mX9_measure hr1 hq0_4) ky_X9_measure km_X9_63 ⟨Nat.le_of_ble_eq_true rfl, Nat.le_of_ble_eq_true rfl⟩ ⟨Nat.zero_le _, Nat.zero_le _⟩ rfl (Nat.le_of_ble_eq_true rfl) dX9_fewest_32 rfl (fun H locs hH hS => ?_)
      refine lv_aload_n (pc := 35) hx hb dX9_fewest_35 rfl (lv_at hl 0 rfl) ?_
      refine g_get (pc := 36) (v := .ref (ad 153)) hC hU hH gk0_150 g_cl9 2 (by decide) kf_X9_20 rfl dX9_fewest_36 ?_
      refine lv_iconst (v := 0) (pc := 39) hx hb dX9_fewest_39 (by decide) ?_
      obtain ⟨h0_1, hf⟩ := gc_s hf
      refine g_gald (pc := 40) hC hU hH gk0_153 gn0_153 h0_1 dX9_fewest_40 ?_
      refine lv_aload_n (pc := 41) hx hb dX9_fewest_41 rfl (lv_at hl 2 rfl) ?_
      refine g_get (pc := 42) (v := .int (q0_4.1 r2 2)) hC hU hH hr2 g_cl5 2 (by decide) kf_X9_50 rfl dX9_fewest_42 ?_
      obtain ⟨h0_2, hf⟩ := gc_s hf
      refine g_iald (pc := 45) hC hU hH (gg_153 h0_1).1 (gg_153 h0_1).2 h0_2 dX9_fewest_45 ?_
      refine lv_topi (pc := 46) (fun x46 ex46 => ?_)
      have hf := gl_s ex46 hf
      refine lv_istore (lv' := [(5, .int x46), (0, .ref (ad 150)), (1, .ref (ad r1)), (2, .ref (ad r2)), (3, .int a3), (4, .int a4)]) (pc := 46) hx hb dX9_fewest_46 hl (by decide) rfl (fun ls hl => ?_)
      refine lv_iload (pc := 48) hx hb dX9_fewest_48 (lv_at hl 0 rfl) ?_
      refine lv_bipush (v := 99) (pc := 50) hx hb dX9_fewest_50 (by decide) ?_
      refine lv_icmp_lt (tgt := 57) (pc := 52) hx hb dX9_fewest_52 (by decide) (fun hc => ?_) (fun hc => ?_)
      · have hf := gif_p hc hf
        refine lv_aload_n (pc := 57) hx hb dX9_fewest_57 rfl (lv_at hl 1 rfl) ?_
        refine lv_aload_n (pc := 58) hx hb dX9_fewest_58 rfl (lv_at hl 2 rfl) ?_
        refine lv_aload_n (pc := 59) hx hb dX9_fewest_59 rfl (lv_at hl 3 rfl) ?_
        refine g_get (pc := 60) (v := .int (q0_4.1 r2 2)) hC hU hH hr2 g_cl5 2 (by decide) kf_X9_50 rfl dX9_fewest_60 ?_
        refine lv_iload (pc := 63) hx hb dX9_fewest_63 (lv_at hl 0 rfl) ?_
        obtain ⟨q0_5, hq0_5, hf⟩ := gbd hf
        refine g_callVv (pc := 65) (rest := []) hC hU hH hS hl.1 gk0_150 rfl (by decide) (mX9_layFewest hr1 hq0_5) ky_X9_layFewest km_X9_67 ⟨Nat.le_of_ble_eq_true rfl, Nat.le_of_ble_eq_true rfl⟩ ⟨Nat.zero_le _, Nat.zero_le _⟩ rfl (Nat.le_of_ble_eq_true rfl) dX9_fewest_65 rfl (fun H locs hH hS => ?_)
        refine lv_iload (pc := 68) hx hb dX9_fewest_68 (lv_at hl 0 rfl) ?_
        exact g_iret (pc := 70) hC hret hlk hH hS hf dX9_fewest_70
      · have hf := gif_n hc hf
        refine lv_iconst (v := (-1)) (pc := 55) hx hb dX9_fewest_55 (by decide) ?_
        exact g_iret (pc := 56) hC hret hlk hH hS hf dX9_fewest_56
    · have hf := gif_p hc hf
      refine lv_iconst (v := (-1)) (pc := 20) hx hb dX9_fewest_20 (by decide) ?_
      exact g_iret (pc := 21) hC hret hlk hH hS hf dX9_fewest_21
set_option maxRecDepth 100000 in
set_option maxHeartbeats 4000000 in
theorem mX9_fewest {l : Launch} {D : va_G} {cA : Nat → ClassId} {ad : Nat → Nat} {r1 : Nat} {r2 : Nat} {a3 : Int32} {a4 : Int32} (hr1 : gK 0 r1 = 8) (hr2 : gK 0 r2 = 5) {r : Int32} {st st' : gS} (hf : fX9_fewest r1 r2 a3 a4 st = some (r, st')) : gM l yX9_fewest cX9_fewest 6 (some .int) 5 0 D cA ad st [.ref (ad 150), .ref (ad r1), .ref (ad r2), .int a3, .int a4] (some (.int r)) st' := by
  refine g_met (by decide) (Nat.le_of_ble_eq_true rfl) ?_
  intro p e s m args below meth c ls hC hret hlk hU hH hl
  exact bX9_fewest_0 hC hret hlk hU hr1 hr2 hf hH va_S.rf hl
def fX10_way (a1 : Int32) (a2 : Int32)   (st : gS) : Option (Int32 × gS) :=
  (fX9_clear st).bind fun q0_1 => ((fX10_isOther a1 q0_1).bind fun q0_2 => (if q0_2.1 = 0 then (some ((-1), q0_2.2)) else (gc (gK 0 (q0_2.2.2.2 0 9) = 8) ((fX8_hasFigure (q0_2.2.2.2 0 9) a2 q0_2.2).bind fun q0_3 => (if q0_3.1 = 0 then (some ((-1), q0_3.2)) else (gc (gK 0 (q0_3.2.2.2 0 9) = 8) ((fX9_fewest (q0_3.2.2.2 0 9) 20 a1 a2 q0_3.2).bind fun q0_4 => (some (q0_4.1, q0_4.2)))))))))
set_option maxRecDepth 100000 in
set_option maxHeartbeats 4000000 in
theorem bX10_way_0 {a1 : Int32} {a2 : Int32} (hC : CallFix p m c cX10_way 3 s args lw_good RX10) (hret : meth.sig.returnType = (some .int)) (hlk : meth.locks = false) (hU : gU 0 D cA ad s)  {r : Int32} {st' : gS}   {st : gS} {H : Heap} {locs : List Loc} {ls : Array Slot} (hf : fX10_way a1 a2 st = some (r, st')) (hH : gP0 0 D cA ad st H) (hS : va_S (gA 0 ad) s.heap H locs) (hl : lv_has ls 3 [(0, .ref (ad 0)), (1, .int a1), (2, .int a2)]) : W p l e (gRm 6) s m args below meth c H locs 0 0 (MQ below (gQc 0 D cA ad st' (some (.int r))) args s 0 0 (gA 0 ad)) (F0 m 0 ls []) := by
  obtain ⟨hx, hb, hml, hown, hts⟩ := id hC
  unfold fX10_way at hf
  refine lv_aload_n (pc := 0) hx hb dX10_way_0 rfl (lv_at hl 0 rfl) ?_
  refine g_get (pc := 1) (v := .ref (ad 150)) hC hU hH gk0_0 g_cl10 6 (by decide) kf_X10_50 rfl dX10_way_1 ?_
  obtain ⟨q0_1, hq0_1, hf⟩ := gbd hf
  refine g_callVv (pc := 4) (rest := []) hC hU hH hS hl.1 gk0_150 rfl (by decide) (mX9_clear  hq0_1) ky_X9_clear km_X10_86 ⟨Nat.le_of_ble_eq_true rfl, Nat.le_of_ble_eq_true rfl⟩ ⟨Nat.zero_le _, Nat.zero_le _⟩ rfl (Nat.le_of_ble_eq_true rfl) dX10_way_4 rfl (fun H locs hH hS => ?_)
  refine lv_aload_n (pc := 7) hx hb dX10_way_7 rfl (lv_at hl 0 rfl) ?_
  refine lv_iload_n (pc := 8) hx hb dX10_way_8 rfl (lv_at hl 1 rfl) ?_
  obtain ⟨q0_2, hq0_2, hf⟩ := gbd hf
  refine g_callVi (pc := 9) (rest := []) hC hU hH hS hl.1 gk0_0 rfl (by decide) (mX10_isOther  hq0_2) ky_X10_isOther km_X10_230 ⟨Nat.le_of_ble_eq_true rfl, Nat.le_of_ble_eq_true rfl⟩ ⟨Nat.zero_le _, Nat.zero_le _⟩ rfl (Nat.le_of_ble_eq_true rfl) dX10_way_9 rfl (fun H locs hH hS => ?_)
  refine lv_if_eq (tgt := 26) (pc := 12) hx hb dX10_way_12 (by decide) (fun hc => ?_) (fun hc => ?_)
  · have hf := gif_p hc hf
    refine lv_iconst (v := (-1)) (pc := 26) hx hb dX10_way_26 (by decide) ?_
    exact g_iret (pc := 27) hC hret hlk hH hS hf dX10_way_27
  · have hf := gif_n hc hf
    refine lv_aload_n (pc := 15) hx hb dX10_way_15 rfl (lv_at hl 0 rfl) ?_
    refine g_get (pc := 16) (v := .ref (ad (q0_2.2.2.2 0 9))) hC hU hH gk0_0 g_cl10 9 (by decide) kf_X10_71 rfl dX10_way_16 ?_
    refine lv_iload_n (pc := 19) hx hb dX10_way_19 rfl (lv_at hl 2 rfl) ?_
    obtain ⟨h0_1, hf⟩ := gc_s hf
    obtain ⟨q0_3, hq0_3, hf⟩ := gbd hf
    refine g_callVi (pc := 20) (rest := []) hC hU hH hS hl.1 h0_1 rfl (by decide) (mX8_hasFigure h0_1 hq0_3) ky_X8_hasFigure km_X10_183 ⟨Nat.le_of_ble_eq_true rfl, Nat.le_of_ble_eq_true rfl⟩ ⟨Nat.zero_le _, Nat.zero_le _⟩ rfl (Nat.le_of_ble_eq_true rfl) dX10_way_20 rfl (fun H locs hH hS => ?_)
    refine lv_if_ne (tgt := 28) (pc := 23) hx hb dX10_way_23 (by decide) (fun hc => ?_) (fun hc => ?_)
    · have hf := gif_n hc hf
      refine lv_aload_n (pc := 28) hx hb dX10_way_28 rfl (lv_at hl 0 rfl) ?_
      refine g_get (pc := 29) (v := .ref (ad 150)) hC hU hH gk0_0 g_cl10 6 (by decide) kf_X10_50 rfl dX10_way_29 ?_
      refine lv_aload_n (pc := 32) hx hb dX10_way_32 rfl (lv_at hl 0 rfl) ?_
      refine g_get (pc := 33) (v := .ref (ad (q0_3.2.2.2 0 9))) hC hU hH gk0_0 g_cl10 9 (by decide) kf_X10_71 rfl dX10_way_33 ?_
      refine lv_aload_n (pc := 36) hx hb dX10_way_36 rfl (lv_at hl 0 rfl) ?_
      refine g_get (pc := 37) (v := .ref (ad 20)) hC hU hH gk0_0 g_cl10 2 (by decide) kf_X10_28 rfl dX10_way_37 ?_
      refine lv_iload_n (pc := 40) hx hb dX10_way_40 rfl (lv_at hl 1 rfl) ?_
      refine lv_iload_n (pc := 41) hx hb dX10_way_41 rfl (lv_at hl 2 rfl) ?_
      obtain ⟨h0_2, hf⟩ := gc_s hf
      obtain ⟨q0_4, hq0_4, hf⟩ := gbd hf
      refine g_callVi (pc := 42) (rest := []) hC hU hH hS hl.1 gk0_150 rfl (by decide) (mX9_fewest h0_2 gk0_20 hq0_4) ky_X9_fewest km_X10_233 ⟨Nat.le_of_ble_eq_true rfl, Nat.le_of_ble_eq_true rfl⟩ ⟨Nat.zero_le _, Nat.zero_le _⟩ rfl (Nat.le_of_ble_eq_true rfl) dX10_way_42 rfl (fun H locs hH hS => ?_)
      exact g_iret (pc := 45) hC hret hlk hH hS hf dX10_way_45
    · have hf := gif_p hc hf
      refine lv_iconst (v := (-1)) (pc := 26) hx hb dX10_way_26 (by decide) ?_
      exact g_iret (pc := 27) hC hret hlk hH hS hf dX10_way_27
set_option maxRecDepth 100000 in
set_option maxHeartbeats 4000000 in
theorem mX10_way {l : Launch} {D : va_G} {cA : Nat → ClassId} {ad : Nat → Nat} {a1 : Int32} {a2 : Int32}  {r : Int32} {st st' : gS} (hf : fX10_way a1 a2 st = some (r, st')) : gM l yX10_way cX10_way 3 (some .int) 6 0 D cA ad st [.ref (ad 0), .int a1, .int a2] (some (.int r)) st' := by
  refine g_met (by decide) (Nat.le_of_ble_eq_true rfl) ?_
  intro p e s m args below meth c ls hC hret hlk hU hH hl
  exact bX10_way_0 hC hret hlk hU hf hH va_S.rf hl
def fX9_weighMoves_3 (r1 : Nat) (a2 : Int32) (a3 : Int32) (k3 : Int32 → gS → Option (gS)) (l4 : Int32) (st : gS) : Option (gS) :=
  if (st.1 r1 14) ≤ l4 then (some st) else (gc (gI (a2 - 1) 5) (gc (gI l4 16) (gc (gI (((1 - a3) * 8) + (st.1 (r1 + 1 + 7) l4.toNatClampNeg)) 16) (gl (st.1 (159 + 1 + (a2 - 1).toNatClampNeg) (((1 - a3) * 8) + (st.1 (r1 + 1 + 7) l4.toNatClampNeg)).toNatClampNeg) fun x35 => (if x35 = (-1) then (k3 (l4 + 1) st) else (gc (gI a3 2) ((fX8_can r1 (st.1 151 a3.toNatClampNeg) l4 st).bind fun q3_1 => (if q3_1.1 = 0 then (k3 (l4 + 1) q3_1.2) else (gc (gI l4 16) (gl ((a3 * 8) + (q3_1.2.1 (r1 + 1 + 6) l4.toNatClampNeg)) fun x70 => (gc (gI a2 5) (gc (gI a2 5) (gc (gI x70 16) (gc (gI a3 2) (gc (gI l4 16) (gc (gI x70 16) (k3 (l4 + 1) (wi q3_1.2 (159 + 1 + a2.toNatClampNeg) x70.toNatClampNeg (if (q3_1.2.1 (159 + 1 + a2.toNatClampNeg) x70.toNatClampNeg) < ((q3_1.2.1 (156 + 1 + a3.toNatClampNeg) l4.toNatClampNeg) * x35) then ((q3_1.2.1 (156 + 1 + a3.toNatClampNeg) l4.toNatClampNeg) * x35) else (q3_1.2.1 (159 + 1 + a2.toNatClampNeg) x70.toNatClampNeg))))))))))))))))))))
set_option maxRecDepth 100000 in
set_option maxHeartbeats 4000000 in
theorem bX9_weighMoves_3 {r1 : Nat} {a2 : Int32} {a3 : Int32} (hC : CallFix p m c cX9_weighMoves 7 s args lw_good RX9) (hret : meth.sig.returnType = none) (hlk : meth.locks = false) (hU : gU 0 D cA ad s) (hr1 : gK 0 r1 = 8) {st' : gS} {k3 : Int32 → gS → Option (gS)} (hk3 : ∀ {l4 : Int32} {st : gS} {H : Heap} {locs : List Loc} {ls : Array Slot}, k3 l4 st = some st' → gP0 0 D cA ad st H → va_S (gA 0 ad) s.heap H locs → lv_has ls 7 [(0, .ref (ad 150)), (1, .ref (ad r1)), (2, .int a2), (3, .int a3), (4, .int l4)] → W p l e (gRm 3) s m args below meth c H locs 0 0 (MQ below (gQc 0 D cA ad st' none) args s 0 0 (gA 0 ad)) (F0 m 3 ls [])) {l4 : Int32} {st : gS} {H : Heap} {locs : List Loc} {ls : Array Slot} (hf : fX9_weighMoves_3 r1 a2 a3 k3 l4 st = some st') (hH : gP0 0 D cA ad st H) (hS : va_S (gA 0 ad) s.heap H locs) (hl : lv_has ls 7 [(0, .ref (ad 150)), (1, .ref (ad r1)), (2, .int a2), (3, .int a3), (4, .int l4)]) : W p l e (gRm 3) s m args below meth c H locs 0 0 (MQ below (gQc 0 D cA ad st' none) args s 0 0 (gA 0 ad)) (F0 m 3 ls []) := by
  obtain ⟨hx, hb, hml, hown, hts⟩ := id hC
  unfold fX9_weighMoves_3 at hf
  refine lv_iload (pc := 3) hx hb dX9_weighMoves_3 (lv_at hl 4 rfl) ?_
  refine lv_aload_n (pc := 5) hx hb dX9_weighMoves_5 rfl (lv_at hl 1 rfl) ?_
  refine g_get (pc := 6) (v := .int (st.1 r1 14)) hC hU hH hr1 g_cl8 14 (by decide) kf_X9_81 rfl dX9_weighMoves_6 ?_
  refine lv_icmp_ge (tgt := 111) (pc := 9) hx hb dX9_weighMoves_9 (by decide) (fun hc => ?_) (fun hc => ?_)
  · have hf := gif_p hc hf
    exact g_vret (pc := 111) hC hret hlk hH hS hf dX9_weighMoves_111
  · have hf := gif_n hc hf
    refine lv_aload_n (pc := 12) hx hb dX9_weighMoves_12 rfl (lv_at hl 0 rfl) ?_
    refine g_get (pc := 13) (v := .ref (ad 159)) hC hU hH gk0_150 g_cl9 4 (by decide) kf_X9_26 rfl dX9_weighMoves_13 ?_
    refine lv_iload_n (pc := 16) hx hb dX9_weighMoves_16 rfl (lv_at hl 2 rfl) ?_
    refine lv_iconst (v := 1) (pc := 17) hx hb dX9_weighMoves_17 (by decide) ?_
    refine lv_isub (pc := 18) hx hb dX9_weighMoves_18 ?_
    obtain ⟨h3_1, hf⟩ := gc_s hf
    refine g_gald (pc := 19) hC hU hH gk0_159 gn0_159 h3_1 dX9_weighMoves_19 ?_
    refine lv_iconst (v := 1) (pc := 20) hx hb dX9_weighMoves_20 (by decide) ?_
    refine lv_iload_n (pc := 21) hx hb dX9_weighMoves_21 rfl (lv_at hl 3 rfl) ?_
    refine lv_isub (pc := 22) hx hb dX9_weighMoves_22 ?_
    refine lv_bipush (v := 8) (pc := 23) hx hb dX9_weighMoves_23 (by decide) ?_
    refine lv_imul (pc := 25) hx hb dX9_weighMoves_25 ?_
    refine lv_aload_n (pc := 26) hx hb dX9_weighMoves_26 rfl (lv_at hl 1 rfl) ?_
    refine g_get (pc := 27) (v := .ref (ad (r1 + 1 + 7))) hC hU hH hr1 g_cl8 7 (by decide) kf_X9_84 rfl dX9_weighMoves_27 ?_
    refine lv_iload (pc := 30) hx hb dX9_weighMoves_30 (lv_at hl 4 rfl) ?_
    obtain ⟨h3_2, hf⟩ := gc_s hf
    refine g_iald (pc := 32) hC hU hH (gk_8_7 hr1) (gn_8_7 hr1) h3_2 dX9_weighMoves_32 ?_
    refine lv_iadd (pc := 33) hx hb dX9_weighMoves_33 ?_
    obtain ⟨h3_3, hf⟩ := gc_s hf
    refine g_iald (pc := 34) hC hU hH (gg_159 h3_1).1 (gg_159 h3_1).2 h3_3 dX9_weighMoves_34 ?_
    refine lv_topi (pc := 35) (fun x35 ex35 => ?_)
    have hf := gl_s ex35 hf
    refine lv_istore (lv' := [(5, .int x35), (0, .ref (ad 150)), (1, .ref (ad r1)), (2, .int a2), (3, .int a3), (4, .int l4)]) (pc := 35) hx hb dX9_weighMoves_35 hl (by decide) rfl (fun ls hl => ?_)
    refine lv_iload (pc := 37) hx hb dX9_weighMoves_37 (lv_at hl 0 rfl) ?_
    refine lv_iconst (v := (-1)) (pc := 39) hx hb dX9_weighMoves_39 (by decide) ?_
    refine lv_icmp_eq (tgt := 105) (pc := 40) hx hb dX9_weighMoves_40 (by decide) (fun hc => ?_) (fun hc => ?_)
    · have hf := gif_p hc hf
      refine lv_iinc (v := l4 + 1) (lv' := [(4, .int (l4 + 1)), (5, .int x35), (0, .ref (ad 150)), (1, .ref (ad r1)), (2, .int a2), (3, .int a3)]) (k := 5) (pc := 105) hx hb dX9_weighMoves_105 hl rfl rfl (by decide) rfl (fun ls hl => ?_)
      refine lv_goto (tgt := 3) (pc := 108) hx hb dX9_weighMoves_108 (by decide) ?_
      exact hk3 hf hH hS (lv_sub hl [2, 3, 4, 5, 0] rfl)
    · have hf := gif_n hc hf
      refine lv_aload_n (pc := 43) hx hb dX9_weighMoves_43 rfl (lv_at hl 2 rfl) ?_
      refine lv_aload_n (pc := 44) hx hb dX9_weighMoves_44 rfl (lv_at hl 1 rfl) ?_
      refine g_get (pc := 45) (v := .ref (ad 151)) hC hU hH gk0_150 g_cl9 0 (by decide) kf_X9_9 rfl dX9_weighMoves_45 ?_
      refine lv_iload_n (pc := 48) hx hb dX9_weighMoves_48 rfl (lv_at hl 4 rfl) ?_
      obtain ⟨h3_4, hf⟩ := gc_s hf
      refine g_iald (pc := 49) hC hU hH gk0_151 gn0_151 h3_4 dX9_weighMoves_49 ?_
      refine lv_iload (pc := 50) hx hb dX9_weighMoves_50 (lv_at hl 5 rfl) ?_
      obtain ⟨q3_1, hq3_1, hf⟩ := gbd hf
      refine g_callVi (pc := 52) (rest := []) hC hU hH hS hl.1 hr1 rfl (by decide) (mX8_can hr1 hq3_1) ky_X8_can km_X9_90 ⟨Nat.le_of_ble_eq_true rfl, Nat.le_of_ble_eq_true rfl⟩ ⟨Nat.zero_le _, Nat.zero_le _⟩ rfl (Nat.le_of_ble_eq_true rfl) dX9_weighMoves_52 rfl (fun H locs hH hS => ?_)
      refine lv_if_eq (tgt := 105) (pc := 55) hx hb dX9_weighMoves_55 (by decide) (fun hc => ?_) (fun hc => ?_)
      · have hf := gif_p hc hf
        refine lv_iinc (v := l4 + 1) (lv' := [(4, .int (l4 + 1)), (5, .int x35), (0, .ref (ad 150)), (1, .ref (ad r1)), (2, .int a2), (3, .int a3)]) (k := 5) (pc := 105) hx hb dX9_weighMoves_105 hl rfl rfl (by decide) rfl (fun ls hl => ?_)
        refine lv_goto (tgt := 3) (pc := 108) hx hb dX9_weighMoves_108 (by decide) ?_
        exact hk3 hf hH hS (lv_sub hl [2, 3, 4, 5, 0] rfl)
      · have hf := gif_n hc hf
        refine lv_iload_n (pc := 58) hx hb dX9_weighMoves_58 rfl (lv_at hl 4 rfl) ?_
        refine lv_bipush (v := 8) (pc := 59) hx hb dX9_weighMoves_59 (by decide) ?_
        refine lv_imul (pc := 61) hx hb dX9_weighMoves_61 ?_
        refine lv_aload_n (pc := 62) hx hb dX9_weighMoves_62 rfl (lv_at hl 2 rfl) ?_
        refine g_get (pc := 63) (v := .ref (ad (r1 + 1 + 6))) hC hU hH hr1 g_cl8 6 (by decide) kf_X9_87 rfl dX9_weighMoves_63 ?_
        refine lv_iload (pc := 66) hx hb dX9_weighMoves_66 (lv_at hl 5 rfl) ?_
        obtain ⟨h3_5, hf⟩ := gc_s hf
        refine g_iald (pc := 68) hC hU hH (gk_8_6 hr1) (gn_8_6 hr1) h3_5 dX9_weighMoves_68 ?_
        refine lv_iadd (pc := 69) hx hb dX9_weighMoves_69 ?_
        refine lv_topi (pc := 70) (fun x70 ex70 => ?_)
        have hf := gl_s ex70 hf
        refine lv_istore (lv' := [(6, .int x70), (5, .int x35), (0, .ref (ad 150)), (1, .ref (ad r1)), (2, .int a2), (3, .int a3), (4, .int l4)]) (pc := 70) hx hb dX9_weighMoves_70 hl (by decide) rfl (fun ls hl => ?_)
        refine lv_aload_n (pc := 72) hx hb dX9_weighMoves_72 rfl (lv_at hl 2 rfl) ?_
        refine g_get (pc := 73) (v := .ref (ad 159)) hC hU hH gk0_150 g_cl9 4 (by decide) kf_X9_26 rfl dX9_weighMoves_73 ?_
        refine lv_iload_n (pc := 76) hx hb dX9_weighMoves_76 rfl (lv_at hl 4 rfl) ?_
        obtain ⟨h3_6, hf⟩ := gc_s hf
        refine g_gald (pc := 77) hC hU hH gk0_159 gn0_159 h3_6 dX9_weighMoves_77 ?_
        refine lv_iload (pc := 78) hx hb dX9_weighMoves_78 (lv_at hl 0 rfl) ?_
        refine lv_aload_n (pc := 80) hx hb dX9_weighMoves_80 rfl (lv_at hl 2 rfl) ?_
        refine g_get (pc := 81) (v := .ref (ad 159)) hC hU hH gk0_150 g_cl9 4 (by decide) kf_X9_26 rfl dX9_weighMoves_81 ?_
        refine lv_iload_n (pc := 84) hx hb dX9_weighMoves_84 rfl (lv_at hl 4 rfl) ?_
        obtain ⟨h3_7, hf⟩ := gc_s hf
        refine g_gald (pc := 85) hC hU hH gk0_159 gn0_159 h3_7 dX9_weighMoves_85 ?_
        refine lv_iload (pc := 86) hx hb dX9_weighMoves_86 (lv_at hl 0 rfl) ?_
        obtain ⟨h3_8, hf⟩ := gc_s hf
        refine g_iald (pc := 88) hC hU hH (gg_159 h3_7).1 (gg_159 h3_7).2 h3_8 dX9_weighMoves_88 ?_
        refine lv_aload_n (pc := 89) hx hb dX9_weighMoves_89 rfl (lv_at hl 2 rfl) ?_
        refine g_get (pc := 90) (v := .ref (ad 156)) hC hU hH gk0_150 g_cl9 3 (by decide) kf_X9_23 rfl dX9_weighMoves_90 ?_
        refine lv_iload_n (pc := 93) hx hb dX9_weighMoves_93 rfl (lv_at hl 5 rfl) ?_
        obtain ⟨h3_9, hf⟩ := gc_s hf
        refine g_gald (pc := 94) hC hU hH gk0_156 gn0_156 h3_9 dX9_weighMoves_94 ?_
        refine lv_iload (pc := 95) hx hb dX9_weighMoves_95 (lv_at hl 6 rfl) ?_
        obtain ⟨h3_10, hf⟩ := gc_s hf
        refine g_iald (pc := 97) hC hU hH (gg_156 h3_9).1 (gg_156 h3_9).2 h3_10 dX9_weighMoves_97 ?_
        refine lv_iload (pc := 98) hx hb dX9_weighMoves_98 (lv_at hl 1 rfl) ?_
        refine lv_imul (pc := 100) hx hb dX9_weighMoves_100 ?_
        refine va_mmax (pc := 101) hx hb (hml.trans hl.1.symm) hown (hts _ km_X9_128) (hts _ kms_max) (hts _ kmi) (hts _ kmc_max) (Nat.le_of_ble_eq_true rfl) (Nat.le_of_ble_eq_true rfl) (Nat.zero_le _) (Nat.zero_le _) dX9_weighMoves_101 ?_
        obtain ⟨h3_11, hf⟩ := gc_s hf
        refine g_iast (pc := 104) hC hU hH hS (gg_159 h3_6).1 (gg_159 h3_6).2 h3_11 dX9_weighMoves_104 (fun H locs hH hS => ?_)
        refine lv_iinc (v := l4 + 1) (lv' := [(4, .int (l4 + 1)), (6, .int x70), (5, .int x35), (0, .ref (ad 150)), (1, .ref (ad r1)), (2, .int a2), (3, .int a3)]) (k := 6) (pc := 105) hx hb dX9_weighMoves_105 hl rfl rfl (by decide) rfl (fun ls hl => ?_)
        refine lv_goto (tgt := 3) (pc := 108) hx hb dX9_weighMoves_108 (by decide) ?_
        exact hk3 hf hH hS (lv_sub hl [3, 4, 5, 6, 0] rfl)
def hX9_weighMoves_3 (r1 : Nat) (a2 : Int32) (a3 : Int32)  : Nat → Int32 → gS → Option (gS)
  | 0 => fun _ _ => none
  | n + 1 => fun l4 st => fX9_weighMoves_3 r1 a2 a3 (hX9_weighMoves_3 r1 a2 a3 n) l4 st
set_option maxRecDepth 100000 in
set_option maxHeartbeats 4000000 in
theorem wX9_weighMoves_3 {r1 : Nat} {a2 : Int32} {a3 : Int32} (hC : CallFix p m c cX9_weighMoves 7 s args lw_good RX9) (hret : meth.sig.returnType = none) (hlk : meth.locks = false) (hU : gU 0 D cA ad s) (hr1 : gK 0 r1 = 8) {st' : gS}  : ∀ (n : Nat) {l4 : Int32} {st : gS} {H : Heap} {locs : List Loc} {ls : Array Slot}, hX9_weighMoves_3 r1 a2 a3 n l4 st = some st' → gP0 0 D cA ad st H → va_S (gA 0 ad) s.heap H locs → lv_has ls 7 [(0, .ref (ad 150)), (1, .ref (ad r1)), (2, .int a2), (3, .int a3), (4, .int l4)] → W p l e (gRm 3) s m args below meth c H locs 0 0 (MQ below (gQc 0 D cA ad st' none) args s 0 0 (gA 0 ad)) (F0 m 3 ls []) := by
  intro n
  induction n with
  | zero => intro l4 st H locs ls hf hH hS hl; cases hf
  | succ n ih =>
    intro l4 st H locs ls hf hH hS hl
    exact bX9_weighMoves_3 (r1 := r1) (a2 := a2) (a3 := a3) hC hret hlk hU hr1 (fun hf hH hS hl => ih hf hH hS hl) hf hH hS hl
def fX9_weighMoves (r1 : Nat) (a2 : Int32) (a3 : Int32)   (st : gS) : Option (gS) :=
  hX9_weighMoves_3 r1 a2 a3 FU 0 st
set_option maxRecDepth 100000 in
set_option maxHeartbeats 4000000 in
theorem bX9_weighMoves_0 {r1 : Nat} {a2 : Int32} {a3 : Int32} (hC : CallFix p m c cX9_weighMoves 7 s args lw_good RX9) (hret : meth.sig.returnType = none) (hlk : meth.locks = false) (hU : gU 0 D cA ad s) (hr1 : gK 0 r1 = 8) {st' : gS}   {st : gS} {H : Heap} {locs : List Loc} {ls : Array Slot} (hf : fX9_weighMoves r1 a2 a3 st = some st') (hH : gP0 0 D cA ad st H) (hS : va_S (gA 0 ad) s.heap H locs) (hl : lv_has ls 7 [(0, .ref (ad 150)), (1, .ref (ad r1)), (2, .int a2), (3, .int a3)]) : W p l e (gRm 3) s m args below meth c H locs 0 0 (MQ below (gQc 0 D cA ad st' none) args s 0 0 (gA 0 ad)) (F0 m 0 ls []) := by
  obtain ⟨hx, hb, hml, hown, hts⟩ := id hC
  unfold fX9_weighMoves at hf
  refine lv_iconst (v := 0) (pc := 0) hx hb dX9_weighMoves_0 (by decide) ?_
  refine lv_istore (lv' := [(4, .int 0), (0, .ref (ad 150)), (1, .ref (ad r1)), (2, .int a2), (3, .int a3)]) (pc := 1) hx hb dX9_weighMoves_1 hl (by decide) rfl (fun ls hl => ?_)
  exact wX9_weighMoves_3 hC hret hlk hU hr1 FU hf hH hS (lv_sub hl [1, 2, 3, 4, 0] rfl)
set_option maxRecDepth 100000 in
set_option maxHeartbeats 4000000 in
theorem mX9_weighMoves {l : Launch} {D : va_G} {cA : Nat → ClassId} {ad : Nat → Nat} {r1 : Nat} {a2 : Int32} {a3 : Int32} (hr1 : gK 0 r1 = 8) {st st' : gS} (hf : fX9_weighMoves r1 a2 a3 st = some st') : gM l yX9_weighMoves cX9_weighMoves 7 none 3 0 D cA ad st [.ref (ad 150), .ref (ad r1), .int a2, .int a3] none st' := by
  refine g_met (by decide) (Nat.le_of_ble_eq_true rfl) ?_
  intro p e s m args below meth c ls hC hret hlk hU hH hl
  exact bX9_weighMoves_0 hC hret hlk hU hr1 hf hH va_S.rf hl
def fX9_weigh_102 (r1 : Nat) (r2 : Nat) (a3 : Int32) (k102 : Int32 → gS → Option (gS)) (l4 : Int32) (st : gS) : Option (gS) :=
  if 4 < l4 then (some st) else (gc (gI l4 5) ((fJ7_fill_53178 (159 + 1 + l4.toNatClampNeg) (-1) st).bind fun q102_1 => ((fX9_weighMoves r1 l4 0 q102_1).bind fun q102_2 => ((fX9_weighMoves r1 l4 1 q102_2).bind fun q102_3 => (k102 (l4 + 1) q102_3)))))
set_option maxRecDepth 100000 in
set_option maxHeartbeats 4000000 in
theorem bX9_weigh_102 {r1 : Nat} {r2 : Nat} {a3 : Int32} (hC : CallFix p m c cX9_weigh 5 s args lw_good RX9) (hret : meth.sig.returnType = none) (hlk : meth.locks = false) (hU : gU 0 D cA ad s) (hr1 : gK 0 r1 = 8) (hr2 : gK 0 r2 = 5) {st' : gS} {k102 : Int32 → gS → Option (gS)} (hk102 : ∀ {l4 : Int32} {st : gS} {H : Heap} {locs : List Loc} {ls : Array Slot}, k102 l4 st = some st' → gP0 0 D cA ad st H → va_S (gA 0 ad) s.heap H locs → lv_has ls 5 [(0, .ref (ad 150)), (1, .ref (ad r1)), (4, .int l4)] → W p l e (gRm 6) s m args below meth c H locs 0 0 (MQ below (gQc 0 D cA ad st' none) args s 0 0 (gA 0 ad)) (F0 m 102 ls [])) {l4 : Int32} {st : gS} {H : Heap} {locs : List Loc} {ls : Array Slot} (hf : fX9_weigh_102 r1 r2 a3 k102 l4 st = some st') (hH : gP0 0 D cA ad st H) (hS : va_S (gA 0 ad) s.heap H locs) (hl : lv_has ls 5 [(0, .ref (ad 150)), (1, .ref (ad r1)), (4, .int l4)]) : W p l e (gRm 6) s m args below meth c H locs 0 0 (MQ below (gQc 0 D cA ad st' none) args s 0 0 (gA 0 ad)) (F0 m 102 ls []) := by
  obtain ⟨hx, hb, hml, hown, hts⟩ := id hC
  unfold fX9_weigh_102 at hf
  refine lv_iload (pc := 102) hx hb dX9_weigh_102 (lv_at hl 2 rfl) ?_
  refine lv_iconst (v := 4) (pc := 104) hx hb dX9_weigh_104 (by decide) ?_
  refine lv_icmp_gt (tgt := 141) (pc := 105) hx hb dX9_weigh_105 (by decide) (fun hc => ?_) (fun hc => ?_)
  · have hf := gif_p hc hf
    exact g_vret (pc := 141) hC hret hlk hH hS hf dX9_weigh_141
  · have hf := gif_n hc hf
    refine lv_aload_n (pc := 108) hx hb dX9_weigh_108 rfl (lv_at hl 0 rfl) ?_
    refine g_get (pc := 109) (v := .ref (ad 159)) hC hU hH gk0_150 g_cl9 4 (by decide) kf_X9_26 rfl dX9_weigh_109 ?_
    refine lv_iload (pc := 112) hx hb dX9_weigh_112 (lv_at hl 2 rfl) ?_
    obtain ⟨h102_1, hf⟩ := gc_s hf
    refine g_gald (pc := 114) hC hU hH gk0_159 gn0_159 h102_1 dX9_weigh_114 ?_
    refine lv_iconst (v := (-1)) (pc := 115) hx hb dX9_weigh_115 (by decide) ?_
    obtain ⟨q102_1, hq102_1, hf⟩ := gbd hf
    refine g_callSv (pc := 116) (rest := []) hC hU hH hS hl.1 (mJ7_fill_53178 (gg_159 h102_1).1 hq102_1) ky_J7_fill_53178 km_X9_71 ⟨Nat.le_of_ble_eq_true rfl, Nat.le_of_ble_eq_true rfl⟩ ⟨Nat.zero_le _, Nat.zero_le _⟩ rfl (Nat.le_of_ble_eq_true rfl) dX9_weigh_116 rfl (fun H locs hH hS => ?_)
    refine lv_aload_n (pc := 119) hx hb dX9_weigh_119 rfl (lv_at hl 0 rfl) ?_
    refine lv_aload_n (pc := 120) hx hb dX9_weigh_120 rfl (lv_at hl 1 rfl) ?_
    refine lv_iload (pc := 121) hx hb dX9_weigh_121 (lv_at hl 2 rfl) ?_
    refine lv_iconst (v := 0) (pc := 123) hx hb dX9_weigh_123 (by decide) ?_
    obtain ⟨q102_2, hq102_2, hf⟩ := gbd hf
    refine g_callVv (pc := 124) (rest := []) hC hU hH hS hl.1 gk0_150 rfl (by decide) (mX9_weighMoves hr1 hq102_2) ky_X9_weighMoves km_X9_125 ⟨Nat.le_of_ble_eq_true rfl, Nat.le_of_ble_eq_true rfl⟩ ⟨Nat.zero_le _, Nat.zero_le _⟩ rfl (Nat.le_of_ble_eq_true rfl) dX9_weigh_124 rfl (fun H locs hH hS => ?_)
    refine lv_aload_n (pc := 127) hx hb dX9_weigh_127 rfl (lv_at hl 0 rfl) ?_
    refine lv_aload_n (pc := 128) hx hb dX9_weigh_128 rfl (lv_at hl 1 rfl) ?_
    refine lv_iload (pc := 129) hx hb dX9_weigh_129 (lv_at hl 2 rfl) ?_
    refine lv_iconst (v := 1) (pc := 131) hx hb dX9_weigh_131 (by decide) ?_
    obtain ⟨q102_3, hq102_3, hf⟩ := gbd hf
    refine g_callVv (pc := 132) (rest := []) hC hU hH hS hl.1 gk0_150 rfl (by decide) (mX9_weighMoves hr1 hq102_3) ky_X9_weighMoves km_X9_125 ⟨Nat.le_of_ble_eq_true rfl, Nat.le_of_ble_eq_true rfl⟩ ⟨Nat.zero_le _, Nat.zero_le _⟩ rfl (Nat.le_of_ble_eq_true rfl) dX9_weigh_132 rfl (fun H locs hH hS => ?_)
    refine lv_iinc (v := l4 + 1) (lv' := [(4, .int (l4 + 1)), (0, .ref (ad 150)), (1, .ref (ad r1))]) (k := 2) (pc := 135) hx hb dX9_weigh_135 hl rfl rfl (by decide) rfl (fun ls hl => ?_)
    refine lv_goto (tgt := 102) (pc := 138) hx hb dX9_weigh_138 (by decide) ?_
    exact hk102 hf hH hS (lv_sub hl [1, 2, 0] rfl)
def hX9_weigh_102 (r1 : Nat) (r2 : Nat) (a3 : Int32)  : Nat → Int32 → gS → Option (gS)
  | 0 => fun _ _ => none
  | n + 1 => fun l4 st => fX9_weigh_102 r1 r2 a3 (hX9_weigh_102 r1 r2 a3 n) l4 st
set_option maxRecDepth 100000 in
set_option maxHeartbeats 4000000 in
theorem wX9_weigh_102 {r1 : Nat} {r2 : Nat} {a3 : Int32} (hC : CallFix p m c cX9_weigh 5 s args lw_good RX9) (hret : meth.sig.returnType = none) (hlk : meth.locks = false) (hU : gU 0 D cA ad s) (hr1 : gK 0 r1 = 8) (hr2 : gK 0 r2 = 5) {st' : gS}  : ∀ (n : Nat) {l4 : Int32} {st : gS} {H : Heap} {locs : List Loc} {ls : Array Slot}, hX9_weigh_102 r1 r2 a3 n l4 st = some st' → gP0 0 D cA ad st H → va_S (gA 0 ad) s.heap H locs → lv_has ls 5 [(0, .ref (ad 150)), (1, .ref (ad r1)), (4, .int l4)] → W p l e (gRm 6) s m args below meth c H locs 0 0 (MQ below (gQc 0 D cA ad st' none) args s 0 0 (gA 0 ad)) (F0 m 102 ls []) := by
  intro n
  induction n with
  | zero => intro l4 st H locs ls hf hH hS hl; cases hf
  | succ n ih =>
    intro l4 st H locs ls hf hH hS hl
    exact bX9_weigh_102 (r1 := r1) (r2 := r2) (a3 := a3) hC hret hlk hU hr1 hr2 (fun hf hH hS hl => ih hf hH hS hl) hf hH hS hl
def fX9_weigh_3 (r1 : Nat) (r2 : Nat) (a3 : Int32) (k3 : Int32 → gS → Option (gS)) (l4 : Int32) (st : gS) : Option (gS) :=
  if (st.1 r1 14) ≤ l4 then (gc (gI 0 5) ((fJ7_fill_53178 (159 + 1 + (0 : Int32).toNatClampNeg) (-1) st).bind fun q3_1 => (gc (gI 0 5) (gc (gI a3 16) (gc (gI 0 5) (gc (gI (8 + a3) 16) (hX9_weigh_102 r1 r2 a3 FU 1 (wi (wi q3_1 (159 + 1 + (0 : Int32).toNatClampNeg) a3.toNatClampNeg 1) (159 + 1 + (0 : Int32).toNatClampNeg) (8 + a3).toNatClampNeg 1)))))))) else (gc (gI 0 2) (gc (gI 0 2) ((fX8_slipOf r1 (st.1 151 (0 : Int32).toNatClampNeg) l4 r2 st).bind fun q3_2 => (gc (gI l4 16) (gc (gI 1 2) (gc (gI 1 2) ((fX8_slipOf r1 ((wi q3_2.2 (156 + 1 + (0 : Int32).toNatClampNeg) l4.toNatClampNeg (100 - q3_2.1)).1 151 (1 : Int32).toNatClampNeg) l4 r2 (wi q3_2.2 (156 + 1 + (0 : Int32).toNatClampNeg) l4.toNatClampNeg (100 - q3_2.1))).bind fun q3_3 => (gc (gI l4 16) (k3 (l4 + 1) (wi q3_3.2 (156 + 1 + (1 : Int32).toNatClampNeg) l4.toNatClampNeg (100 - q3_3.1)))))))))))
set_option maxRecDepth 100000 in
set_option maxHeartbeats 4000000 in
theorem bX9_weigh_3 {r1 : Nat} {r2 : Nat} {a3 : Int32} (hC : CallFix p m c cX9_weigh 5 s args lw_good RX9) (hret : meth.sig.returnType = none) (hlk : meth.locks = false) (hU : gU 0 D cA ad s) (hr1 : gK 0 r1 = 8) (hr2 : gK 0 r2 = 5) {st' : gS} {k3 : Int32 → gS → Option (gS)} (hk3 : ∀ {l4 : Int32} {st : gS} {H : Heap} {locs : List Loc} {ls : Array Slot}, k3 l4 st = some st' → gP0 0 D cA ad st H → va_S (gA 0 ad) s.heap H locs → lv_has ls 5 [(0, .ref (ad 150)), (1, .ref (ad r1)), (2, .ref (ad r2)), (3, .int a3), (4, .int l4)] → W p l e (gRm 6) s m args below meth c H locs 0 0 (MQ below (gQc 0 D cA ad st' none) args s 0 0 (gA 0 ad)) (F0 m 3 ls [])) {l4 : Int32} {st : gS} {H : Heap} {locs : List Loc} {ls : Array Slot} (hf : fX9_weigh_3 r1 r2 a3 k3 l4 st = some st') (hH : gP0 0 D cA ad st H) (hS : va_S (gA 0 ad) s.heap H locs) (hl : lv_has ls 5 [(0, .ref (ad 150)), (1, .ref (ad r1)), (2, .ref (ad r2)), (3, .int a3), (4, .int l4)]) : W p l e (gRm 6) s m args below meth c H locs 0 0 (MQ below (gQc 0 D cA ad st' none) args s 0 0 (gA 0 ad)) (F0 m 3 ls []) := by
  obtain ⟨hx, hb, hml, hown, hts⟩ := id hC
  unfold fX9_weigh_3 at hf
  refine lv_iload (pc := 3) hx hb dX9_weigh_3 (lv_at hl 4 rfl) ?_
  refine lv_aload_n (pc := 5) hx hb dX9_weigh_5 rfl (lv_at hl 1 rfl) ?_
  refine g_get (pc := 6) (v := .int (st.1 r1 14)) hC hU hH hr1 g_cl8 14 (by decide) kf_X9_81 rfl dX9_weigh_6 ?_
  refine lv_icmp_ge (tgt := 68) (pc := 9) hx hb dX9_weigh_9 (by decide) (fun hc => ?_) (fun hc => ?_)
  · have hf := gif_p hc hf
    refine lv_aload_n (pc := 68) hx hb dX9_weigh_68 rfl (lv_at hl 0 rfl) ?_
    refine g_get (pc := 69) (v := .ref (ad 159)) hC hU hH gk0_150 g_cl9 4 (by decide) kf_X9_26 rfl dX9_weigh_69 ?_
    refine lv_iconst (v := 0) (pc := 72) hx hb dX9_weigh_72 (by decide) ?_
    obtain ⟨h3_1, hf⟩ := gc_s hf
    refine g_gald (pc := 73) hC hU hH gk0_159 gn0_159 h3_1 dX9_weigh_73 ?_
    refine lv_iconst (v := (-1)) (pc := 74) hx hb dX9_weigh_74 (by decide) ?_
    obtain ⟨q3_1, hq3_1, hf⟩ := gbd hf
    refine g_callSv (pc := 75) (rest := []) hC hU hH hS hl.1 (mJ7_fill_53178 (gg_159 h3_1).1 hq3_1) ky_J7_fill_53178 km_X9_71 ⟨Nat.le_of_ble_eq_true rfl, Nat.le_of_ble_eq_true rfl⟩ ⟨Nat.zero_le _, Nat.zero_le _⟩ rfl (Nat.le_of_ble_eq_true rfl) dX9_weigh_75 rfl (fun H locs hH hS => ?_)
    refine lv_aload_n (pc := 78) hx hb dX9_weigh_78 rfl (lv_at hl 0 rfl) ?_
    refine g_get (pc := 79) (v := .ref (ad 159)) hC hU hH gk0_150 g_cl9 4 (by decide) kf_X9_26 rfl dX9_weigh_79 ?_
    refine lv_iconst (v := 0) (pc := 82) hx hb dX9_weigh_82 (by decide) ?_
    obtain ⟨h3_2, hf⟩ := gc_s hf
    refine g_gald (pc := 83) hC hU hH gk0_159 gn0_159 h3_2 dX9_weigh_83 ?_
    refine lv_iload_n (pc := 84) hx hb dX9_weigh_84 rfl (lv_at hl 3 rfl) ?_
    refine lv_iconst (v := 1) (pc := 85) hx hb dX9_weigh_85 (by decide) ?_
    obtain ⟨h3_3, hf⟩ := gc_s hf
    refine g_iast (pc := 86) hC hU hH hS (gg_159 h3_2).1 (gg_159 h3_2).2 h3_3 dX9_weigh_86 (fun H locs hH hS => ?_)
    refine lv_aload_n (pc := 87) hx hb dX9_weigh_87 rfl (lv_at hl 0 rfl) ?_
    refine g_get (pc := 88) (v := .ref (ad 159)) hC hU hH gk0_150 g_cl9 4 (by decide) kf_X9_26 rfl dX9_weigh_88 ?_
    refine lv_iconst (v := 0) (pc := 91) hx hb dX9_weigh_91 (by decide) ?_
    obtain ⟨h3_4, hf⟩ := gc_s hf
    refine g_gald (pc := 92) hC hU hH gk0_159 gn0_159 h3_4 dX9_weigh_92 ?_
    refine lv_bipush (v := 8) (pc := 93) hx hb dX9_weigh_93 (by decide) ?_
    refine lv_iload_n (pc := 95) hx hb dX9_weigh_95 rfl (lv_at hl 3 rfl) ?_
    refine lv_iadd (pc := 96) hx hb dX9_weigh_96 ?_
    refine lv_iconst (v := 1) (pc := 97) hx hb dX9_weigh_97 (by decide) ?_
    obtain ⟨h3_5, hf⟩ := gc_s hf
    refine g_iast (pc := 98) hC hU hH hS (gg_159 h3_4).1 (gg_159 h3_4).2 h3_5 dX9_weigh_98 (fun H locs hH hS => ?_)
    refine lv_iconst (v := 1) (pc := 99) hx hb dX9_weigh_99 (by decide) ?_
    refine lv_istore (lv' := [(4, .int 1), (0, .ref (ad 150)), (1, .ref (ad r1)), (2, .ref (ad r2)), (3, .int a3)]) (pc := 100) hx hb dX9_weigh_100 hl (by decide) rfl (fun ls hl => ?_)
    exact wX9_weigh_102 hC hret hlk hU hr1 hr2 FU hf hH hS (lv_sub hl [1, 2, 0] rfl)
  · have hf := gif_n hc hf
    refine lv_aload_n (pc := 12) hx hb dX9_weigh_12 rfl (lv_at hl 0 rfl) ?_
    refine g_get (pc := 13) (v := .ref (ad 156)) hC hU hH gk0_150 g_cl9 3 (by decide) kf_X9_23 rfl dX9_weigh_13 ?_
    refine lv_iconst (v := 0) (pc := 16) hx hb dX9_weigh_16 (by decide) ?_
    obtain ⟨h3_6, hf⟩ := gc_s hf
    refine g_gald (pc := 17) hC hU hH gk0_156 gn0_156 h3_6 dX9_weigh_17 ?_
    refine lv_iload (pc := 18) hx hb dX9_weigh_18 (lv_at hl 4 rfl) ?_
    refine lv_bipush (v := 100) (pc := 20) hx hb dX9_weigh_20 (by decide) ?_
    refine lv_aload_n (pc := 22) hx hb dX9_weigh_22 rfl (lv_at hl 1 rfl) ?_
    refine lv_aload_n (pc := 23) hx hb dX9_weigh_23 rfl (lv_at hl 0 rfl) ?_
    refine g_get (pc := 24) (v := .ref (ad 151)) hC hU hH gk0_150 g_cl9 0 (by decide) kf_X9_9 rfl dX9_weigh_24 ?_
    refine lv_iconst (v := 0) (pc := 27) hx hb dX9_weigh_27 (by decide) ?_
    obtain ⟨h3_7, hf⟩ := gc_s hf
    refine g_iald (pc := 28) hC hU hH gk0_151 gn0_151 h3_7 dX9_weigh_28 ?_
    refine lv_iload (pc := 29) hx hb dX9_weigh_29 (lv_at hl 4 rfl) ?_
    refine lv_aload_n (pc := 31) hx hb dX9_weigh_31 rfl (lv_at hl 2 rfl) ?_
    obtain ⟨q3_2, hq3_2, hf⟩ := gbd hf
    refine g_callVi (pc := 32) (rest := [.int 100, .int l4, .ref (ad (156 + 1 + (0 : Int32).toNatClampNeg))]) hC hU hH hS hl.1 hr1 rfl (by decide) (mX8_slipOf hr1 hr2 hq3_2) ky_X8_slipOf km_X9_121 ⟨Nat.le_of_ble_eq_true rfl, Nat.le_of_ble_eq_true rfl⟩ ⟨Nat.zero_le _, Nat.zero_le _⟩ rfl (Nat.le_of_ble_eq_true rfl) dX9_weigh_32 rfl (fun H locs hH hS => ?_)
    refine lv_isub (pc := 35) hx hb dX9_weigh_35 ?_
    obtain ⟨h3_8, hf⟩ := gc_s hf
    refine g_iast (pc := 36) hC hU hH hS (gg_156 h3_6).1 (gg_156 h3_6).2 h3_8 dX9_weigh_36 (fun H locs hH hS => ?_)
    refine lv_aload_n (pc := 37) hx hb dX9_weigh_37 rfl (lv_at hl 0 rfl) ?_
    refine g_get (pc := 38) (v := .ref (ad 156)) hC hU hH gk0_150 g_cl9 3 (by decide) kf_X9_23 rfl dX9_weigh_38 ?_
    refine lv_iconst (v := 1) (pc := 41) hx hb dX9_weigh_41 (by decide) ?_
    obtain ⟨h3_9, hf⟩ := gc_s hf
    refine g_gald (pc := 42) hC hU hH gk0_156 gn0_156 h3_9 dX9_weigh_42 ?_
    refine lv_iload (pc := 43) hx hb dX9_weigh_43 (lv_at hl 4 rfl) ?_
    refine lv_bipush (v := 100) (pc := 45) hx hb dX9_weigh_45 (by decide) ?_
    refine lv_aload_n (pc := 47) hx hb dX9_weigh_47 rfl (lv_at hl 1 rfl) ?_
    refine lv_aload_n (pc := 48) hx hb dX9_weigh_48 rfl (lv_at hl 0 rfl) ?_
    refine g_get (pc := 49) (v := .ref (ad 151)) hC hU hH gk0_150 g_cl9 0 (by decide) kf_X9_9 rfl dX9_weigh_49 ?_
    refine lv_iconst (v := 1) (pc := 52) hx hb dX9_weigh_52 (by decide) ?_
    obtain ⟨h3_10, hf⟩ := gc_s hf
    refine g_iald (pc := 53) hC hU hH gk0_151 gn0_151 h3_10 dX9_weigh_53 ?_
    refine lv_iload (pc := 54) hx hb dX9_weigh_54 (lv_at hl 4 rfl) ?_
    refine lv_aload_n (pc := 56) hx hb dX9_weigh_56 rfl (lv_at hl 2 rfl) ?_
    obtain ⟨q3_3, hq3_3, hf⟩ := gbd hf
    refine g_callVi (pc := 57) (rest := [.int 100, .int l4, .ref (ad (156 + 1 + (1 : Int32).toNatClampNeg))]) hC hU hH hS hl.1 hr1 rfl (by decide) (mX8_slipOf hr1 hr2 hq3_3) ky_X8_slipOf km_X9_121 ⟨Nat.le_of_ble_eq_true rfl, Nat.le_of_ble_eq_true rfl⟩ ⟨Nat.zero_le _, Nat.zero_le _⟩ rfl (Nat.le_of_ble_eq_true rfl) dX9_weigh_57 rfl (fun H locs hH hS => ?_)
    refine lv_isub (pc := 60) hx hb dX9_weigh_60 ?_
    obtain ⟨h3_11, hf⟩ := gc_s hf
    refine g_iast (pc := 61) hC hU hH hS (gg_156 h3_9).1 (gg_156 h3_9).2 h3_11 dX9_weigh_61 (fun H locs hH hS => ?_)
    refine lv_iinc (v := l4 + 1) (lv' := [(4, .int (l4 + 1)), (0, .ref (ad 150)), (1, .ref (ad r1)), (2, .ref (ad r2)), (3, .int a3)]) (k := 4) (pc := 62) hx hb dX9_weigh_62 hl rfl rfl (by decide) rfl (fun ls hl => ?_)
    refine lv_goto (tgt := 3) (pc := 65) hx hb dX9_weigh_65 (by decide) ?_
    exact hk3 hf hH hS (lv_sub hl [1, 2, 3, 4, 0] rfl)
def hX9_weigh_3 (r1 : Nat) (r2 : Nat) (a3 : Int32)  : Nat → Int32 → gS → Option (gS)
  | 0 => fun _ _ => none
  | n + 1 => fun l4 st => fX9_weigh_3 r1 r2 a3 (hX9_weigh_3 r1 r2 a3 n) l4 st
set_option maxRecDepth 100000 in
set_option maxHeartbeats 4000000 in
theorem wX9_weigh_3 {r1 : Nat} {r2 : Nat} {a3 : Int32} (hC : CallFix p m c cX9_weigh 5 s args lw_good RX9) (hret : meth.sig.returnType = none) (hlk : meth.locks = false) (hU : gU 0 D cA ad s) (hr1 : gK 0 r1 = 8) (hr2 : gK 0 r2 = 5) {st' : gS}  : ∀ (n : Nat) {l4 : Int32} {st : gS} {H : Heap} {locs : List Loc} {ls : Array Slot}, hX9_weigh_3 r1 r2 a3 n l4 st = some st' → gP0 0 D cA ad st H → va_S (gA 0 ad) s.heap H locs → lv_has ls 5 [(0, .ref (ad 150)), (1, .ref (ad r1)), (2, .ref (ad r2)), (3, .int a3), (4, .int l4)] → W p l e (gRm 6) s m args below meth c H locs 0 0 (MQ below (gQc 0 D cA ad st' none) args s 0 0 (gA 0 ad)) (F0 m 3 ls []) := by
  intro n
  induction n with
  | zero => intro l4 st H locs ls hf hH hS hl; cases hf
  | succ n ih =>
    intro l4 st H locs ls hf hH hS hl
    exact bX9_weigh_3 (r1 := r1) (r2 := r2) (a3 := a3) hC hret hlk hU hr1 hr2 (fun hf hH hS hl => ih hf hH hS hl) hf hH hS hl
def fX9_weigh (r1 : Nat) (r2 : Nat) (a3 : Int32)   (st : gS) : Option (gS) :=
  hX9_weigh_3 r1 r2 a3 FU 0 st
set_option maxRecDepth 100000 in
set_option maxHeartbeats 4000000 in
theorem bX9_weigh_0 {r1 : Nat} {r2 : Nat} {a3 : Int32} (hC : CallFix p m c cX9_weigh 5 s args lw_good RX9) (hret : meth.sig.returnType = none) (hlk : meth.locks = false) (hU : gU 0 D cA ad s) (hr1 : gK 0 r1 = 8) (hr2 : gK 0 r2 = 5) {st' : gS}   {st : gS} {H : Heap} {locs : List Loc} {ls : Array Slot} (hf : fX9_weigh r1 r2 a3 st = some st') (hH : gP0 0 D cA ad st H) (hS : va_S (gA 0 ad) s.heap H locs) (hl : lv_has ls 5 [(0, .ref (ad 150)), (1, .ref (ad r1)), (2, .ref (ad r2)), (3, .int a3)]) : W p l e (gRm 6) s m args below meth c H locs 0 0 (MQ below (gQc 0 D cA ad st' none) args s 0 0 (gA 0 ad)) (F0 m 0 ls []) := by
  obtain ⟨hx, hb, hml, hown, hts⟩ := id hC
  unfold fX9_weigh at hf
  refine lv_iconst (v := 0) (pc := 0) hx hb dX9_weigh_0 (by decide) ?_
  refine lv_istore (lv' := [(4, .int 0), (0, .ref (ad 150)), (1, .ref (ad r1)), (2, .ref (ad r2)), (3, .int a3)]) (pc := 1) hx hb dX9_weigh_1 hl (by decide) rfl (fun ls hl => ?_)
  exact wX9_weigh_3 hC hret hlk hU hr1 hr2 FU hf hH hS (lv_sub hl [1, 2, 3, 4, 0] rfl)
set_option maxRecDepth 100000 in
set_option maxHeartbeats 4000000 in
theorem mX9_weigh {l : Launch} {D : va_G} {cA : Nat → ClassId} {ad : Nat → Nat} {r1 : Nat} {r2 : Nat} {a3 : Int32} (hr1 : gK 0 r1 = 8) (hr2 : gK 0 r2 = 5) {st st' : gS} (hf : fX9_weigh r1 r2 a3 st = some st') : gM l yX9_weigh cX9_weigh 5 none 6 0 D cA ad st [.ref (ad 150), .ref (ad r1), .ref (ad r2), .int a3] none st' := by
  refine g_met (by decide) (Nat.le_of_ble_eq_true rfl) ?_
  intro p e s m args below meth c ls hC hret hlk hU hH hl
  exact bX9_weigh_0 hC hret hlk hU hr1 hr2 hf hH va_S.rf hl
def fX9_power_4 (a0 : Int32) (k4 : Int32 → Int32 → gS → Option (Int32 × gS)) (l1 : Int32) (l2 : Int32) (st : gS) : Option (Int32 × gS) :=
  if a0 ≤ l2 then (some (l1, st)) else (k4 (l1 * 100) (l2 + 1) st)
set_option maxRecDepth 100000 in
set_option maxHeartbeats 4000000 in
theorem bX9_power_4 {a0 : Int32} (hC : CallFix p m c cX9_power 3 s args lw_good RX9) (hret : meth.sig.returnType = (some .int)) (hlk : meth.locks = false) (hU : gU 0 D cA ad s)  {r : Int32} {st' : gS} {k4 : Int32 → Int32 → gS → Option (Int32 × gS)} (hk4 : ∀ {l1 : Int32} {l2 : Int32} {st : gS} {H : Heap} {locs : List Loc} {ls : Array Slot}, k4 l1 l2 st = some (r, st') → gP0 0 D cA ad st H → va_S (gA 0 ad) s.heap H locs → lv_has ls 3 [(0, .int a0), (1, .int l1), (2, .int l2)] → W p l e (gRm 1) s m args below meth c H locs 0 0 (MQ below (gQc 0 D cA ad st' (some (.int r))) args s 0 0 (gA 0 ad)) (F0 m 4 ls [])) {l1 : Int32} {l2 : Int32} {st : gS} {H : Heap} {locs : List Loc} {ls : Array Slot} (hf : fX9_power_4 a0 k4 l1 l2 st = some (r, st')) (hH : gP0 0 D cA ad st H) (hS : va_S (gA 0 ad) s.heap H locs) (hl : lv_has ls 3 [(0, .int a0), (1, .int l1), (2, .int l2)]) : W p l e (gRm 1) s m args below meth c H locs 0 0 (MQ below (gQc 0 D cA ad st' (some (.int r))) args s 0 0 (gA 0 ad)) (F0 m 4 ls []) := by
  obtain ⟨hx, hb, hml, hown, hts⟩ := id hC
  unfold fX9_power_4 at hf
  refine lv_iload_n (pc := 4) hx hb dX9_power_4 rfl (lv_at hl 2 rfl) ?_
  refine lv_iload_n (pc := 5) hx hb dX9_power_5 rfl (lv_at hl 0 rfl) ?_
  refine lv_icmp_ge (tgt := 20) (pc := 6) hx hb dX9_power_6 (by decide) (fun hc => ?_) (fun hc => ?_)
  · have hf := gif_p hc hf
    refine lv_iload_n (pc := 20) hx hb dX9_power_20 rfl (lv_at hl 1 rfl) ?_
    exact g_iret (pc := 21) hC hret hlk hH hS hf dX9_power_21
  · have hf := gif_n hc hf
    refine lv_iload_n (pc := 9) hx hb dX9_power_9 rfl (lv_at hl 1 rfl) ?_
    refine lv_bipush (v := 100) (pc := 10) hx hb dX9_power_10 (by decide) ?_
    refine lv_imul (pc := 12) hx hb dX9_power_12 ?_
    refine lv_istore_n (lv' := [(1, .int (l1 * 100)), (0, .int a0), (2, .int l2)]) (pc := 13) hx hb dX9_power_13 rfl hl (by decide) rfl (fun ls hl => ?_)
    refine lv_iinc (v := l2 + 1) (lv' := [(2, .int (l2 + 1)), (1, .int (l1 * 100)), (0, .int a0)]) (k := 2) (pc := 14) hx hb dX9_power_14 hl rfl rfl (by decide) rfl (fun ls hl => ?_)
    refine lv_goto (tgt := 4) (pc := 17) hx hb dX9_power_17 (by decide) ?_
    exact hk4 hf hH hS (lv_sub hl [2, 1, 0] rfl)
def hX9_power_4 (a0 : Int32)  : Nat → Int32 → Int32 → gS → Option (Int32 × gS)
  | 0 => fun _ _ _ => none
  | n + 1 => fun l1 l2 st => fX9_power_4 a0 (hX9_power_4 a0 n) l1 l2 st
set_option maxRecDepth 100000 in
set_option maxHeartbeats 4000000 in
theorem wX9_power_4 {a0 : Int32} (hC : CallFix p m c cX9_power 3 s args lw_good RX9) (hret : meth.sig.returnType = (some .int)) (hlk : meth.locks = false) (hU : gU 0 D cA ad s)  {r : Int32} {st' : gS}  : ∀ (n : Nat) {l1 : Int32} {l2 : Int32} {st : gS} {H : Heap} {locs : List Loc} {ls : Array Slot}, hX9_power_4 a0 n l1 l2 st = some (r, st') → gP0 0 D cA ad st H → va_S (gA 0 ad) s.heap H locs → lv_has ls 3 [(0, .int a0), (1, .int l1), (2, .int l2)] → W p l e (gRm 1) s m args below meth c H locs 0 0 (MQ below (gQc 0 D cA ad st' (some (.int r))) args s 0 0 (gA 0 ad)) (F0 m 4 ls []) := by
  intro n
  induction n with
  | zero => intro l1 l2 st H locs ls hf hH hS hl; cases hf
  | succ n ih =>
    intro l1 l2 st H locs ls hf hH hS hl
    exact bX9_power_4 (a0 := a0) hC hret hlk hU (fun hf hH hS hl => ih hf hH hS hl) hf hH hS hl
def fX9_power (a0 : Int32)   (st : gS) : Option (Int32 × gS) :=
  hX9_power_4 a0 FU 1 0 st
set_option maxRecDepth 100000 in
set_option maxHeartbeats 4000000 in
theorem bX9_power_0 {a0 : Int32} (hC : CallFix p m c cX9_power 3 s args lw_good RX9) (hret : meth.sig.returnType = (some .int)) (hlk : meth.locks = false) (hU : gU 0 D cA ad s)  {r : Int32} {st' : gS}   {st : gS} {H : Heap} {locs : List Loc} {ls : Array Slot} (hf : fX9_power a0 st = some (r, st')) (hH : gP0 0 D cA ad st H) (hS : va_S (gA 0 ad) s.heap H locs) (hl : lv_has ls 3 [(0, .int a0)]) : W p l e (gRm 1) s m args below meth c H locs 0 0 (MQ below (gQc 0 D cA ad st' (some (.int r))) args s 0 0 (gA 0 ad)) (F0 m 0 ls []) := by
  obtain ⟨hx, hb, hml, hown, hts⟩ := id hC
  unfold fX9_power at hf
  refine lv_iconst (v := 1) (pc := 0) hx hb dX9_power_0 (by decide) ?_
  refine lv_istore_n (lv' := [(1, .int 1), (0, .int a0)]) (pc := 1) hx hb dX9_power_1 rfl hl (by decide) rfl (fun ls hl => ?_)
  refine lv_iconst (v := 0) (pc := 2) hx hb dX9_power_2 (by decide) ?_
  refine lv_istore_n (lv' := [(2, .int 0), (1, .int 1), (0, .int a0)]) (pc := 3) hx hb dX9_power_3 rfl hl (by decide) rfl (fun ls hl => ?_)
  exact wX9_power_4 hC hret hlk hU FU hf hH hS (lv_sub hl [2, 1, 0] rfl)
set_option maxRecDepth 100000 in
set_option maxHeartbeats 4000000 in
theorem mX9_power {l : Launch} {D : va_G} {cA : Nat → ClassId} {ad : Nat → Nat} {a0 : Int32}  {r : Int32} {st st' : gS} (hf : fX9_power a0 st = some (r, st')) : gM l yX9_power cX9_power 3 (some .int) 1 0 D cA ad st [.int a0] (some (.int r)) st' := by
  refine g_met (by decide) (Nat.le_of_ble_eq_true rfl) ?_
  intro p e s m args below meth c ls hC hret hlk hU hH hl
  exact bX9_power_0 hC hret hlk hU hf hH va_S.rf hl
def fX9_likeliestLength_44 (a1 : Int32) (k7 : Int32 → Int32 → Int32 → gS → Option (Int32 × gS)) (l2 : Int32) (l3 : Int32) (l4 : Int32) (s0 : Int32) (st : gS) : Option (Int32 × gS) :=
  if s0 ≤ l3 then (k7 l2 l3 (l4 + 1) st) else (k7 l4 s0 (l4 + 1) st)
set_option maxRecDepth 100000 in
set_option maxHeartbeats 4000000 in
theorem bX9_likeliestLength_44 {a1 : Int32} (hC : CallFix p m c cX9_likeliestLength 7 s args lw_good RX9) (hret : meth.sig.returnType = (some .int)) (hlk : meth.locks = false) (hU : gU 0 D cA ad s)  {r : Int32} {st' : gS} {k7 : Int32 → Int32 → Int32 → gS → Option (Int32 × gS)} (hk7 : ∀ {l2 : Int32} {l3 : Int32} {l4 : Int32} {st : gS} {H : Heap} {locs : List Loc} {ls : Array Slot}, k7 l2 l3 l4 st = some (r, st') → gP0 0 D cA ad st H → va_S (gA 0 ad) s.heap H locs → lv_has ls 7 [(0, .ref (ad 150)), (1, .int a1), (2, .int l2), (3, .int l3), (4, .int l4)] → W p l e (gRm 2) s m args below meth c H locs 0 0 (MQ below (gQc 0 D cA ad st' (some (.int r))) args s 0 0 (gA 0 ad)) (F0 m 7 ls [])) {l2 : Int32} {l3 : Int32} {l4 : Int32} {s0 : Int32} {st : gS} {H : Heap} {locs : List Loc} {ls : Array Slot} (hf : fX9_likeliestLength_44 a1 k7 l2 l3 l4 s0 st = some (r, st')) (hH : gP0 0 D cA ad st H) (hS : va_S (gA 0 ad) s.heap H locs) (hl : lv_has ls 7 [(0, .ref (ad 150)), (1, .int a1), (2, .int l2), (3, .int l3), (4, .int l4)]) : W p l e (gRm 2) s m args below meth c H locs 0 0 (MQ below (gQc 0 D cA ad st' (some (.int r))) args s 0 0 (gA 0 ad)) (F0 m 44 ls [.int s0]) := by
  obtain ⟨hx, hb, hml, hown, hts⟩ := id hC
  unfold fX9_likeliestLength_44 at hf
  refine lv_istore (lv' := [(6, .int s0), (0, .ref (ad 150)), (1, .int a1), (2, .int l2), (3, .int l3), (4, .int l4)]) (pc := 44) hx hb dX9_likeliestLength_44 hl (by decide) rfl (fun ls hl => ?_)
  refine lv_iload (pc := 46) hx hb dX9_likeliestLength_46 (lv_at hl 0 rfl) ?_
  refine lv_iload_n (pc := 48) hx hb dX9_likeliestLength_48 rfl (lv_at hl 4 rfl) ?_
  refine lv_icmp_le (tgt := 58) (pc := 49) hx hb dX9_likeliestLength_49 (by decide) (fun hc => ?_) (fun hc => ?_)
  · have hf := gif_p hc hf
    refine lv_iinc (v := l4 + 1) (lv' := [(4, .int (l4 + 1)), (6, .int s0), (0, .ref (ad 150)), (1, .int a1), (2, .int l2), (3, .int l3)]) (k := 5) (pc := 58) hx hb dX9_likeliestLength_58 hl rfl rfl (by decide) rfl (fun ls hl => ?_)
    refine lv_goto (tgt := 7) (pc := 61) hx hb dX9_likeliestLength_61 (by decide) ?_
    exact hk7 hf hH hS (lv_sub hl [2, 3, 4, 5, 0] rfl)
  · have hf := gif_n hc hf
    refine lv_iload (pc := 52) hx hb dX9_likeliestLength_52 (lv_at hl 0 rfl) ?_
    refine lv_istore_n (lv' := [(3, .int s0), (6, .int s0), (0, .ref (ad 150)), (1, .int a1), (2, .int l2), (4, .int l4)]) (pc := 54) hx hb dX9_likeliestLength_54 rfl hl (by decide) rfl (fun ls hl => ?_)
    refine lv_iload (pc := 55) hx hb dX9_likeliestLength_55 (lv_at hl 5 rfl) ?_
    refine lv_istore_n (lv' := [(2, .int l4), (3, .int s0), (6, .int s0), (0, .ref (ad 150)), (1, .int a1), (4, .int l4)]) (pc := 57) hx hb dX9_likeliestLength_57 rfl hl (by decide) rfl (fun ls hl => ?_)
    refine lv_iinc (v := l4 + 1) (lv' := [(4, .int (l4 + 1)), (2, .int l4), (3, .int s0), (6, .int s0), (0, .ref (ad 150)), (1, .int a1)]) (k := 5) (pc := 58) hx hb dX9_likeliestLength_58 hl rfl rfl (by decide) rfl (fun ls hl => ?_)
    refine lv_goto (tgt := 7) (pc := 61) hx hb dX9_likeliestLength_61 (by decide) ?_
    exact hk7 hf hH hS (lv_sub hl [4, 5, 1, 2, 0] rfl)
def fX9_likeliestLength_7 (a1 : Int32) (k7 : Int32 → Int32 → Int32 → gS → Option (Int32 × gS)) (l2 : Int32) (l3 : Int32) (l4 : Int32) (st : gS) : Option (Int32 × gS) :=
  if 4 < l4 then (some (l2, st)) else (gc (gI l4 5) (gc (gI a1 16) (gl (st.1 (159 + 1 + l4.toNatClampNeg) a1.toNatClampNeg) fun x22 => (if x22 = (-1) then (fX9_likeliestLength_44 a1 k7 l2 l3 l4 (-1) st) else ((fX9_power (4 - l4) st).bind fun q7_1 => (fX9_likeliestLength_44 a1 k7 l2 l3 l4 (x22 * q7_1.1) q7_1.2))))))
set_option maxRecDepth 100000 in
set_option maxHeartbeats 4000000 in
theorem bX9_likeliestLength_7 {a1 : Int32} (hC : CallFix p m c cX9_likeliestLength 7 s args lw_good RX9) (hret : meth.sig.returnType = (some .int)) (hlk : meth.locks = false) (hU : gU 0 D cA ad s)  {r : Int32} {st' : gS} {k7 : Int32 → Int32 → Int32 → gS → Option (Int32 × gS)} (hk7 : ∀ {l2 : Int32} {l3 : Int32} {l4 : Int32} {st : gS} {H : Heap} {locs : List Loc} {ls : Array Slot}, k7 l2 l3 l4 st = some (r, st') → gP0 0 D cA ad st H → va_S (gA 0 ad) s.heap H locs → lv_has ls 7 [(0, .ref (ad 150)), (1, .int a1), (2, .int l2), (3, .int l3), (4, .int l4)] → W p l e (gRm 2) s m args below meth c H locs 0 0 (MQ below (gQc 0 D cA ad st' (some (.int r))) args s 0 0 (gA 0 ad)) (F0 m 7 ls [])) {l2 : Int32} {l3 : Int32} {l4 : Int32} {st : gS} {H : Heap} {locs : List Loc} {ls : Array Slot} (hf : fX9_likeliestLength_7 a1 k7 l2 l3 l4 st = some (r, st')) (hH : gP0 0 D cA ad st H) (hS : va_S (gA 0 ad) s.heap H locs) (hl : lv_has ls 7 [(0, .ref (ad 150)), (1, .int a1), (2, .int l2), (3, .int l3), (4, .int l4)]) : W p l e (gRm 2) s m args below meth c H locs 0 0 (MQ below (gQc 0 D cA ad st' (some (.int r))) args s 0 0 (gA 0 ad)) (F0 m 7 ls []) := by
  obtain ⟨hx, hb, hml, hown, hts⟩ := id hC
  unfold fX9_likeliestLength_7 at hf
  refine lv_iload (pc := 7) hx hb dX9_likeliestLength_7 (lv_at hl 4 rfl) ?_
  refine lv_iconst (v := 4) (pc := 9) hx hb dX9_likeliestLength_9 (by decide) ?_
  refine lv_icmp_gt (tgt := 64) (pc := 10) hx hb dX9_likeliestLength_10 (by decide) (fun hc => ?_) (fun hc => ?_)
  · have hf := gif_p hc hf
    refine lv_iload_n (pc := 64) hx hb dX9_likeliestLength_64 rfl (lv_at hl 2 rfl) ?_
    exact g_iret (pc := 65) hC hret hlk hH hS hf dX9_likeliestLength_65
  · have hf := gif_n hc hf
    refine lv_aload_n (pc := 13) hx hb dX9_likeliestLength_13 rfl (lv_at hl 0 rfl) ?_
    refine g_get (pc := 14) (v := .ref (ad 159)) hC hU hH gk0_150 g_cl9 4 (by decide) kf_X9_26 rfl dX9_likeliestLength_14 ?_
    refine lv_iload (pc := 17) hx hb dX9_likeliestLength_17 (lv_at hl 4 rfl) ?_
    obtain ⟨h7_1, hf⟩ := gc_s hf
    refine g_gald (pc := 19) hC hU hH gk0_159 gn0_159 h7_1 dX9_likeliestLength_19 ?_
    refine lv_iload_n (pc := 20) hx hb dX9_likeliestLength_20 rfl (lv_at hl 1 rfl) ?_
    obtain ⟨h7_2, hf⟩ := gc_s hf
    refine g_iald (pc := 21) hC hU hH (gg_159 h7_1).1 (gg_159 h7_1).2 h7_2 dX9_likeliestLength_21 ?_
    refine lv_topi (pc := 22) (fun x22 ex22 => ?_)
    have hf := gl_s ex22 hf
    refine lv_istore (lv' := [(5, .int x22), (0, .ref (ad 150)), (1, .int a1), (2, .int l2), (3, .int l3), (4, .int l4)]) (pc := 22) hx hb dX9_likeliestLength_22 hl (by decide) rfl (fun ls hl => ?_)
    refine lv_iload (pc := 24) hx hb dX9_likeliestLength_24 (lv_at hl 0 rfl) ?_
    refine lv_iconst (v := (-1)) (pc := 26) hx hb dX9_likeliestLength_26 (by decide) ?_
    refine lv_icmp_ne (tgt := 34) (pc := 27) hx hb dX9_likeliestLength_27 (by decide) (fun hc => ?_) (fun hc => ?_)
    · have hf := gif_n hc hf
      refine lv_iload (pc := 34) hx hb dX9_likeliestLength_34 (lv_at hl 0 rfl) ?_
      refine lv_iconst (v := 4) (pc := 36) hx hb dX9_likeliestLength_36 (by decide) ?_
      refine lv_iload (pc := 37) hx hb dX9_likeliestLength_37 (lv_at hl 5 rfl) ?_
      refine lv_isub (pc := 39) hx hb dX9_likeliestLength_39 ?_
      obtain ⟨q7_1, hq7_1, hf⟩ := gbd hf
      refine g_callSi (pc := 40) (rest := [.int x22]) hC hU hH hS hl.1 (mX9_power  hq7_1) ky_X9_power km_X9_114 ⟨Nat.le_of_ble_eq_true rfl, Nat.le_of_ble_eq_true rfl⟩ ⟨Nat.zero_le _, Nat.zero_le _⟩ rfl (Nat.le_of_ble_eq_true rfl) dX9_likeliestLength_40 rfl (fun H locs hH hS => ?_)
      refine lv_imul (pc := 43) hx hb dX9_likeliestLength_43 ?_
      exact bX9_likeliestLength_44 hC hret hlk hU hk7 hf hH hS (lv_sub hl [1, 2, 3, 4, 5] rfl)
    · have hf := gif_p hc hf
      refine lv_iconst (v := (-1)) (pc := 30) hx hb dX9_likeliestLength_30 (by decide) ?_
      refine lv_goto (tgt := 44) (pc := 31) hx hb dX9_likeliestLength_31 (by decide) ?_
      exact bX9_likeliestLength_44 hC hret hlk hU hk7 hf hH hS (lv_sub hl [1, 2, 3, 4, 5] rfl)
def hX9_likeliestLength_7 (a1 : Int32)  : Nat → Int32 → Int32 → Int32 → gS → Option (Int32 × gS)
  | 0 => fun _ _ _ _ => none
  | n + 1 => fun l2 l3 l4 st => fX9_likeliestLength_7 a1 (hX9_likeliestLength_7 a1 n) l2 l3 l4 st
set_option maxRecDepth 100000 in
set_option maxHeartbeats 4000000 in
theorem wX9_likeliestLength_7 {a1 : Int32} (hC : CallFix p m c cX9_likeliestLength 7 s args lw_good RX9) (hret : meth.sig.returnType = (some .int)) (hlk : meth.locks = false) (hU : gU 0 D cA ad s)  {r : Int32} {st' : gS}  : ∀ (n : Nat) {l2 : Int32} {l3 : Int32} {l4 : Int32} {st : gS} {H : Heap} {locs : List Loc} {ls : Array Slot}, hX9_likeliestLength_7 a1 n l2 l3 l4 st = some (r, st') → gP0 0 D cA ad st H → va_S (gA 0 ad) s.heap H locs → lv_has ls 7 [(0, .ref (ad 150)), (1, .int a1), (2, .int l2), (3, .int l3), (4, .int l4)] → W p l e (gRm 2) s m args below meth c H locs 0 0 (MQ below (gQc 0 D cA ad st' (some (.int r))) args s 0 0 (gA 0 ad)) (F0 m 7 ls []) := by
  intro n
  induction n with
  | zero => intro l2 l3 l4 st H locs ls hf hH hS hl; cases hf
  | succ n ih =>
    intro l2 l3 l4 st H locs ls hf hH hS hl
    exact bX9_likeliestLength_7 (a1 := a1) hC hret hlk hU (fun hf hH hS hl => ih hf hH hS hl) hf hH hS hl
def fX9_likeliestLength (a1 : Int32)   (st : gS) : Option (Int32 × gS) :=
  hX9_likeliestLength_7 a1 FU (-1) (-1) 0 st
set_option maxRecDepth 100000 in
set_option maxHeartbeats 4000000 in
theorem bX9_likeliestLength_0 {a1 : Int32} (hC : CallFix p m c cX9_likeliestLength 7 s args lw_good RX9) (hret : meth.sig.returnType = (some .int)) (hlk : meth.locks = false) (hU : gU 0 D cA ad s)  {r : Int32} {st' : gS}   {st : gS} {H : Heap} {locs : List Loc} {ls : Array Slot} (hf : fX9_likeliestLength a1 st = some (r, st')) (hH : gP0 0 D cA ad st H) (hS : va_S (gA 0 ad) s.heap H locs) (hl : lv_has ls 7 [(0, .ref (ad 150)), (1, .int a1)]) : W p l e (gRm 2) s m args below meth c H locs 0 0 (MQ below (gQc 0 D cA ad st' (some (.int r))) args s 0 0 (gA 0 ad)) (F0 m 0 ls []) := by
  obtain ⟨hx, hb, hml, hown, hts⟩ := id hC
  unfold fX9_likeliestLength at hf
  refine lv_iconst (v := (-1)) (pc := 0) hx hb dX9_likeliestLength_0 (by decide) ?_
  refine lv_istore_n (lv' := [(2, .int (-1)), (0, .ref (ad 150)), (1, .int a1)]) (pc := 1) hx hb dX9_likeliestLength_1 rfl hl (by decide) rfl (fun ls hl => ?_)
  refine lv_iconst (v := (-1)) (pc := 2) hx hb dX9_likeliestLength_2 (by decide) ?_
  refine lv_istore_n (lv' := [(3, .int (-1)), (2, .int (-1)), (0, .ref (ad 150)), (1, .int a1)]) (pc := 3) hx hb dX9_likeliestLength_3 rfl hl (by decide) rfl (fun ls hl => ?_)
  refine lv_iconst (v := 0) (pc := 4) hx hb dX9_likeliestLength_4 (by decide) ?_
  refine lv_istore (lv' := [(4, .int 0), (3, .int (-1)), (2, .int (-1)), (0, .ref (ad 150)), (1, .int a1)]) (pc := 5) hx hb dX9_likeliestLength_5 hl (by decide) rfl (fun ls hl => ?_)
  exact wX9_likeliestLength_7 hC hret hlk hU FU hf hH hS (lv_sub hl [3, 4, 2, 1, 0] rfl)
set_option maxRecDepth 100000 in
set_option maxHeartbeats 4000000 in
theorem mX9_likeliestLength {l : Launch} {D : va_G} {cA : Nat → ClassId} {ad : Nat → Nat} {a1 : Int32}  {r : Int32} {st st' : gS} (hf : fX9_likeliestLength a1 st = some (r, st')) : gM l yX9_likeliestLength cX9_likeliestLength 7 (some .int) 2 0 D cA ad st [.ref (ad 150), .int a1] (some (.int r)) st' := by
  refine g_met (by decide) (Nat.le_of_ble_eq_true rfl) ?_
  intro p e s m args below meth c ls hC hret hlk hU hH hl
  exact bX9_likeliestLength_0 hC hret hlk hU hf hH va_S.rf hl
def fX9_layLikeliest_32 (r1 : Nat) (a2 : Int32) (a3 : Int32) (a4 : Int32) (k9 : Int32 → Int32 → Int32 → gS → Option (gS)) (k32 : Int32 → Int32 → Int32 → Int32 → Int32 → Int32 → gS → Option (gS)) (l5 : Int32) (l6 : Int32) (l7 : Int32) (l8 : Int32) (l9 : Int32) (l10 : Int32) (st : gS) : Option (gS) :=
  if l10 < 0 then (if l9 = (-1) then (some st) else ((fX9_lay l9 st).bind fun q32_1 => (gc (gI l8 2) (gc (gI l9 16) (gl (l6 * (q32_1.1 (156 + 1 + l8.toNatClampNeg) l9.toNatClampNeg)) fun x157 => (gc (gI l9 16) (gl (q32_1.1 (r1 + 1 + 7) l9.toNatClampNeg) fun x166 => (k9 x166 x157 (l7 + 1) q32_1)))))))) else (gc (gI ((a3 - l7) - 1) 5) (gc (gI l10 16) (gc (gI (((1 - l8) * 8) + (st.1 (r1 + 1 + 7) l10.toNatClampNeg)) 16) (gl (st.1 (159 + 1 + ((a3 - l7) - 1).toNatClampNeg) (((1 - l8) * 8) + (st.1 (r1 + 1 + 7) l10.toNatClampNeg)).toNatClampNeg) fun x64 => (gc (gI l10 16) (if (st.1 (r1 + 1 + 6) l10.toNatClampNeg) = l5 then (if x64 = (-1) then (k32 l5 l6 l7 l8 l9 (l10 + (-1)) st) else (gc (gI l8 2) ((fX8_can r1 (st.1 151 l8.toNatClampNeg) l10 st).bind fun q32_2 => (if q32_2.1 = 0 then (k32 l5 l6 l7 l8 l9 (l10 + (-1)) q32_2.2) else (gc (gI l8 2) (gc (gI l10 16) (if ((l6 * (q32_2.2.1 (156 + 1 + l8.toNatClampNeg) l10.toNatClampNeg)) * x64) = a4 then (k32 l5 l6 l7 l8 l10 (l10 + (-1)) q32_2.2) else (k32 l5 l6 l7 l8 l9 (l10 + (-1)) q32_2.2)))))))) else (k32 l5 l6 l7 l8 l9 (l10 + (-1)) st)))))))
set_option maxRecDepth 100000 in
set_option maxHeartbeats 4000000 in
theorem bX9_layLikeliest_32 {r1 : Nat} {a2 : Int32} {a3 : Int32} {a4 : Int32} (hC : CallFix p m c cX9_layLikeliest 12 s args lw_good RX9) (hret : meth.sig.returnType = none) (hlk : meth.locks = false) (hU : gU 0 D cA ad s) (hr1 : gK 0 r1 = 8) {st' : gS} {k9 : Int32 → Int32 → Int32 → gS → Option (gS)} (hk9 : ∀ {l5 : Int32} {l6 : Int32} {l7 : Int32} {st : gS} {H : Heap} {locs : List Loc} {ls : Array Slot}, k9 l5 l6 l7 st = some st' → gP0 0 D cA ad st H → va_S (gA 0 ad) s.heap H locs → lv_has ls 12 [(0, .ref (ad 150)), (1, .ref (ad r1)), (3, .int a3), (4, .int a4), (5, .int l5), (6, .int l6), (7, .int l7)] → W p l e (gRm 3) s m args below meth c H locs 0 0 (MQ below (gQc 0 D cA ad st' none) args s 0 0 (gA 0 ad)) (F0 m 9 ls [])) {k32 : Int32 → Int32 → Int32 → Int32 → Int32 → Int32 → gS → Option (gS)} (hk32 : ∀ {l5 : Int32} {l6 : Int32} {l7 : Int32} {l8 : Int32} {l9 : Int32} {l10 : Int32} {st : gS} {H : Heap} {locs : List Loc} {ls : Array Slot}, k32 l5 l6 l7 l8 l9 l10 st = some st' → gP0 0 D cA ad st H → va_S (gA 0 ad) s.heap H locs → lv_has ls 12 [(0, .ref (ad 150)), (1, .ref (ad r1)), (3, .int a3), (4, .int a4), (5, .int l5), (6, .int l6), (7, .int l7), (8, .int l8), (9, .int l9), (10, .int l10)] → W p l e (gRm 3) s m args below meth c H locs 0 0 (MQ below (gQc 0 D cA ad st' none) args s 0 0 (gA 0 ad)) (F0 m 32 ls [])) {l5 : Int32} {l6 : Int32} {l7 : Int32} {l8 : Int32} {l9 : Int32} {l10 : Int32} {st : gS} {H : Heap} {locs : List Loc} {ls : Array Slot} (hf : fX9_layLikeliest_32 r1 a2 a3 a4 k9 k32 l5 l6 l7 l8 l9 l10 st = some st') (hH : gP0 0 D cA ad st H) (hS : va_S (gA 0 ad) s.heap H locs) (hl : lv_has ls 12 [(0, .ref (ad 150)), (1, .ref (ad r1)), (3, .int a3), (4, .int a4), (5, .int l5), (6, .int l6), (7, .int l7), (8, .int l8), (9, .int l9), (10, .int l10)]) : W p l e (gRm 3) s m args below meth c H locs 0 0 (MQ below (gQc 0 D cA ad st' none) args s 0 0 (gA 0 ad)) (F0 m 32 ls []) := by
  obtain ⟨hx, hb, hml, hown, hts⟩ := id hC
  unfold fX9_layLikeliest_32 at hf
  refine lv_iload (pc := 32) hx hb dX9_layLikeliest_32 (lv_at hl 9 rfl) ?_
  refine lv_if_lt (tgt := 131) (pc := 34) hx hb dX9_layLikeliest_34 (by decide) (fun hc => ?_) (fun hc => ?_)
  · have hf := gif_p hc hf
    refine lv_iload (pc := 131) hx hb dX9_layLikeliest_131 (lv_at hl 8 rfl) ?_
    refine lv_iconst (v := (-1)) (pc := 133) hx hb dX9_layLikeliest_133 (by decide) ?_
    refine lv_icmp_ne (tgt := 138) (pc := 134) hx hb dX9_layLikeliest_134 (by decide) (fun hc => ?_) (fun hc => ?_)
    · have hf := gif_n hc hf
      refine lv_aload_n (pc := 138) hx hb dX9_layLikeliest_138 rfl (lv_at hl 0 rfl) ?_
      refine lv_iload (pc := 139) hx hb dX9_layLikeliest_139 (lv_at hl 8 rfl) ?_
      obtain ⟨q32_1, hq32_1, hf⟩ := gbd hf
      refine g_callVv (pc := 141) (rest := []) hC hU hH hS hl.1 gk0_150 rfl (by decide) (mX9_lay  hq32_1) ky_X9_lay km_X9_98 ⟨Nat.le_of_ble_eq_true rfl, Nat.le_of_ble_eq_true rfl⟩ ⟨Nat.zero_le _, Nat.zero_le _⟩ rfl (Nat.le_of_ble_eq_true rfl) dX9_layLikeliest_141 rfl (fun H locs hH hS => ?_)
      refine lv_iload (pc := 144) hx hb dX9_layLikeliest_144 (lv_at hl 5 rfl) ?_
      refine lv_aload_n (pc := 146) hx hb dX9_layLikeliest_146 rfl (lv_at hl 0 rfl) ?_
      refine g_get (pc := 147) (v := .ref (ad 156)) hC hU hH gk0_150 g_cl9 3 (by decide) kf_X9_23 rfl dX9_layLikeliest_147 ?_
      refine lv_iload (pc := 150) hx hb dX9_layLikeliest_150 (lv_at hl 7 rfl) ?_
      obtain ⟨h32_1, hf⟩ := gc_s hf
      refine g_gald (pc := 152) hC hU hH gk0_156 gn0_156 h32_1 dX9_layLikeliest_152 ?_
      refine lv_iload (pc := 153) hx hb dX9_layLikeliest_153 (lv_at hl 8 rfl) ?_
      obtain ⟨h32_2, hf⟩ := gc_s hf
      refine g_iald (pc := 155) hC hU hH (gg_156 h32_1).1 (gg_156 h32_1).2 h32_2 dX9_layLikeliest_155 ?_
      refine lv_imul (pc := 156) hx hb dX9_layLikeliest_156 ?_
      refine lv_topi (pc := 157) (fun x157 ex157 => ?_)
      have hf := gl_s ex157 hf
      refine lv_istore (lv' := [(6, .int x157), (0, .ref (ad 150)), (1, .ref (ad r1)), (3, .int a3), (4, .int a4), (5, .int l5), (7, .int l7), (8, .int l8), (9, .int l9), (10, .int l10)]) (pc := 157) hx hb dX9_layLikeliest_157 hl (by decide) rfl (fun ls hl => ?_)
      refine lv_aload_n (pc := 159) hx hb dX9_layLikeliest_159 rfl (lv_at hl 2 rfl) ?_
      refine g_get (pc := 160) (v := .ref (ad (r1 + 1 + 7))) hC hU hH hr1 g_cl8 7 (by decide) kf_X9_84 rfl dX9_layLikeliest_160 ?_
      refine lv_iload (pc := 163) hx hb dX9_layLikeliest_163 (lv_at hl 8 rfl) ?_
      obtain ⟨h32_3, hf⟩ := gc_s hf
      refine g_iald (pc := 165) hC hU hH (gk_8_7 hr1) (gn_8_7 hr1) h32_3 dX9_layLikeliest_165 ?_
      refine lv_topi (pc := 166) (fun x166 ex166 => ?_)
      have hf := gl_s ex166 hf
      refine lv_istore (lv' := [(5, .int x166), (6, .int x157), (0, .ref (ad 150)), (1, .ref (ad r1)), (3, .int a3), (4, .int a4), (7, .int l7), (8, .int l8), (9, .int l9), (10, .int l10)]) (pc := 166) hx hb dX9_layLikeliest_166 hl (by decide) rfl (fun ls hl => ?_)
      refine lv_iinc (v := l7 + 1) (lv' := [(7, .int (l7 + 1)), (5, .int x166), (6, .int x157), (0, .ref (ad 150)), (1, .ref (ad r1)), (3, .int a3), (4, .int a4), (8, .int l8), (9, .int l9), (10, .int l10)]) (k := 6) (pc := 168) hx hb dX9_layLikeliest_168 hl rfl rfl (by decide) rfl (fun ls hl => ?_)
      refine lv_goto (tgt := 9) (pc := 171) hx hb dX9_layLikeliest_171 (by decide) ?_
      exact hk9 hf hH hS (lv_sub hl [3, 4, 5, 6, 1, 2, 0] rfl)
    · have hf := gif_p hc hf
      exact g_vret (pc := 137) hC hret hlk hH hS hf dX9_layLikeliest_137
  · have hf := gif_n hc hf
    refine lv_aload_n (pc := 37) hx hb dX9_layLikeliest_37 rfl (lv_at hl 0 rfl) ?_
    refine g_get (pc := 38) (v := .ref (ad 159)) hC hU hH gk0_150 g_cl9 4 (by decide) kf_X9_26 rfl dX9_layLikeliest_38 ?_
    refine lv_iload_n (pc := 41) hx hb dX9_layLikeliest_41 rfl (lv_at hl 2 rfl) ?_
    refine lv_iload (pc := 42) hx hb dX9_layLikeliest_42 (lv_at hl 6 rfl) ?_
    refine lv_isub (pc := 44) hx hb dX9_layLikeliest_44 ?_
    refine lv_iconst (v := 1) (pc := 45) hx hb dX9_layLikeliest_45 (by decide) ?_
    refine lv_isub (pc := 46) hx hb dX9_layLikeliest_46 ?_
    obtain ⟨h32_4, hf⟩ := gc_s hf
    refine g_gald (pc := 47) hC hU hH gk0_159 gn0_159 h32_4 dX9_layLikeliest_47 ?_
    refine lv_iconst (v := 1) (pc := 48) hx hb dX9_layLikeliest_48 (by decide) ?_
    refine lv_iload (pc := 49) hx hb dX9_layLikeliest_49 (lv_at hl 7 rfl) ?_
    refine lv_isub (pc := 51) hx hb dX9_layLikeliest_51 ?_
    refine lv_bipush (v := 8) (pc := 52) hx hb dX9_layLikeliest_52 (by decide) ?_
    refine lv_imul (pc := 54) hx hb dX9_layLikeliest_54 ?_
    refine lv_aload_n (pc := 55) hx hb dX9_layLikeliest_55 rfl (lv_at hl 1 rfl) ?_
    refine g_get (pc := 56) (v := .ref (ad (r1 + 1 + 7))) hC hU hH hr1 g_cl8 7 (by decide) kf_X9_84 rfl dX9_layLikeliest_56 ?_
    refine lv_iload (pc := 59) hx hb dX9_layLikeliest_59 (lv_at hl 9 rfl) ?_
    obtain ⟨h32_5, hf⟩ := gc_s hf
    refine g_iald (pc := 61) hC hU hH (gk_8_7 hr1) (gn_8_7 hr1) h32_5 dX9_layLikeliest_61 ?_
    refine lv_iadd (pc := 62) hx hb dX9_layLikeliest_62 ?_
    obtain ⟨h32_6, hf⟩ := gc_s hf
    refine g_iald (pc := 63) hC hU hH (gg_159 h32_4).1 (gg_159 h32_4).2 h32_6 dX9_layLikeliest_63 ?_
    refine lv_topi (pc := 64) (fun x64 ex64 => ?_)
    have hf := gl_s ex64 hf
    refine lv_istore (lv' := [(11, .int x64), (0, .ref (ad 150)), (1, .ref (ad r1)), (3, .int a3), (4, .int a4), (5, .int l5), (6, .int l6), (7, .int l7), (8, .int l8), (9, .int l9), (10, .int l10)]) (pc := 64) hx hb dX9_layLikeliest_64 hl (by decide) rfl (fun ls hl => ?_)
    refine lv_aload_n (pc := 66) hx hb dX9_layLikeliest_66 rfl (lv_at hl 2 rfl) ?_
    refine g_get (pc := 67) (v := .ref (ad (r1 + 1 + 6))) hC hU hH hr1 g_cl8 6 (by decide) kf_X9_87 rfl dX9_layLikeliest_67 ?_
    refine lv_iload (pc := 70) hx hb dX9_layLikeliest_70 (lv_at hl 10 rfl) ?_
    obtain ⟨h32_7, hf⟩ := gc_s hf
    refine g_iald (pc := 72) hC hU hH (gk_8_6 hr1) (gn_8_6 hr1) h32_7 dX9_layLikeliest_72 ?_
    refine lv_iload (pc := 73) hx hb dX9_layLikeliest_73 (lv_at hl 5 rfl) ?_
    refine lv_icmp_ne (tgt := 125) (pc := 75) hx hb dX9_layLikeliest_75 (by decide) (fun hc => ?_) (fun hc => ?_)
    · have hf := gif_n hc hf
      refine lv_iinc (v := l10 + (-1)) (lv' := [(10, .int (l10 + (-1))), (11, .int x64), (0, .ref (ad 150)), (1, .ref (ad r1)), (3, .int a3), (4, .int a4), (5, .int l5), (6, .int l6), (7, .int l7), (8, .int l8), (9, .int l9)]) (k := 10) (pc := 125) hx hb dX9_layLikeliest_125 hl rfl rfl (by decide) rfl (fun ls hl => ?_)
      refine lv_goto (tgt := 32) (pc := 128) hx hb dX9_layLikeliest_128 (by decide) ?_
      exact hk32 hf hH hS (lv_sub hl [2, 3, 4, 5, 6, 7, 8, 9, 10, 0] rfl)
    · have hf := gif_p hc hf
      refine lv_iload (pc := 78) hx hb dX9_layLikeliest_78 (lv_at hl 0 rfl) ?_
      refine lv_iconst (v := (-1)) (pc := 80) hx hb dX9_layLikeliest_80 (by decide) ?_
      refine lv_icmp_eq (tgt := 125) (pc := 81) hx hb dX9_layLikeliest_81 (by decide) (fun hc => ?_) (fun hc => ?_)
      · have hf := gif_p hc hf
        refine lv_iinc (v := l10 + (-1)) (lv' := [(10, .int (l10 + (-1))), (11, .int x64), (0, .ref (ad 150)), (1, .ref (ad r1)), (3, .int a3), (4, .int a4), (5, .int l5), (6, .int l6), (7, .int l7), (8, .int l8), (9, .int l9)]) (k := 10) (pc := 125) hx hb dX9_layLikeliest_125 hl rfl rfl (by decide) rfl (fun ls hl => ?_)
        refine lv_goto (tgt := 32) (pc := 128) hx hb dX9_layLikeliest_128 (by decide) ?_
        exact hk32 hf hH hS (lv_sub hl [2, 3, 4, 5, 6, 7, 8, 9, 10, 0] rfl)
      · have hf := gif_n hc hf
        refine lv_aload_n (pc := 84) hx hb dX9_layLikeliest_84 rfl (lv_at hl 2 rfl) ?_
        refine lv_aload_n (pc := 85) hx hb dX9_layLikeliest_85 rfl (lv_at hl 1 rfl) ?_
        refine g_get (pc := 86) (v := .ref (ad 151)) hC hU hH gk0_150 g_cl9 0 (by decide) kf_X9_9 rfl dX9_layLikeliest_86 ?_
        refine lv_iload (pc := 89) hx hb dX9_layLikeliest_89 (lv_at hl 8 rfl) ?_
        obtain ⟨h32_8, hf⟩ := gc_s hf
        refine g_iald (pc := 91) hC hU hH gk0_151 gn0_151 h32_8 dX9_layLikeliest_91 ?_
        refine lv_iload (pc := 92) hx hb dX9_layLikeliest_92 (lv_at hl 10 rfl) ?_
        obtain ⟨q32_2, hq32_2, hf⟩ := gbd hf
        refine g_callVi (pc := 94) (rest := []) hC hU hH hS hl.1 hr1 rfl (by decide) (mX8_can hr1 hq32_2) ky_X8_can km_X9_90 ⟨Nat.le_of_ble_eq_true rfl, Nat.le_of_ble_eq_true rfl⟩ ⟨Nat.zero_le _, Nat.zero_le _⟩ rfl (Nat.le_of_ble_eq_true rfl) dX9_layLikeliest_94 rfl (fun H locs hH hS => ?_)
        refine lv_if_eq (tgt := 125) (pc := 97) hx hb dX9_layLikeliest_97 (by decide) (fun hc => ?_) (fun hc => ?_)
        · have hf := gif_p hc hf
          refine lv_iinc (v := l10 + (-1)) (lv' := [(10, .int (l10 + (-1))), (11, .int x64), (0, .ref (ad 150)), (1, .ref (ad r1)), (3, .int a3), (4, .int a4), (5, .int l5), (6, .int l6), (7, .int l7), (8, .int l8), (9, .int l9)]) (k := 10) (pc := 125) hx hb dX9_layLikeliest_125 hl rfl rfl (by decide) rfl (fun ls hl => ?_)
          refine lv_goto (tgt := 32) (pc := 128) hx hb dX9_layLikeliest_128 (by decide) ?_
          exact hk32 hf hH hS (lv_sub hl [2, 3, 4, 5, 6, 7, 8, 9, 10, 0] rfl)
        · have hf := gif_n hc hf
          refine lv_iload (pc := 100) hx hb dX9_layLikeliest_100 (lv_at hl 6 rfl) ?_
          refine lv_aload_n (pc := 102) hx hb dX9_layLikeliest_102 rfl (lv_at hl 1 rfl) ?_
          refine g_get (pc := 103) (v := .ref (ad 156)) hC hU hH gk0_150 g_cl9 3 (by decide) kf_X9_23 rfl dX9_layLikeliest_103 ?_
          refine lv_iload (pc := 106) hx hb dX9_layLikeliest_106 (lv_at hl 8 rfl) ?_
          obtain ⟨h32_9, hf⟩ := gc_s hf
          refine g_gald (pc := 108) hC hU hH gk0_156 gn0_156 h32_9 dX9_layLikeliest_108 ?_
          refine lv_iload (pc := 109) hx hb dX9_layLikeliest_109 (lv_at hl 10 rfl) ?_
          obtain ⟨h32_10, hf⟩ := gc_s hf
          refine g_iald (pc := 111) hC hU hH (gg_156 h32_9).1 (gg_156 h32_9).2 h32_10 dX9_layLikeliest_111 ?_
          refine lv_imul (pc := 112) hx hb dX9_layLikeliest_112 ?_
          refine lv_iload (pc := 113) hx hb dX9_layLikeliest_113 (lv_at hl 0 rfl) ?_
          refine lv_imul (pc := 115) hx hb dX9_layLikeliest_115 ?_
          refine lv_iload (pc := 116) hx hb dX9_layLikeliest_116 (lv_at hl 4 rfl) ?_
          refine lv_icmp_ne (tgt := 125) (pc := 118) hx hb dX9_layLikeliest_118 (by decide) (fun hc => ?_) (fun hc => ?_)
          · have hf := gif_n hc hf
            refine lv_iinc (v := l10 + (-1)) (lv' := [(10, .int (l10 + (-1))), (11, .int x64), (0, .ref (ad 150)), (1, .ref (ad r1)), (3, .int a3), (4, .int a4), (5, .int l5), (6, .int l6), (7, .int l7), (8, .int l8), (9, .int l9)]) (k := 10) (pc := 125) hx hb dX9_layLikeliest_125 hl rfl rfl (by decide) rfl (fun ls hl => ?_)
            refine lv_goto (tgt := 32) (pc := 128) hx hb dX9_layLikeliest_128 (by decide) ?_
            exact hk32 hf hH hS (lv_sub hl [2, 3, 4, 5, 6, 7, 8, 9, 10, 0] rfl)
          · have hf := gif_p hc hf
            refine lv_iload (pc := 121) hx hb dX9_layLikeliest_121 (lv_at hl 10 rfl) ?_
            refine lv_istore (lv' := [(9, .int l10), (11, .int x64), (0, .ref (ad 150)), (1, .ref (ad r1)), (3, .int a3), (4, .int a4), (5, .int l5), (6, .int l6), (7, .int l7), (8, .int l8), (10, .int l10)]) (pc := 123) hx hb dX9_layLikeliest_123 hl (by decide) rfl (fun ls hl => ?_)
            refine lv_iinc (v := l10 + (-1)) (lv' := [(10, .int (l10 + (-1))), (9, .int l10), (11, .int x64), (0, .ref (ad 150)), (1, .ref (ad r1)), (3, .int a3), (4, .int a4), (5, .int l5), (6, .int l6), (7, .int l7), (8, .int l8)]) (k := 10) (pc := 125) hx hb dX9_layLikeliest_125 hl rfl rfl (by decide) rfl (fun ls hl => ?_)
            refine lv_goto (tgt := 32) (pc := 128) hx hb dX9_layLikeliest_128 (by decide) ?_
            exact hk32 hf hH hS (lv_sub hl [3, 4, 5, 6, 7, 8, 9, 10, 1, 0] rfl)
def hX9_layLikeliest_32 (r1 : Nat) (a2 : Int32) (a3 : Int32) (a4 : Int32) (k9 : Int32 → Int32 → Int32 → gS → Option (gS)) : Nat → Int32 → Int32 → Int32 → Int32 → Int32 → Int32 → gS → Option (gS)
  | 0 => fun _ _ _ _ _ _ _ => none
  | n + 1 => fun l5 l6 l7 l8 l9 l10 st => fX9_layLikeliest_32 r1 a2 a3 a4 k9 (hX9_layLikeliest_32 r1 a2 a3 a4 k9 n) l5 l6 l7 l8 l9 l10 st
set_option maxRecDepth 100000 in
set_option maxHeartbeats 4000000 in
theorem wX9_layLikeliest_32 {r1 : Nat} {a2 : Int32} {a3 : Int32} {a4 : Int32} (hC : CallFix p m c cX9_layLikeliest 12 s args lw_good RX9) (hret : meth.sig.returnType = none) (hlk : meth.locks = false) (hU : gU 0 D cA ad s) (hr1 : gK 0 r1 = 8) {st' : gS} {k9 : Int32 → Int32 → Int32 → gS → Option (gS)} (hk9 : ∀ {l5 : Int32} {l6 : Int32} {l7 : Int32} {st : gS} {H : Heap} {locs : List Loc} {ls : Array Slot}, k9 l5 l6 l7 st = some st' → gP0 0 D cA ad st H → va_S (gA 0 ad) s.heap H locs → lv_has ls 12 [(0, .ref (ad 150)), (1, .ref (ad r1)), (3, .int a3), (4, .int a4), (5, .int l5), (6, .int l6), (7, .int l7)] → W p l e (gRm 3) s m args below meth c H locs 0 0 (MQ below (gQc 0 D cA ad st' none) args s 0 0 (gA 0 ad)) (F0 m 9 ls [])) : ∀ (n : Nat) {l5 : Int32} {l6 : Int32} {l7 : Int32} {l8 : Int32} {l9 : Int32} {l10 : Int32} {st : gS} {H : Heap} {locs : List Loc} {ls : Array Slot}, hX9_layLikeliest_32 r1 a2 a3 a4 k9 n l5 l6 l7 l8 l9 l10 st = some st' → gP0 0 D cA ad st H → va_S (gA 0 ad) s.heap H locs → lv_has ls 12 [(0, .ref (ad 150)), (1, .ref (ad r1)), (3, .int a3), (4, .int a4), (5, .int l5), (6, .int l6), (7, .int l7), (8, .int l8), (9, .int l9), (10, .int l10)] → W p l e (gRm 3) s m args below meth c H locs 0 0 (MQ below (gQc 0 D cA ad st' none) args s 0 0 (gA 0 ad)) (F0 m 32 ls []) := by
  intro n
  induction n with
  | zero => intro l5 l6 l7 l8 l9 l10 st H locs ls hf hH hS hl; cases hf
  | succ n ih =>
    intro l5 l6 l7 l8 l9 l10 st H locs ls hf hH hS hl
    exact bX9_layLikeliest_32 (r1 := r1) (a2 := a2) (a3 := a3) (a4 := a4) hC hret hlk hU hr1 hk9 (fun hf hH hS hl => ih hf hH hS hl) hf hH hS hl
def fX9_layLikeliest_9 (r1 : Nat) (a2 : Int32) (a3 : Int32) (a4 : Int32) (k9 : Int32 → Int32 → Int32 → gS → Option (gS)) (l5 : Int32) (l6 : Int32) (l7 : Int32) (st : gS) : Option (gS) :=
  if a3 ≤ l7 then (some st) else (gl ((st.1 r1 14) - 1) fun x30 => (hX9_layLikeliest_32 r1 a2 a3 a4 k9 FU l5 l6 l7 (l7 &&& 1) (-1) x30 st))
set_option maxRecDepth 100000 in
set_option maxHeartbeats 4000000 in
theorem bX9_layLikeliest_9 {r1 : Nat} {a2 : Int32} {a3 : Int32} {a4 : Int32} (hC : CallFix p m c cX9_layLikeliest 12 s args lw_good RX9) (hret : meth.sig.returnType = none) (hlk : meth.locks = false) (hU : gU 0 D cA ad s) (hr1 : gK 0 r1 = 8) {st' : gS} {k9 : Int32 → Int32 → Int32 → gS → Option (gS)} (hk9 : ∀ {l5 : Int32} {l6 : Int32} {l7 : Int32} {st : gS} {H : Heap} {locs : List Loc} {ls : Array Slot}, k9 l5 l6 l7 st = some st' → gP0 0 D cA ad st H → va_S (gA 0 ad) s.heap H locs → lv_has ls 12 [(0, .ref (ad 150)), (1, .ref (ad r1)), (3, .int a3), (4, .int a4), (5, .int l5), (6, .int l6), (7, .int l7)] → W p l e (gRm 3) s m args below meth c H locs 0 0 (MQ below (gQc 0 D cA ad st' none) args s 0 0 (gA 0 ad)) (F0 m 9 ls [])) {l5 : Int32} {l6 : Int32} {l7 : Int32} {st : gS} {H : Heap} {locs : List Loc} {ls : Array Slot} (hf : fX9_layLikeliest_9 r1 a2 a3 a4 k9 l5 l6 l7 st = some st') (hH : gP0 0 D cA ad st H) (hS : va_S (gA 0 ad) s.heap H locs) (hl : lv_has ls 12 [(0, .ref (ad 150)), (1, .ref (ad r1)), (3, .int a3), (4, .int a4), (5, .int l5), (6, .int l6), (7, .int l7)]) : W p l e (gRm 3) s m args below meth c H locs 0 0 (MQ below (gQc 0 D cA ad st' none) args s 0 0 (gA 0 ad)) (F0 m 9 ls []) := by
  obtain ⟨hx, hb, hml, hown, hts⟩ := id hC
  unfold fX9_layLikeliest_9 at hf
  refine lv_iload (pc := 9) hx hb dX9_layLikeliest_9 (lv_at hl 6 rfl) ?_
  refine lv_iload_n (pc := 11) hx hb dX9_layLikeliest_11 rfl (lv_at hl 2 rfl) ?_
  refine lv_icmp_ge (tgt := 174) (pc := 12) hx hb dX9_layLikeliest_12 (by decide) (fun hc => ?_) (fun hc => ?_)
  · have hf := gif_p hc hf
    exact g_vret (pc := 174) hC hret hlk hH hS hf dX9_layLikeliest_174
  · have hf := gif_n hc hf
    refine lv_iload (pc := 15) hx hb dX9_layLikeliest_15 (lv_at hl 6 rfl) ?_
    refine lv_iconst (v := 1) (pc := 17) hx hb dX9_layLikeliest_17 (by decide) ?_
    refine lv_iand (pc := 18) hx hb dX9_layLikeliest_18 ?_
    refine lv_istore (lv' := [(8, .int (l7 &&& 1)), (0, .ref (ad 150)), (1, .ref (ad r1)), (3, .int a3), (4, .int a4), (5, .int l5), (6, .int l6), (7, .int l7)]) (pc := 19) hx hb dX9_layLikeliest_19 hl (by decide) rfl (fun ls hl => ?_)
    refine lv_iconst (v := (-1)) (pc := 21) hx hb dX9_layLikeliest_21 (by decide) ?_
    refine lv_istore (lv' := [(9, .int (-1)), (8, .int (l7 &&& 1)), (0, .ref (ad 150)), (1, .ref (ad r1)), (3, .int a3), (4, .int a4), (5, .int l5), (6, .int l6), (7, .int l7)]) (pc := 22) hx hb dX9_layLikeliest_22 hl (by decide) rfl (fun ls hl => ?_)
    refine lv_aload_n (pc := 24) hx hb dX9_layLikeliest_24 rfl (lv_at hl 3 rfl) ?_
    refine g_get (pc := 25) (v := .int (st.1 r1 14)) hC hU hH hr1 g_cl8 14 (by decide) kf_X9_81 rfl dX9_layLikeliest_25 ?_
    refine lv_iconst (v := 1) (pc := 28) hx hb dX9_layLikeliest_28 (by decide) ?_
    refine lv_isub (pc := 29) hx hb dX9_layLikeliest_29 ?_
    refine lv_topi (pc := 30) (fun x30 ex30 => ?_)
    have hf := gl_s ex30 hf
    refine lv_istore (lv' := [(10, .int x30), (9, .int (-1)), (8, .int (l7 &&& 1)), (0, .ref (ad 150)), (1, .ref (ad r1)), (3, .int a3), (4, .int a4), (5, .int l5), (6, .int l6), (7, .int l7)]) (pc := 30) hx hb dX9_layLikeliest_30 hl (by decide) rfl (fun ls hl => ?_)
    exact wX9_layLikeliest_32 hC hret hlk hU hr1 hk9 FU hf hH hS (lv_sub hl [3, 4, 5, 6, 7, 8, 9, 2, 1, 0] rfl)
def hX9_layLikeliest_9 (r1 : Nat) (a2 : Int32) (a3 : Int32) (a4 : Int32)  : Nat → Int32 → Int32 → Int32 → gS → Option (gS)
  | 0 => fun _ _ _ _ => none
  | n + 1 => fun l5 l6 l7 st => fX9_layLikeliest_9 r1 a2 a3 a4 (hX9_layLikeliest_9 r1 a2 a3 a4 n) l5 l6 l7 st
set_option maxRecDepth 100000 in
set_option maxHeartbeats 4000000 in
theorem wX9_layLikeliest_9 {r1 : Nat} {a2 : Int32} {a3 : Int32} {a4 : Int32} (hC : CallFix p m c cX9_layLikeliest 12 s args lw_good RX9) (hret : meth.sig.returnType = none) (hlk : meth.locks = false) (hU : gU 0 D cA ad s) (hr1 : gK 0 r1 = 8) {st' : gS}  : ∀ (n : Nat) {l5 : Int32} {l6 : Int32} {l7 : Int32} {st : gS} {H : Heap} {locs : List Loc} {ls : Array Slot}, hX9_layLikeliest_9 r1 a2 a3 a4 n l5 l6 l7 st = some st' → gP0 0 D cA ad st H → va_S (gA 0 ad) s.heap H locs → lv_has ls 12 [(0, .ref (ad 150)), (1, .ref (ad r1)), (3, .int a3), (4, .int a4), (5, .int l5), (6, .int l6), (7, .int l7)] → W p l e (gRm 3) s m args below meth c H locs 0 0 (MQ below (gQc 0 D cA ad st' none) args s 0 0 (gA 0 ad)) (F0 m 9 ls []) := by
  intro n
  induction n with
  | zero => intro l5 l6 l7 st H locs ls hf hH hS hl; cases hf
  | succ n ih =>
    intro l5 l6 l7 st H locs ls hf hH hS hl
    exact bX9_layLikeliest_9 (r1 := r1) (a2 := a2) (a3 := a3) (a4 := a4) hC hret hlk hU hr1 (fun hf hH hS hl => ih hf hH hS hl) hf hH hS hl
def fX9_layLikeliest (r1 : Nat) (a2 : Int32) (a3 : Int32) (a4 : Int32)   (st : gS) : Option (gS) :=
  hX9_layLikeliest_9 r1 a2 a3 a4 FU a2 1 0 st
set_option maxRecDepth 100000 in
set_option maxHeartbeats 4000000 in
theorem bX9_layLikeliest_0 {r1 : Nat} {a2 : Int32} {a3 : Int32} {a4 : Int32} (hC : CallFix p m c cX9_layLikeliest 12 s args lw_good RX9) (hret : meth.sig.returnType = none) (hlk : meth.locks = false) (hU : gU 0 D cA ad s) (hr1 : gK 0 r1 = 8) {st' : gS}   {st : gS} {H : Heap} {locs : List Loc} {ls : Array Slot} (hf : fX9_layLikeliest r1 a2 a3 a4 st = some st') (hH : gP0 0 D cA ad st H) (hS : va_S (gA 0 ad) s.heap H locs) (hl : lv_has ls 12 [(0, .ref (ad 150)), (1, .ref (ad r1)), (2, .int a2), (3, .int a3), (4, .int a4)]) : W p l e (gRm 3) s m args below meth c H locs 0 0 (MQ below (gQc 0 D cA ad st' none) args s 0 0 (gA 0 ad)) (F0 m 0 ls []) := by
  obtain ⟨hx, hb, hml, hown, hts⟩ := id hC
  unfold fX9_layLikeliest at hf
  refine lv_iload_n (pc := 0) hx hb dX9_layLikeliest_0 rfl (lv_at hl 2 rfl) ?_
  refine lv_istore (lv' := [(5, .int a2), (0, .ref (ad 150)), (1, .ref (ad r1)), (2, .int a2), (3, .int a3), (4, .int a4)]) (pc := 1) hx hb dX9_layLikeliest_1 hl (by decide) rfl (fun ls hl => ?_)
  refine lv_iconst (v := 1) (pc := 3) hx hb dX9_layLikeliest_3 (by decide) ?_
  refine lv_istore (lv' := [(6, .int 1), (5, .int a2), (0, .ref (ad 150)), (1, .ref (ad r1)), (2, .int a2), (3, .int a3), (4, .int a4)]) (pc := 4) hx hb dX9_layLikeliest_4 hl (by decide) rfl (fun ls hl => ?_)
  refine lv_iconst (v := 0) (pc := 6) hx hb dX9_layLikeliest_6 (by decide) ?_
  refine lv_istore (lv' := [(7, .int 0), (6, .int 1), (5, .int a2), (0, .ref (ad 150)), (1, .ref (ad r1)), (2, .int a2), (3, .int a3), (4, .int a4)]) (pc := 7) hx hb dX9_layLikeliest_7 hl (by decide) rfl (fun ls hl => ?_)
  exact wX9_layLikeliest_9 hC hret hlk hU hr1 FU hf hH hS (lv_sub hl [3, 4, 6, 7, 2, 1, 0] rfl)
set_option maxRecDepth 100000 in
set_option maxHeartbeats 4000000 in
theorem mX9_layLikeliest {l : Launch} {D : va_G} {cA : Nat → ClassId} {ad : Nat → Nat} {r1 : Nat} {a2 : Int32} {a3 : Int32} {a4 : Int32} (hr1 : gK 0 r1 = 8) {st st' : gS} (hf : fX9_layLikeliest r1 a2 a3 a4 st = some st') : gM l yX9_layLikeliest cX9_layLikeliest 12 none 3 0 D cA ad st [.ref (ad 150), .ref (ad r1), .int a2, .int a3, .int a4] none st' := by
  refine g_met (by decide) (Nat.le_of_ble_eq_true rfl) ?_
  intro p e s m args below meth c ls hC hret hlk hU hH hl
  exact bX9_layLikeliest_0 hC hret hlk hU hr1 hf hH va_S.rf hl
def fX9_commonPart_34 (a0 : Int32) (a1 : Int32)  (l2 : Int32) (st : gS) : Option (Int32 × gS) :=
  if l2 = 0 then (some (1, st)) else (some (l2, st))
set_option maxRecDepth 100000 in
set_option maxHeartbeats 4000000 in
theorem bX9_commonPart_34 {a0 : Int32} {a1 : Int32} (hC : CallFix p m c cX9_commonPart 6 s args lw_good RX9) (hret : meth.sig.returnType = (some .int)) (hlk : meth.locks = false) (hU : gU 0 D cA ad s)  {r : Int32} {st' : gS}  {l2 : Int32} {st : gS} {H : Heap} {locs : List Loc} {ls : Array Slot} (hf : fX9_commonPart_34 a0 a1 l2 st = some (r, st')) (hH : gP0 0 D cA ad st H) (hS : va_S (gA 0 ad) s.heap H locs) (hl : lv_has ls 6 [(2, .int l2)]) : W p l e (gRm 1) s m args below meth c H locs 0 0 (MQ below (gQc 0 D cA ad st' (some (.int r))) args s 0 0 (gA 0 ad)) (F0 m 34 ls []) := by
  obtain ⟨hx, hb, hml, hown, hts⟩ := id hC
  unfold fX9_commonPart_34 at hf
  refine lv_iload_n (pc := 34) hx hb dX9_commonPart_34 rfl (lv_at hl 0 rfl) ?_
  refine lv_if_ne (tgt := 42) (pc := 35) hx hb dX9_commonPart_35 (by decide) (fun hc => ?_) (fun hc => ?_)
  · have hf := gif_n hc hf
    refine lv_iload_n (pc := 42) hx hb dX9_commonPart_42 rfl (lv_at hl 0 rfl) ?_
    exact g_iret (pc := 43) hC hret hlk hH hS hf dX9_commonPart_43
  · have hf := gif_p hc hf
    refine lv_iconst (v := 1) (pc := 38) hx hb dX9_commonPart_38 (by decide) ?_
    refine lv_goto (tgt := 43) (pc := 39) hx hb dX9_commonPart_39 (by decide) ?_
    exact g_iret (pc := 43) hC hret hlk hH hS hf dX9_commonPart_43
def fX9_commonPart_7 (a0 : Int32) (a1 : Int32) (k7 : Int32 → Int32 → Int32 → gS → Option (Int32 × gS)) (l2 : Int32) (l3 : Int32) (l4 : Int32) (st : gS) : Option (Int32 × gS) :=
  if 40 ≤ l4 then (fX9_commonPart_34 a0 a1 l2 st) else (if l3 = 0 then (fX9_commonPart_34 a0 a1 l2 st) else (gc (¬ l3 = 0) (gl (l2 - l2 / l3 * l3) fun x21 => (k7 l3 x21 (l4 + 1) st))))
set_option maxRecDepth 100000 in
set_option maxHeartbeats 4000000 in
theorem bX9_commonPart_7 {a0 : Int32} {a1 : Int32} (hC : CallFix p m c cX9_commonPart 6 s args lw_good RX9) (hret : meth.sig.returnType = (some .int)) (hlk : meth.locks = false) (hU : gU 0 D cA ad s)  {r : Int32} {st' : gS} {k7 : Int32 → Int32 → Int32 → gS → Option (Int32 × gS)} (hk7 : ∀ {l2 : Int32} {l3 : Int32} {l4 : Int32} {st : gS} {H : Heap} {locs : List Loc} {ls : Array Slot}, k7 l2 l3 l4 st = some (r, st') → gP0 0 D cA ad st H → va_S (gA 0 ad) s.heap H locs → lv_has ls 6 [(2, .int l2), (3, .int l3), (4, .int l4)] → W p l e (gRm 1) s m args below meth c H locs 0 0 (MQ below (gQc 0 D cA ad st' (some (.int r))) args s 0 0 (gA 0 ad)) (F0 m 7 ls [])) {l2 : Int32} {l3 : Int32} {l4 : Int32} {st : gS} {H : Heap} {locs : List Loc} {ls : Array Slot} (hf : fX9_commonPart_7 a0 a1 k7 l2 l3 l4 st = some (r, st')) (hH : gP0 0 D cA ad st H) (hS : va_S (gA 0 ad) s.heap H locs) (hl : lv_has ls 6 [(2, .int l2), (3, .int l3), (4, .int l4)]) : W p l e (gRm 1) s m args below meth c H locs 0 0 (MQ below (gQc 0 D cA ad st' (some (.int r))) args s 0 0 (gA 0 ad)) (F0 m 7 ls []) := by
  obtain ⟨hx, hb, hml, hown, hts⟩ := id hC
  unfold fX9_commonPart_7 at hf
  refine lv_iload (pc := 7) hx hb dX9_commonPart_7 (lv_at hl 2 rfl) ?_
  refine lv_bipush (v := 40) (pc := 9) hx hb dX9_commonPart_9 (by decide) ?_
  refine lv_icmp_ge (tgt := 34) (pc := 11) hx hb dX9_commonPart_11 (by decide) (fun hc => ?_) (fun hc => ?_)
  · have hf := gif_p hc hf
    exact bX9_commonPart_34 hC hret hlk hU hf hH hS (lv_sub hl [0] rfl)
  · have hf := gif_n hc hf
    refine lv_iload_n (pc := 14) hx hb dX9_commonPart_14 rfl (lv_at hl 1 rfl) ?_
    refine lv_if_eq (tgt := 34) (pc := 15) hx hb dX9_commonPart_15 (by decide) (fun hc => ?_) (fun hc => ?_)
    · have hf := gif_p hc hf
      exact bX9_commonPart_34 hC hret hlk hU hf hH hS (lv_sub hl [0] rfl)
    · have hf := gif_n hc hf
      refine lv_iload_n (pc := 18) hx hb dX9_commonPart_18 rfl (lv_at hl 0 rfl) ?_
      refine lv_iload_n (pc := 19) hx hb dX9_commonPart_19 rfl (lv_at hl 1 rfl) ?_
      obtain ⟨h7_1, hf⟩ := gc_s hf
      refine lv_irem (pc := 20) hx hb dX9_commonPart_20 h7_1 ?_
      refine lv_topi (pc := 21) (fun x21 ex21 => ?_)
      have hf := gl_s ex21 hf
      refine lv_istore (lv' := [(5, .int x21), (2, .int l2), (3, .int l3), (4, .int l4)]) (pc := 21) hx hb dX9_commonPart_21 hl (by decide) rfl (fun ls hl => ?_)
      refine lv_iload_n (pc := 23) hx hb dX9_commonPart_23 rfl (lv_at hl 2 rfl) ?_
      refine lv_istore_n (lv' := [(2, .int l3), (5, .int x21), (3, .int l3), (4, .int l4)]) (pc := 24) hx hb dX9_commonPart_24 rfl hl (by decide) rfl (fun ls hl => ?_)
      refine lv_iload (pc := 25) hx hb dX9_commonPart_25 (lv_at hl 1 rfl) ?_
      refine lv_istore_n (lv' := [(3, .int x21), (2, .int l3), (5, .int x21), (4, .int l4)]) (pc := 27) hx hb dX9_commonPart_27 rfl hl (by decide) rfl (fun ls hl => ?_)
      refine lv_iinc (v := l4 + 1) (lv' := [(4, .int (l4 + 1)), (3, .int x21), (2, .int l3), (5, .int x21)]) (k := 3) (pc := 28) hx hb dX9_commonPart_28 hl rfl rfl (by decide) rfl (fun ls hl => ?_)
      refine lv_goto (tgt := 7) (pc := 31) hx hb dX9_commonPart_31 (by decide) ?_
      exact hk7 hf hH hS (lv_sub hl [2, 1, 0] rfl)
def hX9_commonPart_7 (a0 : Int32) (a1 : Int32)  : Nat → Int32 → Int32 → Int32 → gS → Option (Int32 × gS)
  | 0 => fun _ _ _ _ => none
  | n + 1 => fun l2 l3 l4 st => fX9_commonPart_7 a0 a1 (hX9_commonPart_7 a0 a1 n) l2 l3 l4 st
set_option maxRecDepth 100000 in
set_option maxHeartbeats 4000000 in
theorem wX9_commonPart_7 {a0 : Int32} {a1 : Int32} (hC : CallFix p m c cX9_commonPart 6 s args lw_good RX9) (hret : meth.sig.returnType = (some .int)) (hlk : meth.locks = false) (hU : gU 0 D cA ad s)  {r : Int32} {st' : gS}  : ∀ (n : Nat) {l2 : Int32} {l3 : Int32} {l4 : Int32} {st : gS} {H : Heap} {locs : List Loc} {ls : Array Slot}, hX9_commonPart_7 a0 a1 n l2 l3 l4 st = some (r, st') → gP0 0 D cA ad st H → va_S (gA 0 ad) s.heap H locs → lv_has ls 6 [(2, .int l2), (3, .int l3), (4, .int l4)] → W p l e (gRm 1) s m args below meth c H locs 0 0 (MQ below (gQc 0 D cA ad st' (some (.int r))) args s 0 0 (gA 0 ad)) (F0 m 7 ls []) := by
  intro n
  induction n with
  | zero => intro l2 l3 l4 st H locs ls hf hH hS hl; cases hf
  | succ n ih =>
    intro l2 l3 l4 st H locs ls hf hH hS hl
    exact bX9_commonPart_7 (a0 := a0) (a1 := a1) hC hret hlk hU (fun hf hH hS hl => ih hf hH hS hl) hf hH hS hl
def fX9_commonPart (a0 : Int32) (a1 : Int32)   (st : gS) : Option (Int32 × gS) :=
  hX9_commonPart_7 a0 a1 FU a1 a0 0 st
set_option maxRecDepth 100000 in
set_option maxHeartbeats 4000000 in
theorem bX9_commonPart_0 {a0 : Int32} {a1 : Int32} (hC : CallFix p m c cX9_commonPart 6 s args lw_good RX9) (hret : meth.sig.returnType = (some .int)) (hlk : meth.locks = false) (hU : gU 0 D cA ad s)  {r : Int32} {st' : gS}   {st : gS} {H : Heap} {locs : List Loc} {ls : Array Slot} (hf : fX9_commonPart a0 a1 st = some (r, st')) (hH : gP0 0 D cA ad st H) (hS : va_S (gA 0 ad) s.heap H locs) (hl : lv_has ls 6 [(0, .int a0), (1, .int a1)]) : W p l e (gRm 1) s m args below meth c H locs 0 0 (MQ below (gQc 0 D cA ad st' (some (.int r))) args s 0 0 (gA 0 ad)) (F0 m 0 ls []) := by
  obtain ⟨hx, hb, hml, hown, hts⟩ := id hC
  unfold fX9_commonPart at hf
  refine lv_iload_n (pc := 0) hx hb dX9_commonPart_0 rfl (lv_at hl 1 rfl) ?_
  refine lv_istore_n (lv' := [(2, .int a1), (0, .int a0), (1, .int a1)]) (pc := 1) hx hb dX9_commonPart_1 rfl hl (by decide) rfl (fun ls hl => ?_)
  refine lv_iload_n (pc := 2) hx hb dX9_commonPart_2 rfl (lv_at hl 1 rfl) ?_
  refine lv_istore_n (lv' := [(3, .int a0), (2, .int a1), (0, .int a0), (1, .int a1)]) (pc := 3) hx hb dX9_commonPart_3 rfl hl (by decide) rfl (fun ls hl => ?_)
  refine lv_iconst (v := 0) (pc := 4) hx hb dX9_commonPart_4 (by decide) ?_
  refine lv_istore (lv' := [(4, .int 0), (3, .int a0), (2, .int a1), (0, .int a0), (1, .int a1)]) (pc := 5) hx hb dX9_commonPart_5 hl (by decide) rfl (fun ls hl => ?_)
  exact wX9_commonPart_7 hC hret hlk hU FU hf hH hS (lv_sub hl [2, 1, 0] rfl)
set_option maxRecDepth 100000 in
set_option maxHeartbeats 4000000 in
theorem mX9_commonPart {l : Launch} {D : va_G} {cA : Nat → ClassId} {ad : Nat → Nat} {a0 : Int32} {a1 : Int32}  {r : Int32} {st st' : gS} (hf : fX9_commonPart a0 a1 st = some (r, st')) : gM l yX9_commonPart cX9_commonPart 6 (some .int) 1 0 D cA ad st [.int a0, .int a1] (some (.int r)) st' := by
  refine g_met (by decide) (Nat.le_of_ble_eq_true rfl) ?_
  intro p e s m args below meth c ls hC hret hlk hU hH hl
  exact bX9_commonPart_0 hC hret hlk hU hf hH va_S.rf hl
def fX9_likeliest (r1 : Nat) (r2 : Nat) (a3 : Int32) (a4 : Int32)   (st : gS) : Option (Int32 × gS) :=
  (fX8_hasFigure r1 (st.1 r2 2) st).bind fun q0_1 => (if q0_1.1 = 0 then (some (0, q0_1.2)) else ((fX8_hasFigure r1 a4 q0_1.2).bind fun q0_2 => (if q0_2.1 = 0 then (some (0, q0_2.2)) else ((fX9_sit r2 a3 q0_2.2).bind fun q0_3 => ((fX9_weigh r1 r2 a4 q0_3).bind fun q0_4 => ((fX9_likeliestLength (q0_4.1 r2 2) q0_4).bind fun q0_5 => (if q0_5.1 = (-1) then (some (0, q0_5.2)) else (gc (gI q0_5.1 5) (gc (gI (q0_5.2.1 r2 2) 16) (gl (q0_5.2.1 (159 + 1 + q0_5.1.toNatClampNeg) (q0_5.2.1 r2 2).toNatClampNeg) fun x66 => ((fX9_layLikeliest r1 (q0_5.2.1 r2 2) q0_5.1 x66 q0_5.2).bind fun q0_6 => ((fX9_power q0_5.1 q0_6).bind fun q0_7 => ((fX9_commonPart x66 q0_7.1 q0_7.2).bind fun q0_8 => (gc (¬ q0_8.1 = 0) (gc (¬ q0_8.1 = 0) (some (1, wi (wi q0_8.2 150 8 (x66 / q0_8.1)) 150 9 (q0_7.1 / q0_8.1))))))))))))))))))
set_option maxRecDepth 100000 in
set_option maxHeartbeats 4000000 in
theorem bX9_likeliest_0 {r1 : Nat} {r2 : Nat} {a3 : Int32} {a4 : Int32} (hC : CallFix p m c cX9_likeliest 9 s args lw_good RX9) (hret : meth.sig.returnType = (some .boolean)) (hlk : meth.locks = false) (hU : gU 0 D cA ad s) (hr1 : gK 0 r1 = 8) (hr2 : gK 0 r2 = 5) {r : Int32} {st' : gS}   {st : gS} {H : Heap} {locs : List Loc} {ls : Array Slot} (hf : fX9_likeliest r1 r2 a3 a4 st = some (r, st')) (hH : gP0 0 D cA ad st H) (hS : va_S (gA 0 ad) s.heap H locs) (hl : lv_has ls 9 [(0, .ref (ad 150)), (1, .ref (ad r1)), (2, .ref (ad r2)), (3, .int a3), (4, .int a4)]) : W p l e (gRm 7) s m args below meth c H locs 0 0 (MQ below (gQc 0 D cA ad st' (some (.int r))) args s 0 0 (gA 0 ad)) (F0 m 0 ls []) := by
  obtain ⟨hx, hb, hml, hown, hts⟩ := id hC
  unfold fX9_likeliest at hf
  refine lv_aload_n (pc := 0) hx hb dX9_likeliest_0 rfl (lv_at hl 1 rfl) ?_
  refine lv_aload_n (pc := 1) hx hb dX9_likeliest_1 rfl (lv_at hl 2 rfl) ?_
  refine g_get (pc := 2) (v := .int (st.1 r2 2)) hC hU hH hr2 g_cl5 2 (by decide) kf_X9_50 rfl dX9_likeliest_2 ?_
  obtain ⟨q0_1, hq0_1, hf⟩ := gbd hf
  refine g_callVi (pc := 5) (rest := []) hC hU hH hS hl.1 hr1 rfl (by decide) (mX8_hasFigure hr1 hq0_1) ky_X8_hasFigure km_X9_53 ⟨Nat.le_of_ble_eq_true rfl, Nat.le_of_ble_eq_true rfl⟩ ⟨Nat.zero_le _, Nat.zero_le _⟩ rfl (Nat.le_of_ble_eq_true rfl) dX9_likeliest_5 rfl (fun H locs hH hS => ?_)
  refine lv_if_eq (tgt := 20) (pc := 8) hx hb dX9_likeliest_8 (by decide) (fun hc => ?_) (fun hc => ?_)
  · have hf := gif_p hc hf
    refine lv_iconst (v := 0) (pc := 20) hx hb dX9_likeliest_20 (by decide) ?_
    exact g_zret (pc := 21) hC hret hlk hH hS (by decide) hf dX9_likeliest_21
  · have hf := gif_n hc hf
    refine lv_aload_n (pc := 11) hx hb dX9_likeliest_11 rfl (lv_at hl 1 rfl) ?_
    refine lv_iload (pc := 12) hx hb dX9_likeliest_12 (lv_at hl 4 rfl) ?_
    obtain ⟨q0_2, hq0_2, hf⟩ := gbd hf
    refine g_callVi (pc := 14) (rest := []) hC hU hH hS hl.1 hr1 rfl (by decide) (mX8_hasFigure hr1 hq0_2) ky_X8_hasFigure km_X9_53 ⟨Nat.le_of_ble_eq_true rfl, Nat.le_of_ble_eq_true rfl⟩ ⟨Nat.zero_le _, Nat.zero_le _⟩ rfl (Nat.le_of_ble_eq_true rfl) dX9_likeliest_14 rfl (fun H locs hH hS => ?_)
    refine lv_if_ne (tgt := 22) (pc := 17) hx hb dX9_likeliest_17 (by decide) (fun hc => ?_) (fun hc => ?_)
    · have hf := gif_n hc hf
      refine lv_aload_n (pc := 22) hx hb dX9_likeliest_22 rfl (lv_at hl 0 rfl) ?_
      refine lv_aload_n (pc := 23) hx hb dX9_likeliest_23 rfl (lv_at hl 2 rfl) ?_
      refine lv_iload_n (pc := 24) hx hb dX9_likeliest_24 rfl (lv_at hl 3 rfl) ?_
      obtain ⟨q0_3, hq0_3, hf⟩ := gbd hf
      refine g_callVv (pc := 25) (rest := []) hC hU hH hS hl.1 gk0_150 rfl (by decide) (mX9_sit hr2 hq0_3) ky_X9_sit km_X9_59 ⟨Nat.le_of_ble_eq_true rfl, Nat.le_of_ble_eq_true rfl⟩ ⟨Nat.zero_le _, Nat.zero_le _⟩ rfl (Nat.le_of_ble_eq_true rfl) dX9_likeliest_25 rfl (fun H locs hH hS => ?_)
      refine lv_aload_n (pc := 28) hx hb dX9_likeliest_28 rfl (lv_at hl 0 rfl) ?_
      refine lv_aload_n (pc := 29) hx hb dX9_likeliest_29 rfl (lv_at hl 1 rfl) ?_
      refine lv_aload_n (pc := 30) hx hb dX9_likeliest_30 rfl (lv_at hl 2 rfl) ?_
      refine lv_iload (pc := 31) hx hb dX9_likeliest_31 (lv_at hl 4 rfl) ?_
      obtain ⟨q0_4, hq0_4, hf⟩ := gbd hf
      refine g_callVv (pc := 33) (rest := []) hC hU hH hS hl.1 gk0_150 rfl (by decide) (mX9_weigh hr1 hr2 hq0_4) ky_X9_weigh km_X9_102 ⟨Nat.le_of_ble_eq_true rfl, Nat.le_of_ble_eq_true rfl⟩ ⟨Nat.zero_le _, Nat.zero_le _⟩ rfl (Nat.le_of_ble_eq_true rfl) dX9_likeliest_33 rfl (fun H locs hH hS => ?_)
      refine lv_aload_n (pc := 36) hx hb dX9_likeliest_36 rfl (lv_at hl 0 rfl) ?_
      refine lv_aload_n (pc := 37) hx hb dX9_likeliest_37 rfl (lv_at hl 2 rfl) ?_
      refine g_get (pc := 38) (v := .int (q0_4.1 r2 2)) hC hU hH hr2 g_cl5 2 (by decide) kf_X9_50 rfl dX9_likeliest_38 ?_
      obtain ⟨q0_5, hq0_5, hf⟩ := gbd hf
      refine g_callVi (pc := 41) (rest := []) hC hU hH hS hl.1 gk0_150 rfl (by decide) (mX9_likeliestLength  hq0_5) ky_X9_likeliestLength km_X9_106 ⟨Nat.le_of_ble_eq_true rfl, Nat.le_of_ble_eq_true rfl⟩ ⟨Nat.zero_le _, Nat.zero_le _⟩ rfl (Nat.le_of_ble_eq_true rfl) dX9_likeliest_41 rfl (fun H locs hH hS => ?_)
      refine lv_istore (lv' := [(5, .int q0_5.1), (0, .ref (ad 150)), (1, .ref (ad r1)), (2, .ref (ad r2)), (3, .int a3), (4, .int a4)]) (pc := 44) hx hb dX9_likeliest_44 hl (by decide) rfl (fun ls hl => ?_)
      refine lv_iload (pc := 46) hx hb dX9_likeliest_46 (lv_at hl 0 rfl) ?_
      refine lv_iconst (v := (-1)) (pc := 48) hx hb dX9_likeliest_48 (by decide) ?_
      refine lv_icmp_ne (tgt := 54) (pc := 49) hx hb dX9_likeliest_49 (by decide) (fun hc => ?_) (fun hc => ?_)
      · have hf := gif_n hc hf
        refine lv_aload_n (pc := 54) hx hb dX9_likeliest_54 rfl (lv_at hl 1 rfl) ?_
        refine g_get (pc := 55) (v := .ref (ad 159)) hC hU hH gk0_150 g_cl9 4 (by decide) kf_X9_26 rfl dX9_likeliest_55 ?_
        refine lv_iload (pc := 58) hx hb dX9_likeliest_58 (lv_at hl 0 rfl) ?_
        obtain ⟨h0_1, hf⟩ := gc_s hf
        refine g_gald (pc := 60) hC hU hH gk0_159 gn0_159 h0_1 dX9_likeliest_60 ?_
        refine lv_aload_n (pc := 61) hx hb dX9_likeliest_61 rfl (lv_at hl 3 rfl) ?_
        refine g_get (pc := 62) (v := .int (q0_5.2.1 r2 2)) hC hU hH hr2 g_cl5 2 (by decide) kf_X9_50 rfl dX9_likeliest_62 ?_
        obtain ⟨h0_2, hf⟩ := gc_s hf
        refine g_iald (pc := 65) hC hU hH (gg_159 h0_1).1 (gg_159 h0_1).2 h0_2 dX9_likeliest_65 ?_
        refine lv_topi (pc := 66) (fun x66 ex66 => ?_)
        have hf := gl_s ex66 hf
        refine lv_istore (lv' := [(6, .int x66), (5, .int q0_5.1), (0, .ref (ad 150)), (1, .ref (ad r1)), (2, .ref (ad r2)), (3, .int a3), (4, .int a4)]) (pc := 66) hx hb dX9_likeliest_66 hl (by decide) rfl (fun ls hl => ?_)
        refine lv_aload_n (pc := 68) hx hb dX9_likeliest_68 rfl (lv_at hl 2 rfl) ?_
        refine lv_aload_n (pc := 69) hx hb dX9_likeliest_69 rfl (lv_at hl 3 rfl) ?_
        refine lv_aload_n (pc := 70) hx hb dX9_likeliest_70 rfl (lv_at hl 4 rfl) ?_
        refine g_get (pc := 71) (v := .int (q0_5.2.1 r2 2)) hC hU hH hr2 g_cl5 2 (by decide) kf_X9_50 rfl dX9_likeliest_71 ?_
        refine lv_iload (pc := 74) hx hb dX9_likeliest_74 (lv_at hl 1 rfl) ?_
        refine lv_iload (pc := 76) hx hb dX9_likeliest_76 (lv_at hl 0 rfl) ?_
        obtain ⟨q0_6, hq0_6, hf⟩ := gbd hf
        refine g_callVv (pc := 78) (rest := []) hC hU hH hS hl.1 gk0_150 rfl (by decide) (mX9_layLikeliest hr1 hq0_6) ky_X9_layLikeliest km_X9_110 ⟨Nat.le_of_ble_eq_true rfl, Nat.le_of_ble_eq_true rfl⟩ ⟨Nat.zero_le _, Nat.zero_le _⟩ rfl (Nat.le_of_ble_eq_true rfl) dX9_likeliest_78 rfl (fun H locs hH hS => ?_)
        refine lv_iload (pc := 81) hx hb dX9_likeliest_81 (lv_at hl 1 rfl) ?_
        obtain ⟨q0_7, hq0_7, hf⟩ := gbd hf
        refine g_callSi (pc := 83) (rest := []) hC hU hH hS hl.1 (mX9_power  hq0_7) ky_X9_power km_X9_114 ⟨Nat.le_of_ble_eq_true rfl, Nat.le_of_ble_eq_true rfl⟩ ⟨Nat.zero_le _, Nat.zero_le _⟩ rfl (Nat.le_of_ble_eq_true rfl) dX9_likeliest_83 rfl (fun H locs hH hS => ?_)
        refine lv_istore (lv' := [(7, .int q0_7.1), (6, .int x66), (5, .int q0_5.1), (0, .ref (ad 150)), (1, .ref (ad r1)), (2, .ref (ad r2)), (3, .int a3), (4, .int a4)]) (pc := 86) hx hb dX9_likeliest_86 hl (by decide) rfl (fun ls hl => ?_)
        refine lv_iload (pc := 88) hx hb dX9_likeliest_88 (lv_at hl 1 rfl) ?_
        refine lv_iload (pc := 90) hx hb dX9_likeliest_90 (lv_at hl 0 rfl) ?_
        obtain ⟨q0_8, hq0_8, hf⟩ := gbd hf
        refine g_callSi (pc := 92) (rest := []) hC hU hH hS hl.1 (mX9_commonPart  hq0_8) ky_X9_commonPart km_X9_117 ⟨Nat.le_of_ble_eq_true rfl, Nat.le_of_ble_eq_true rfl⟩ ⟨Nat.zero_le _, Nat.zero_le _⟩ rfl (Nat.le_of_ble_eq_true rfl) dX9_likeliest_92 rfl (fun H locs hH hS => ?_)
        refine lv_istore (lv' := [(8, .int q0_8.1), (7, .int q0_7.1), (6, .int x66), (5, .int q0_5.1), (0, .ref (ad 150)), (1, .ref (ad r1)), (2, .ref (ad r2)), (3, .int a3), (4, .int a4)]) (pc := 95) hx hb dX9_likeliest_95 hl (by decide) rfl (fun ls hl => ?_)
        refine lv_aload_n (pc := 97) hx hb dX9_likeliest_97 rfl (lv_at hl 4 rfl) ?_
        refine lv_iload (pc := 98) hx hb dX9_likeliest_98 (lv_at hl 2 rfl) ?_
        refine lv_iload (pc := 100) hx hb dX9_likeliest_100 (lv_at hl 0 rfl) ?_
        obtain ⟨h0_3, hf⟩ := gc_s hf
        refine lv_idiv (pc := 102) hx hb dX9_likeliest_102 h0_3 ?_
        refine g_puti (pc := 103) hC hU hH hS gk0_150 g_cl9 8 (by decide) kf_X9_39 rfl rfl rfl rfl dX9_likeliest_103 (fun H locs hH hS => ?_)
        refine lv_aload_n (pc := 106) hx hb dX9_likeliest_106 rfl (lv_at hl 4 rfl) ?_
        refine lv_iload (pc := 107) hx hb dX9_likeliest_107 (lv_at hl 1 rfl) ?_
        refine lv_iload (pc := 109) hx hb dX9_likeliest_109 (lv_at hl 0 rfl) ?_
        obtain ⟨h0_4, hf⟩ := gc_s hf
        refine lv_idiv (pc := 111) hx hb dX9_likeliest_111 h0_4 ?_
        refine g_puti (pc := 112) hC hU hH hS gk0_150 g_cl9 9 (by decide) kf_X9_42 rfl rfl rfl rfl dX9_likeliest_112 (fun H locs hH hS => ?_)
        refine lv_iconst (v := 1) (pc := 115) hx hb dX9_likeliest_115 (by decide) ?_
        exact g_zret (pc := 116) hC hret hlk hH hS (by decide) hf dX9_likeliest_116
      · have hf := gif_p hc hf
        refine lv_iconst (v := 0) (pc := 52) hx hb dX9_likeliest_52 (by decide) ?_
        exact g_zret (pc := 53) hC hret hlk hH hS (by decide) hf dX9_likeliest_53
    · have hf := gif_p hc hf
      refine lv_iconst (v := 0) (pc := 20) hx hb dX9_likeliest_20 (by decide) ?_
      exact g_zret (pc := 21) hC hret hlk hH hS (by decide) hf dX9_likeliest_21
set_option maxRecDepth 100000 in
set_option maxHeartbeats 4000000 in
theorem mX9_likeliest {l : Launch} {D : va_G} {cA : Nat → ClassId} {ad : Nat → Nat} {r1 : Nat} {r2 : Nat} {a3 : Int32} {a4 : Int32} (hr1 : gK 0 r1 = 8) (hr2 : gK 0 r2 = 5) {r : Int32} {st st' : gS} (hf : fX9_likeliest r1 r2 a3 a4 st = some (r, st')) : gM l yX9_likeliest cX9_likeliest 9 (some .boolean) 7 0 D cA ad st [.ref (ad 150), .ref (ad r1), .ref (ad r2), .int a3, .int a4] (some (.int r)) st' := by
  refine g_met (by decide) (Nat.le_of_ble_eq_true rfl) ?_
  intro p e s m args below meth c ls hC hret hlk hU hH hl
  exact bX9_likeliest_0 hC hret hlk hU hr1 hr2 hf hH va_S.rf hl
def fX10_surest (a1 : Int32) (a2 : Int32) (a3 : Int32)   (st : gS) : Option (Int32 × gS) :=
  (fX9_clear st).bind fun q0_1 => ((fX10_isOther a1 q0_1).bind fun q0_2 => (if q0_2.1 = 0 then (some ((-1), q0_2.2)) else (gc (gK 0 (q0_2.2.2.2 0 9) = 8) ((fX8_hasFigure (q0_2.2.2.2 0 9) a2 q0_2.2).bind fun q0_3 => (if q0_3.1 = 0 then (some ((-1), q0_3.2)) else (if a3 < 0 then (some ((-1), q0_3.2)) else (if a3 ≤ 1 then (gc (gK 0 (q0_3.2.2.2 0 9) = 8) ((fX9_likeliest (q0_3.2.2.2 0 9) 20 a1 a2 q0_3.2).bind fun q0_4 => (if q0_4.1 = 0 then (some ((-1), q0_4.2)) else (if a3 = 0 then (some (q0_4.2.1 150 8, q0_4.2)) else (some (q0_4.2.1 150 9, q0_4.2)))))) else (some ((-1), q0_3.2)))))))))
set_option maxRecDepth 100000 in
set_option maxHeartbeats 4000000 in
theorem bX10_surest_0 {a1 : Int32} {a2 : Int32} {a3 : Int32} (hC : CallFix p m c cX10_surest 4 s args lw_good RX10) (hret : meth.sig.returnType = (some .int)) (hlk : meth.locks = false) (hU : gU 0 D cA ad s)  {r : Int32} {st' : gS}   {st : gS} {H : Heap} {locs : List Loc} {ls : Array Slot} (hf : fX10_surest a1 a2 a3 st = some (r, st')) (hH : gP0 0 D cA ad st H) (hS : va_S (gA 0 ad) s.heap H locs) (hl : lv_has ls 4 [(0, .ref (ad 0)), (1, .int a1), (2, .int a2), (3, .int a3)]) : W p l e (gRm 8) s m args below meth c H locs 0 0 (MQ below (gQc 0 D cA ad st' (some (.int r))) args s 0 0 (gA 0 ad)) (F0 m 0 ls []) := by
  obtain ⟨hx, hb, hml, hown, hts⟩ := id hC
  unfold fX10_surest at hf
  refine lv_aload_n (pc := 0) hx hb dX10_surest_0 rfl (lv_at hl 0 rfl) ?_
  refine g_get (pc := 1) (v := .ref (ad 150)) hC hU hH gk0_0 g_cl10 6 (by decide) kf_X10_50 rfl dX10_surest_1 ?_
  obtain ⟨q0_1, hq0_1, hf⟩ := gbd hf
  refine g_callVv (pc := 4) (rest := []) hC hU hH hS hl.1 gk0_150 rfl (by decide) (mX9_clear  hq0_1) ky_X9_clear km_X10_86 ⟨Nat.le_of_ble_eq_true rfl, Nat.le_of_ble_eq_true rfl⟩ ⟨Nat.zero_le _, Nat.zero_le _⟩ rfl (Nat.le_of_ble_eq_true rfl) dX10_surest_4 rfl (fun H locs hH hS => ?_)
  refine lv_aload_n (pc := 7) hx hb dX10_surest_7 rfl (lv_at hl 0 rfl) ?_
  refine lv_iload_n (pc := 8) hx hb dX10_surest_8 rfl (lv_at hl 1 rfl) ?_
  obtain ⟨q0_2, hq0_2, hf⟩ := gbd hf
  refine g_callVi (pc := 9) (rest := []) hC hU hH hS hl.1 gk0_0 rfl (by decide) (mX10_isOther  hq0_2) ky_X10_isOther km_X10_230 ⟨Nat.le_of_ble_eq_true rfl, Nat.le_of_ble_eq_true rfl⟩ ⟨Nat.zero_le _, Nat.zero_le _⟩ rfl (Nat.le_of_ble_eq_true rfl) dX10_surest_9 rfl (fun H locs hH hS => ?_)
  refine lv_if_eq (tgt := 35) (pc := 12) hx hb dX10_surest_12 (by decide) (fun hc => ?_) (fun hc => ?_)
  · have hf := gif_p hc hf
    refine lv_iconst (v := (-1)) (pc := 35) hx hb dX10_surest_35 (by decide) ?_
    exact g_iret (pc := 36) hC hret hlk hH hS hf dX10_surest_36
  · have hf := gif_n hc hf
    refine lv_aload_n (pc := 15) hx hb dX10_surest_15 rfl (lv_at hl 0 rfl) ?_
    refine g_get (pc := 16) (v := .ref (ad (q0_2.2.2.2 0 9))) hC hU hH gk0_0 g_cl10 9 (by decide) kf_X10_71 rfl dX10_surest_16 ?_
    refine lv_iload_n (pc := 19) hx hb dX10_surest_19 rfl (lv_at hl 2 rfl) ?_
    obtain ⟨h0_1, hf⟩ := gc_s hf
    obtain ⟨q0_3, hq0_3, hf⟩ := gbd hf
    refine g_callVi (pc := 20) (rest := []) hC hU hH hS hl.1 h0_1 rfl (by decide) (mX8_hasFigure h0_1 hq0_3) ky_X8_hasFigure km_X10_183 ⟨Nat.le_of_ble_eq_true rfl, Nat.le_of_ble_eq_true rfl⟩ ⟨Nat.zero_le _, Nat.zero_le _⟩ rfl (Nat.le_of_ble_eq_true rfl) dX10_surest_20 rfl (fun H locs hH hS => ?_)
    refine lv_if_eq (tgt := 35) (pc := 23) hx hb dX10_surest_23 (by decide) (fun hc => ?_) (fun hc => ?_)
    · have hf := gif_p hc hf
      refine lv_iconst (v := (-1)) (pc := 35) hx hb dX10_surest_35 (by decide) ?_
      exact g_iret (pc := 36) hC hret hlk hH hS hf dX10_surest_36
    · have hf := gif_n hc hf
      refine lv_iload_n (pc := 26) hx hb dX10_surest_26 rfl (lv_at hl 3 rfl) ?_
      refine lv_if_lt (tgt := 35) (pc := 27) hx hb dX10_surest_27 (by decide) (fun hc => ?_) (fun hc => ?_)
      · have hf := gif_p hc hf
        refine lv_iconst (v := (-1)) (pc := 35) hx hb dX10_surest_35 (by decide) ?_
        exact g_iret (pc := 36) hC hret hlk hH hS hf dX10_surest_36
      · have hf := gif_n hc hf
        refine lv_iload_n (pc := 30) hx hb dX10_surest_30 rfl (lv_at hl 3 rfl) ?_
        refine lv_iconst (v := 1) (pc := 31) hx hb dX10_surest_31 (by decide) ?_
        refine lv_icmp_le (tgt := 37) (pc := 32) hx hb dX10_surest_32 (by decide) (fun hc => ?_) (fun hc => ?_)
        · have hf := gif_p hc hf
          refine lv_aload_n (pc := 37) hx hb dX10_surest_37 rfl (lv_at hl 0 rfl) ?_
          refine g_get (pc := 38) (v := .ref (ad 150)) hC hU hH gk0_0 g_cl10 6 (by decide) kf_X10_50 rfl dX10_surest_38 ?_
          refine lv_aload_n (pc := 41) hx hb dX10_surest_41 rfl (lv_at hl 0 rfl) ?_
          refine g_get (pc := 42) (v := .ref (ad (q0_3.2.2.2 0 9))) hC hU hH gk0_0 g_cl10 9 (by decide) kf_X10_71 rfl dX10_surest_42 ?_
          refine lv_aload_n (pc := 45) hx hb dX10_surest_45 rfl (lv_at hl 0 rfl) ?_
          refine g_get (pc := 46) (v := .ref (ad 20)) hC hU hH gk0_0 g_cl10 2 (by decide) kf_X10_28 rfl dX10_surest_46 ?_
          refine lv_iload_n (pc := 49) hx hb dX10_surest_49 rfl (lv_at hl 1 rfl) ?_
          refine lv_iload_n (pc := 50) hx hb dX10_surest_50 rfl (lv_at hl 2 rfl) ?_
          obtain ⟨h0_2, hf⟩ := gc_s hf
          obtain ⟨q0_4, hq0_4, hf⟩ := gbd hf
          refine g_callVi (pc := 51) (rest := []) hC hU hH hS hl.1 gk0_150 rfl (by decide) (mX9_likeliest h0_2 gk0_20 hq0_4) ky_X9_likeliest km_X10_237 ⟨Nat.le_of_ble_eq_true rfl, Nat.le_of_ble_eq_true rfl⟩ ⟨Nat.zero_le _, Nat.zero_le _⟩ rfl (Nat.le_of_ble_eq_true rfl) dX10_surest_51 rfl (fun H locs hH hS => ?_)
          refine lv_if_ne (tgt := 59) (pc := 54) hx hb dX10_surest_54 (by decide) (fun hc => ?_) (fun hc => ?_)
          · have hf := gif_n hc hf
            refine lv_iload_n (pc := 59) hx hb dX10_surest_59 rfl (lv_at hl 3 rfl) ?_
            refine lv_if_ne (tgt := 73) (pc := 60) hx hb dX10_surest_60 (by decide) (fun hc => ?_) (fun hc => ?_)
            · have hf := gif_n hc hf
              refine lv_aload_n (pc := 73) hx hb dX10_surest_73 rfl (lv_at hl 0 rfl) ?_
              refine g_get (pc := 74) (v := .ref (ad 150)) hC hU hH gk0_0 g_cl10 6 (by decide) kf_X10_50 rfl dX10_surest_74 ?_
              refine g_get (pc := 77) (v := .int (q0_4.2.1 150 9)) hC hU hH gk0_150 g_cl9 9 (by decide) kf_X10_244 rfl dX10_surest_77 ?_
              exact g_iret (pc := 80) hC hret hlk hH hS hf dX10_surest_80
            · have hf := gif_p hc hf
              refine lv_aload_n (pc := 63) hx hb dX10_surest_63 rfl (lv_at hl 0 rfl) ?_
              refine g_get (pc := 64) (v := .ref (ad 150)) hC hU hH gk0_0 g_cl10 6 (by decide) kf_X10_50 rfl dX10_surest_64 ?_
              refine g_get (pc := 67) (v := .int (q0_4.2.1 150 8)) hC hU hH gk0_150 g_cl9 8 (by decide) kf_X10_241 rfl dX10_surest_67 ?_
              refine lv_goto (tgt := 80) (pc := 70) hx hb dX10_surest_70 (by decide) ?_
              exact g_iret (pc := 80) hC hret hlk hH hS hf dX10_surest_80
          · have hf := gif_p hc hf
            refine lv_iconst (v := (-1)) (pc := 57) hx hb dX10_surest_57 (by decide) ?_
            exact g_iret (pc := 58) hC hret hlk hH hS hf dX10_surest_58
        · have hf := gif_n hc hf
          refine lv_iconst (v := (-1)) (pc := 35) hx hb dX10_surest_35 (by decide) ?_
          exact g_iret (pc := 36) hC hret hlk hH hS hf dX10_surest_36
set_option maxRecDepth 100000 in
set_option maxHeartbeats 4000000 in
theorem mX10_surest {l : Launch} {D : va_G} {cA : Nat → ClassId} {ad : Nat → Nat} {a1 : Int32} {a2 : Int32} {a3 : Int32}  {r : Int32} {st st' : gS} (hf : fX10_surest a1 a2 a3 st = some (r, st')) : gM l yX10_surest cX10_surest 4 (some .int) 8 0 D cA ad st [.ref (ad 0), .int a1, .int a2, .int a3] (some (.int r)) st' := by
  refine g_met (by decide) (Nat.le_of_ble_eq_true rfl) ?_
  intro p e s m args below meth c ls hC hret hlk hU hH hl
  exact bX10_surest_0 hC hret hlk hU hf hH va_S.rf hl
def fX5_figureBit (t : Nat)   (st : gS) : Option (Int32 × gS) :=
  if (st.1 t 2) < 0 then (some (0, st)) else (some (1 <<< ((st.1 t 2) &&& 31), st))
set_option maxRecDepth 100000 in
set_option maxHeartbeats 4000000 in
theorem bX5_figureBit_0 {t : Nat} (hC : CallFix p m c cX5_figureBit 1 s args lw_good RX5) (hret : meth.sig.returnType = (some .int)) (hlk : meth.locks = false) (hU : gU 0 D cA ad s) (ht : gK 0 t = 5) {r : Int32} {st' : gS}   {st : gS} {H : Heap} {locs : List Loc} {ls : Array Slot} (hf : fX5_figureBit t st = some (r, st')) (hH : gP0 0 D cA ad st H) (hS : va_S (gA 0 ad) s.heap H locs) (hl : lv_has ls 1 [(0, .ref (ad t))]) : W p l e (gRm 1) s m args below meth c H locs 0 0 (MQ below (gQc 0 D cA ad st' (some (.int r))) args s 0 0 (gA 0 ad)) (F0 m 0 ls []) := by
  obtain ⟨hx, hb, hml, hown, hts⟩ := id hC
  unfold fX5_figureBit at hf
  refine lv_aload_n (pc := 0) hx hb dX5_figureBit_0 rfl (lv_at hl 0 rfl) ?_
  refine g_get (pc := 1) (v := .int (st.1 t 2)) hC hU hH ht g_cl5 2 (by decide) kf_X5_18 rfl dX5_figureBit_1 ?_
  refine lv_if_lt (tgt := 16) (pc := 4) hx hb dX5_figureBit_4 (by decide) (fun hc => ?_) (fun hc => ?_)
  · have hf := gif_p hc hf
    refine lv_iconst (v := 0) (pc := 16) hx hb dX5_figureBit_16 (by decide) ?_
    exact g_iret (pc := 17) hC hret hlk hH hS hf dX5_figureBit_17
  · have hf := gif_n hc hf
    refine lv_iconst (v := 1) (pc := 7) hx hb dX5_figureBit_7 (by decide) ?_
    refine lv_aload_n (pc := 8) hx hb dX5_figureBit_8 rfl (lv_at hl 0 rfl) ?_
    refine g_get (pc := 9) (v := .int (st.1 t 2)) hC hU hH ht g_cl5 2 (by decide) kf_X5_18 rfl dX5_figureBit_9 ?_
    refine lv_ishl (pc := 12) hx hb dX5_figureBit_12 ?_
    refine lv_goto (tgt := 17) (pc := 13) hx hb dX5_figureBit_13 (by decide) ?_
    exact g_iret (pc := 17) hC hret hlk hH hS hf dX5_figureBit_17
set_option maxRecDepth 100000 in
set_option maxHeartbeats 4000000 in
theorem mX5_figureBit {l : Launch} {D : va_G} {cA : Nat → ClassId} {ad : Nat → Nat} {t : Nat} (ht : gK 0 t = 5) {r : Int32} {st st' : gS} (hf : fX5_figureBit t st = some (r, st')) : gM l yX5_figureBit cX5_figureBit 1 (some .int) 1 0 D cA ad st [.ref (ad t)] (some (.int r)) st' := by
  refine g_met (by decide) (Nat.le_of_ble_eq_true rfl) ?_
  intro p e s m args below meth c ls hC hret hlk hU hH hl
  exact bX5_figureBit_0 hC hret hlk hU ht hf hH va_S.rf hl
def fX8_behind_5 (t : Nat) (a1 : Int32) (a2 : Int32) (k5 : Int32 → Int32 → gS → Option (Int32 × gS)) (l3 : Int32) (l4 : Int32) (st : gS) : Option (Int32 × gS) :=
  if (st.1 t 14) ≤ l4 then (some (l3, st)) else (if ((a2 >>> (l4 &&& 31)) &&& 1) = 0 then (k5 l3 (l4 + 1) st) else (gc (gI l4 16) (if ((a1 >>> ((st.1 (t + 1 + 6) l4.toNatClampNeg) &&& 31)) &&& 1) = 0 then (k5 l3 (l4 + 1) st) else (gc (gI l4 16) (gl (l3 ||| (1 <<< ((st.1 (t + 1 + 7) l4.toNatClampNeg) &&& 31))) fun x48 => (k5 x48 (l4 + 1) st))))))
set_option maxRecDepth 100000 in
set_option maxHeartbeats 4000000 in
theorem bX8_behind_5 {t : Nat} {a1 : Int32} {a2 : Int32} (hC : CallFix p m c cX8_behind 5 s args lw_good RX8) (hret : meth.sig.returnType = (some .int)) (hlk : meth.locks = false) (hU : gU 0 D cA ad s) (ht : gK 0 t = 8) {r : Int32} {st' : gS} {k5 : Int32 → Int32 → gS → Option (Int32 × gS)} (hk5 : ∀ {l3 : Int32} {l4 : Int32} {st : gS} {H : Heap} {locs : List Loc} {ls : Array Slot}, k5 l3 l4 st = some (r, st') → gP0 0 D cA ad st H → va_S (gA 0 ad) s.heap H locs → lv_has ls 5 [(0, .ref (ad t)), (1, .int a1), (2, .int a2), (3, .int l3), (4, .int l4)] → W p l e (gRm 1) s m args below meth c H locs 0 0 (MQ below (gQc 0 D cA ad st' (some (.int r))) args s 0 0 (gA 0 ad)) (F0 m 5 ls [])) {l3 : Int32} {l4 : Int32} {st : gS} {H : Heap} {locs : List Loc} {ls : Array Slot} (hf : fX8_behind_5 t a1 a2 k5 l3 l4 st = some (r, st')) (hH : gP0 0 D cA ad st H) (hS : va_S (gA 0 ad) s.heap H locs) (hl : lv_has ls 5 [(0, .ref (ad t)), (1, .int a1), (2, .int a2), (3, .int l3), (4, .int l4)]) : W p l e (gRm 1) s m args below meth c H locs 0 0 (MQ below (gQc 0 D cA ad st' (some (.int r))) args s 0 0 (gA 0 ad)) (F0 m 5 ls []) := by
  obtain ⟨hx, hb, hml, hown, hts⟩ := id hC
  unfold fX8_behind_5 at hf
  refine lv_iload (pc := 5) hx hb dX8_behind_5 (lv_at hl 4 rfl) ?_
  refine lv_aload_n (pc := 7) hx hb dX8_behind_7 rfl (lv_at hl 0 rfl) ?_
  refine g_get (pc := 8) (v := .int (st.1 t 14)) hC hU hH ht g_cl8 14 (by decide) kf_X8_60 rfl dX8_behind_8 ?_
  refine lv_icmp_ge (tgt := 55) (pc := 11) hx hb dX8_behind_11 (by decide) (fun hc => ?_) (fun hc => ?_)
  · have hf := gif_p hc hf
    refine lv_iload_n (pc := 55) hx hb dX8_behind_55 rfl (lv_at hl 3 rfl) ?_
    exact g_iret (pc := 56) hC hret hlk hH hS hf dX8_behind_56
  · have hf := gif_n hc hf
    refine lv_iload_n (pc := 14) hx hb dX8_behind_14 rfl (lv_at hl 2 rfl) ?_
    refine lv_iload (pc := 15) hx hb dX8_behind_15 (lv_at hl 4 rfl) ?_
    refine lv_ishr (pc := 17) hx hb dX8_behind_17 ?_
    refine lv_iconst (v := 1) (pc := 18) hx hb dX8_behind_18 (by decide) ?_
    refine lv_iand (pc := 19) hx hb dX8_behind_19 ?_
    refine lv_if_eq (tgt := 49) (pc := 20) hx hb dX8_behind_20 (by decide) (fun hc => ?_) (fun hc => ?_)
    · have hf := gif_p hc hf
      refine lv_iinc (v := l4 + 1) (lv' := [(4, .int (l4 + 1)), (0, .ref (ad t)), (1, .int a1), (2, .int a2), (3, .int l3)]) (k := 4) (pc := 49) hx hb dX8_behind_49 hl rfl rfl (by decide) rfl (fun ls hl => ?_)
      refine lv_goto (tgt := 5) (pc := 52) hx hb dX8_behind_52 (by decide) ?_
      exact hk5 hf hH hS (lv_sub hl [1, 2, 3, 4, 0] rfl)
    · have hf := gif_n hc hf
      refine lv_iload_n (pc := 23) hx hb dX8_behind_23 rfl (lv_at hl 1 rfl) ?_
      refine lv_aload_n (pc := 24) hx hb dX8_behind_24 rfl (lv_at hl 0 rfl) ?_
      refine g_get (pc := 25) (v := .ref (ad (t + 1 + 6))) hC hU hH ht g_cl8 6 (by decide) kf_X8_31 rfl dX8_behind_25 ?_
      refine lv_iload (pc := 28) hx hb dX8_behind_28 (lv_at hl 4 rfl) ?_
      obtain ⟨h5_1, hf⟩ := gc_s hf
      refine g_iald (pc := 30) hC hU hH (gk_8_6 ht) (gn_8_6 ht) h5_1 dX8_behind_30 ?_
      refine lv_ishr (pc := 31) hx hb dX8_behind_31 ?_
      refine lv_iconst (v := 1) (pc := 32) hx hb dX8_behind_32 (by decide) ?_
      refine lv_iand (pc := 33) hx hb dX8_behind_33 ?_
      refine lv_if_eq (tgt := 49) (pc := 34) hx hb dX8_behind_34 (by decide) (fun hc => ?_) (fun hc => ?_)
      · have hf := gif_p hc hf
        refine lv_iinc (v := l4 + 1) (lv' := [(4, .int (l4 + 1)), (0, .ref (ad t)), (1, .int a1), (2, .int a2), (3, .int l3)]) (k := 4) (pc := 49) hx hb dX8_behind_49 hl rfl rfl (by decide) rfl (fun ls hl => ?_)
        refine lv_goto (tgt := 5) (pc := 52) hx hb dX8_behind_52 (by decide) ?_
        exact hk5 hf hH hS (lv_sub hl [1, 2, 3, 4, 0] rfl)
      · have hf := gif_n hc hf
        refine lv_iload_n (pc := 37) hx hb dX8_behind_37 rfl (lv_at hl 3 rfl) ?_
        refine lv_iconst (v := 1) (pc := 38) hx hb dX8_behind_38 (by decide) ?_
        refine lv_aload_n (pc := 39) hx hb dX8_behind_39 rfl (lv_at hl 0 rfl) ?_
        refine g_get (pc := 40) (v := .ref (ad (t + 1 + 7))) hC hU hH ht g_cl8 7 (by decide) kf_X8_34 rfl dX8_behind_40 ?_
        refine lv_iload (pc := 43) hx hb dX8_behind_43 (lv_at hl 4 rfl) ?_
        obtain ⟨h5_2, hf⟩ := gc_s hf
        refine g_iald (pc := 45) hC hU hH (gk_8_7 ht) (gn_8_7 ht) h5_2 dX8_behind_45 ?_
        refine lv_ishl (pc := 46) hx hb dX8_behind_46 ?_
        refine lv_ior (pc := 47) hx hb dX8_behind_47 ?_
        refine lv_topi (pc := 48) (fun x48 ex48 => ?_)
        have hf := gl_s ex48 hf
        refine lv_istore_n (lv' := [(3, .int x48), (0, .ref (ad t)), (1, .int a1), (2, .int a2), (4, .int l4)]) (pc := 48) hx hb dX8_behind_48 rfl hl (by decide) rfl (fun ls hl => ?_)
        refine lv_iinc (v := l4 + 1) (lv' := [(4, .int (l4 + 1)), (3, .int x48), (0, .ref (ad t)), (1, .int a1), (2, .int a2)]) (k := 4) (pc := 49) hx hb dX8_behind_49 hl rfl rfl (by decide) rfl (fun ls hl => ?_)
        refine lv_goto (tgt := 5) (pc := 52) hx hb dX8_behind_52 (by decide) ?_
        exact hk5 hf hH hS (lv_sub hl [2, 3, 4, 1, 0] rfl)
def hX8_behind_5 (t : Nat) (a1 : Int32) (a2 : Int32)  : Nat → Int32 → Int32 → gS → Option (Int32 × gS)
  | 0 => fun _ _ _ => none
  | n + 1 => fun l3 l4 st => fX8_behind_5 t a1 a2 (hX8_behind_5 t a1 a2 n) l3 l4 st
set_option maxRecDepth 100000 in
set_option maxHeartbeats 4000000 in
theorem wX8_behind_5 {t : Nat} {a1 : Int32} {a2 : Int32} (hC : CallFix p m c cX8_behind 5 s args lw_good RX8) (hret : meth.sig.returnType = (some .int)) (hlk : meth.locks = false) (hU : gU 0 D cA ad s) (ht : gK 0 t = 8) {r : Int32} {st' : gS}  : ∀ (n : Nat) {l3 : Int32} {l4 : Int32} {st : gS} {H : Heap} {locs : List Loc} {ls : Array Slot}, hX8_behind_5 t a1 a2 n l3 l4 st = some (r, st') → gP0 0 D cA ad st H → va_S (gA 0 ad) s.heap H locs → lv_has ls 5 [(0, .ref (ad t)), (1, .int a1), (2, .int a2), (3, .int l3), (4, .int l4)] → W p l e (gRm 1) s m args below meth c H locs 0 0 (MQ below (gQc 0 D cA ad st' (some (.int r))) args s 0 0 (gA 0 ad)) (F0 m 5 ls []) := by
  intro n
  induction n with
  | zero => intro l3 l4 st H locs ls hf hH hS hl; cases hf
  | succ n ih =>
    intro l3 l4 st H locs ls hf hH hS hl
    exact bX8_behind_5 (t := t) (a1 := a1) (a2 := a2) hC hret hlk hU ht (fun hf hH hS hl => ih hf hH hS hl) hf hH hS hl
def fX8_behind (t : Nat) (a1 : Int32) (a2 : Int32)   (st : gS) : Option (Int32 × gS) :=
  hX8_behind_5 t a1 a2 FU 0 0 st
set_option maxRecDepth 100000 in
set_option maxHeartbeats 4000000 in
theorem bX8_behind_0 {t : Nat} {a1 : Int32} {a2 : Int32} (hC : CallFix p m c cX8_behind 5 s args lw_good RX8) (hret : meth.sig.returnType = (some .int)) (hlk : meth.locks = false) (hU : gU 0 D cA ad s) (ht : gK 0 t = 8) {r : Int32} {st' : gS}   {st : gS} {H : Heap} {locs : List Loc} {ls : Array Slot} (hf : fX8_behind t a1 a2 st = some (r, st')) (hH : gP0 0 D cA ad st H) (hS : va_S (gA 0 ad) s.heap H locs) (hl : lv_has ls 5 [(0, .ref (ad t)), (1, .int a1), (2, .int a2)]) : W p l e (gRm 1) s m args below meth c H locs 0 0 (MQ below (gQc 0 D cA ad st' (some (.int r))) args s 0 0 (gA 0 ad)) (F0 m 0 ls []) := by
  obtain ⟨hx, hb, hml, hown, hts⟩ := id hC
  unfold fX8_behind at hf
  refine lv_iconst (v := 0) (pc := 0) hx hb dX8_behind_0 (by decide) ?_
  refine lv_istore_n (lv' := [(3, .int 0), (0, .ref (ad t)), (1, .int a1), (2, .int a2)]) (pc := 1) hx hb dX8_behind_1 rfl hl (by decide) rfl (fun ls hl => ?_)
  refine lv_iconst (v := 0) (pc := 2) hx hb dX8_behind_2 (by decide) ?_
  refine lv_istore (lv' := [(4, .int 0), (3, .int 0), (0, .ref (ad t)), (1, .int a1), (2, .int a2)]) (pc := 3) hx hb dX8_behind_3 hl (by decide) rfl (fun ls hl => ?_)
  exact wX8_behind_5 hC hret hlk hU ht FU hf hH hS (lv_sub hl [2, 3, 4, 1, 0] rfl)
set_option maxRecDepth 100000 in
set_option maxHeartbeats 4000000 in
theorem mX8_behind {l : Launch} {D : va_G} {cA : Nat → ClassId} {ad : Nat → Nat} {t : Nat} {a1 : Int32} {a2 : Int32} (ht : gK 0 t = 8) {r : Int32} {st st' : gS} (hf : fX8_behind t a1 a2 st = some (r, st')) : gM l yX8_behind cX8_behind 5 (some .int) 1 0 D cA ad st [.ref (ad t), .int a1, .int a2] (some (.int r)) st' := by
  refine g_met (by decide) (Nat.le_of_ble_eq_true rfl) ?_
  intro p e s m args below meth c ls hC hret hlk hU hH hl
  exact bX8_behind_0 hC hret hlk hU ht hf hH va_S.rf hl
def fX3_holdsMore_76 (r1 : Nat) (a2 : Int32)  (l4 : Int32) (s0 : Int32) (st : gS) : Option (Int32 × gS) :=
  gc (gI a2 5) (gc (gB s0) (some (s0, wi st 168 a2.toNatClampNeg l4)))
set_option maxRecDepth 100000 in
set_option maxHeartbeats 4000000 in
theorem bX3_holdsMore_76 {r1 : Nat} {a2 : Int32} (hC : CallFix p m c cX3_holdsMore 6 s args lw_good RX3) (hret : meth.sig.returnType = (some .boolean)) (hlk : meth.locks = false) (hU : gU 0 D cA ad s) (hr1 : gK 0 r1 = 8) {r : Int32} {st' : gS}  {l4 : Int32} {s0 : Int32} {st : gS} {H : Heap} {locs : List Loc} {ls : Array Slot} (hf : fX3_holdsMore_76 r1 a2 l4 s0 st = some (r, st')) (hH : gP0 0 D cA ad st H) (hS : va_S (gA 0 ad) s.heap H locs) (hl : lv_has ls 6 [(0, .ref (ad 167)), (2, .int a2), (4, .int l4)]) : W p l e (gRm 2) s m args below meth c H locs 0 0 (MQ below (gQc 0 D cA ad st' (some (.int r))) args s 0 0 (gA 0 ad)) (F0 m 76 ls [.int s0]) := by
  obtain ⟨hx, hb, hml, hown, hts⟩ := id hC
  unfold fX3_holdsMore_76 at hf
  refine lv_istore (lv' := [(5, .int s0), (0, .ref (ad 167)), (2, .int a2), (4, .int l4)]) (pc := 76) hx hb dX3_holdsMore_76 hl (by decide) rfl (fun ls hl => ?_)
  refine lv_aload_n (pc := 78) hx hb dX3_holdsMore_78 rfl (lv_at hl 1 rfl) ?_
  refine g_get (pc := 79) (v := .ref (ad 168)) hC hU hH gk0_167 g_cl3 0 (by decide) kf_X3_9 rfl dX3_holdsMore_79 ?_
  refine lv_iload_n (pc := 82) hx hb dX3_holdsMore_82 rfl (lv_at hl 2 rfl) ?_
  refine lv_iload (pc := 83) hx hb dX3_holdsMore_83 (lv_at hl 3 rfl) ?_
  obtain ⟨h76_1, hf⟩ := gc_s hf
  refine g_iast (pc := 85) hC hU hH hS gk0_168 gn0_168 h76_1 dX3_holdsMore_85 (fun H locs hH hS => ?_)
  refine lv_iload (pc := 86) hx hb dX3_holdsMore_86 (lv_at hl 0 rfl) ?_
  obtain ⟨h76_2, hf⟩ := gc_s hf
  exact g_zret (pc := 88) hC hret hlk hH hS h76_2 hf dX3_holdsMore_88
def fX3_holdsMore_32 (r1 : Nat) (a2 : Int32) (k5 : Int32 → Int32 → gS → Option (Int32 × gS)) (l4 : Int32) (s0 : Int32) (s1 : Int32) (st : gS) : Option (Int32 × gS) :=
  k5 (s1 ||| s0) (l4 + 1) st
set_option maxRecDepth 100000 in
set_option maxHeartbeats 4000000 in
theorem bX3_holdsMore_32 {r1 : Nat} {a2 : Int32} (hC : CallFix p m c cX3_holdsMore 6 s args lw_good RX3) (hret : meth.sig.returnType = (some .boolean)) (hlk : meth.locks = false) (hU : gU 0 D cA ad s) (hr1 : gK 0 r1 = 8) {r : Int32} {st' : gS} {k5 : Int32 → Int32 → gS → Option (Int32 × gS)} (hk5 : ∀ {l3 : Int32} {l4 : Int32} {st : gS} {H : Heap} {locs : List Loc} {ls : Array Slot}, k5 l3 l4 st = some (r, st') → gP0 0 D cA ad st H → va_S (gA 0 ad) s.heap H locs → lv_has ls 6 [(0, .ref (ad 167)), (1, .ref (ad r1)), (2, .int a2), (3, .int l3), (4, .int l4)] → W p l e (gRm 2) s m args below meth c H locs 0 0 (MQ below (gQc 0 D cA ad st' (some (.int r))) args s 0 0 (gA 0 ad)) (F0 m 5 ls [])) {l4 : Int32} {s0 : Int32} {s1 : Int32} {st : gS} {H : Heap} {locs : List Loc} {ls : Array Slot} (hf : fX3_holdsMore_32 r1 a2 k5 l4 s0 s1 st = some (r, st')) (hH : gP0 0 D cA ad st H) (hS : va_S (gA 0 ad) s.heap H locs) (hl : lv_has ls 6 [(0, .ref (ad 167)), (1, .ref (ad r1)), (2, .int a2), (4, .int l4)]) : W p l e (gRm 2) s m args below meth c H locs 0 0 (MQ below (gQc 0 D cA ad st' (some (.int r))) args s 0 0 (gA 0 ad)) (F0 m 32 ls [.int s0, .int s1]) := by
  obtain ⟨hx, hb, hml, hown, hts⟩ := id hC
  unfold fX3_holdsMore_32 at hf
  refine lv_ior (pc := 32) hx hb dX3_holdsMore_32 ?_
  refine lv_istore_n (lv' := [(3, .int (s1 ||| s0)), (0, .ref (ad 167)), (1, .ref (ad r1)), (2, .int a2), (4, .int l4)]) (pc := 33) hx hb dX3_holdsMore_33 rfl hl (by decide) rfl (fun ls hl => ?_)
  refine lv_iinc (v := l4 + 1) (lv' := [(4, .int (l4 + 1)), (3, .int (s1 ||| s0)), (0, .ref (ad 167)), (1, .ref (ad r1)), (2, .int a2)]) (k := 4) (pc := 34) hx hb dX3_holdsMore_34 hl rfl rfl (by decide) rfl (fun ls hl => ?_)
  refine lv_goto (tgt := 5) (pc := 37) hx hb dX3_holdsMore_37 (by decide) ?_
  exact hk5 hf hH hS (lv_sub hl [2, 3, 4, 1, 0] rfl)
def fX3_holdsMore_5 (r1 : Nat) (a2 : Int32) (k5 : Int32 → Int32 → gS → Option (Int32 × gS)) (l3 : Int32) (l4 : Int32) (st : gS) : Option (Int32 × gS) :=
  if (st.1 r1 13) ≤ l4 then (gc (gI a2 5) (gc (gI a2 5) ((fX8_behind r1 l3 (st.1 (r1 + 1 + 4) a2.toNatClampNeg) st).bind fun q5_1 => (gl ((st.1 168 a2.toNatClampNeg) ||| q5_1.1) fun x58 => (gc (gI a2 5) (if x58 = (q5_1.2.1 168 a2.toNatClampNeg) then (fX3_holdsMore_76 r1 a2 x58 0 q5_1.2) else (fX3_holdsMore_76 r1 a2 x58 1 q5_1.2))))))) else (if l4 = a2 then (fX3_holdsMore_32 r1 a2 k5 l4 0 l3 st) else (gc (gI l4 5) (fX3_holdsMore_32 r1 a2 k5 l4 (st.1 168 l4.toNatClampNeg) l3 st)))
set_option maxRecDepth 100000 in
set_option maxHeartbeats 4000000 in
theorem bX3_holdsMore_5 {r1 : Nat} {a2 : Int32} (hC : CallFix p m c cX3_holdsMore 6 s args lw_good RX3) (hret : meth.sig.returnType = (some .boolean)) (hlk : meth.locks = false) (hU : gU 0 D cA ad s) (hr1 : gK 0 r1 = 8) {r : Int32} {st' : gS} {k5 : Int32 → Int32 → gS → Option (Int32 × gS)} (hk5 : ∀ {l3 : Int32} {l4 : Int32} {st : gS} {H : Heap} {locs : List Loc} {ls : Array Slot}, k5 l3 l4 st = some (r, st') → gP0 0 D cA ad st H → va_S (gA 0 ad) s.heap H locs → lv_has ls 6 [(0, .ref (ad 167)), (1, .ref (ad r1)), (2, .int a2), (3, .int l3), (4, .int l4)] → W p l e (gRm 2) s m args below meth c H locs 0 0 (MQ below (gQc 0 D cA ad st' (some (.int r))) args s 0 0 (gA 0 ad)) (F0 m 5 ls [])) {l3 : Int32} {l4 : Int32} {st : gS} {H : Heap} {locs : List Loc} {ls : Array Slot} (hf : fX3_holdsMore_5 r1 a2 k5 l3 l4 st = some (r, st')) (hH : gP0 0 D cA ad st H) (hS : va_S (gA 0 ad) s.heap H locs) (hl : lv_has ls 6 [(0, .ref (ad 167)), (1, .ref (ad r1)), (2, .int a2), (3, .int l3), (4, .int l4)]) : W p l e (gRm 2) s m args below meth c H locs 0 0 (MQ below (gQc 0 D cA ad st' (some (.int r))) args s 0 0 (gA 0 ad)) (F0 m 5 ls []) := by
  obtain ⟨hx, hb, hml, hown, hts⟩ := id hC
  unfold fX3_holdsMore_5 at hf
  refine lv_iload (pc := 5) hx hb dX3_holdsMore_5 (lv_at hl 4 rfl) ?_
  refine lv_aload_n (pc := 7) hx hb dX3_holdsMore_7 rfl (lv_at hl 1 rfl) ?_
  refine g_get (pc := 8) (v := .int (st.1 r1 13)) hC hU hH hr1 g_cl8 13 (by decide) kf_X3_37 rfl dX3_holdsMore_8 ?_
  refine lv_icmp_ge (tgt := 40) (pc := 11) hx hb dX3_holdsMore_11 (by decide) (fun hc => ?_) (fun hc => ?_)
  · have hf := gif_p hc hf
    refine lv_aload_n (pc := 40) hx hb dX3_holdsMore_40 rfl (lv_at hl 0 rfl) ?_
    refine g_get (pc := 41) (v := .ref (ad 168)) hC hU hH gk0_167 g_cl3 0 (by decide) kf_X3_9 rfl dX3_holdsMore_41 ?_
    refine lv_iload_n (pc := 44) hx hb dX3_holdsMore_44 rfl (lv_at hl 2 rfl) ?_
    obtain ⟨h5_1, hf⟩ := gc_s hf
    refine g_iald (pc := 45) hC hU hH gk0_168 gn0_168 h5_1 dX3_holdsMore_45 ?_
    refine lv_aload_n (pc := 46) hx hb dX3_holdsMore_46 rfl (lv_at hl 1 rfl) ?_
    refine lv_iload_n (pc := 47) hx hb dX3_holdsMore_47 rfl (lv_at hl 3 rfl) ?_
    refine lv_aload_n (pc := 48) hx hb dX3_holdsMore_48 rfl (lv_at hl 1 rfl) ?_
    refine g_get (pc := 49) (v := .ref (ad (r1 + 1 + 4))) hC hU hH hr1 g_cl8 4 (by decide) kf_X3_48 rfl dX3_holdsMore_49 ?_
    refine lv_iload_n (pc := 52) hx hb dX3_holdsMore_52 rfl (lv_at hl 2 rfl) ?_
    obtain ⟨h5_2, hf⟩ := gc_s hf
    refine g_iald (pc := 53) hC hU hH (gk_8_4 hr1) (gn_8_4 hr1) h5_2 dX3_holdsMore_53 ?_
    obtain ⟨q5_1, hq5_1, hf⟩ := gbd hf
    refine g_callVi (pc := 54) (rest := [.int (st.1 168 a2.toNatClampNeg)]) hC hU hH hS hl.1 hr1 rfl (by decide) (mX8_behind hr1 hq5_1) ky_X8_behind km_X3_51 ⟨Nat.le_of_ble_eq_true rfl, Nat.le_of_ble_eq_true rfl⟩ ⟨Nat.zero_le _, Nat.zero_le _⟩ rfl (Nat.le_of_ble_eq_true rfl) dX3_holdsMore_54 rfl (fun H locs hH hS => ?_)
    refine lv_ior (pc := 57) hx hb dX3_holdsMore_57 ?_
    refine lv_topi (pc := 58) (fun x58 ex58 => ?_)
    have hf := gl_s ex58 hf
    refine lv_istore (lv' := [(4, .int x58), (0, .ref (ad 167)), (1, .ref (ad r1)), (2, .int a2), (3, .int l3)]) (pc := 58) hx hb dX3_holdsMore_58 hl (by decide) rfl (fun ls hl => ?_)
    refine lv_iload (pc := 60) hx hb dX3_holdsMore_60 (lv_at hl 0 rfl) ?_
    refine lv_aload_n (pc := 62) hx hb dX3_holdsMore_62 rfl (lv_at hl 1 rfl) ?_
    refine g_get (pc := 63) (v := .ref (ad 168)) hC hU hH gk0_167 g_cl3 0 (by decide) kf_X3_9 rfl dX3_holdsMore_63 ?_
    refine lv_iload_n (pc := 66) hx hb dX3_holdsMore_66 rfl (lv_at hl 3 rfl) ?_
    obtain ⟨h5_3, hf⟩ := gc_s hf
    refine g_iald (pc := 67) hC hU hH gk0_168 gn0_168 h5_3 dX3_holdsMore_67 ?_
    refine lv_icmp_eq (tgt := 75) (pc := 68) hx hb dX3_holdsMore_68 (by decide) (fun hc => ?_) (fun hc => ?_)
    · have hf := gif_p hc hf
      refine lv_iconst (v := 0) (pc := 75) hx hb dX3_holdsMore_75 (by decide) ?_
      exact bX3_holdsMore_76 hC hret hlk hU hr1 hf hH hS (lv_sub hl [1, 3, 0] rfl)
    · have hf := gif_n hc hf
      refine lv_iconst (v := 1) (pc := 71) hx hb dX3_holdsMore_71 (by decide) ?_
      refine lv_goto (tgt := 76) (pc := 72) hx hb dX3_holdsMore_72 (by decide) ?_
      exact bX3_holdsMore_76 hC hret hlk hU hr1 hf hH hS (lv_sub hl [1, 3, 0] rfl)
  · have hf := gif_n hc hf
    refine lv_iload_n (pc := 14) hx hb dX3_holdsMore_14 rfl (lv_at hl 3 rfl) ?_
    refine lv_iload (pc := 15) hx hb dX3_holdsMore_15 (lv_at hl 4 rfl) ?_
    refine lv_iload_n (pc := 17) hx hb dX3_holdsMore_17 rfl (lv_at hl 2 rfl) ?_
    refine lv_icmp_ne (tgt := 25) (pc := 18) hx hb dX3_holdsMore_18 (by decide) (fun hc => ?_) (fun hc => ?_)
    · have hf := gif_n hc hf
      refine lv_aload_n (pc := 25) hx hb dX3_holdsMore_25 rfl (lv_at hl 0 rfl) ?_
      refine g_get (pc := 26) (v := .ref (ad 168)) hC hU hH gk0_167 g_cl3 0 (by decide) kf_X3_9 rfl dX3_holdsMore_26 ?_
      refine lv_iload (pc := 29) hx hb dX3_holdsMore_29 (lv_at hl 4 rfl) ?_
      obtain ⟨h5_4, hf⟩ := gc_s hf
      refine g_iald (pc := 31) hC hU hH gk0_168 gn0_168 h5_4 dX3_holdsMore_31 ?_
      exact bX3_holdsMore_32 hC hret hlk hU hr1 hk5 hf hH hS (lv_sub hl [0, 1, 2, 4] rfl)
    · have hf := gif_p hc hf
      refine lv_iconst (v := 0) (pc := 21) hx hb dX3_holdsMore_21 (by decide) ?_
      refine lv_goto (tgt := 32) (pc := 22) hx hb dX3_holdsMore_22 (by decide) ?_
      exact bX3_holdsMore_32 hC hret hlk hU hr1 hk5 hf hH hS (lv_sub hl [0, 1, 2, 4] rfl)
def hX3_holdsMore_5 (r1 : Nat) (a2 : Int32)  : Nat → Int32 → Int32 → gS → Option (Int32 × gS)
  | 0 => fun _ _ _ => none
  | n + 1 => fun l3 l4 st => fX3_holdsMore_5 r1 a2 (hX3_holdsMore_5 r1 a2 n) l3 l4 st
set_option maxRecDepth 100000 in
set_option maxHeartbeats 4000000 in
theorem wX3_holdsMore_5 {r1 : Nat} {a2 : Int32} (hC : CallFix p m c cX3_holdsMore 6 s args lw_good RX3) (hret : meth.sig.returnType = (some .boolean)) (hlk : meth.locks = false) (hU : gU 0 D cA ad s) (hr1 : gK 0 r1 = 8) {r : Int32} {st' : gS}  : ∀ (n : Nat) {l3 : Int32} {l4 : Int32} {st : gS} {H : Heap} {locs : List Loc} {ls : Array Slot}, hX3_holdsMore_5 r1 a2 n l3 l4 st = some (r, st') → gP0 0 D cA ad st H → va_S (gA 0 ad) s.heap H locs → lv_has ls 6 [(0, .ref (ad 167)), (1, .ref (ad r1)), (2, .int a2), (3, .int l3), (4, .int l4)] → W p l e (gRm 2) s m args below meth c H locs 0 0 (MQ below (gQc 0 D cA ad st' (some (.int r))) args s 0 0 (gA 0 ad)) (F0 m 5 ls []) := by
  intro n
  induction n with
  | zero => intro l3 l4 st H locs ls hf hH hS hl; cases hf
  | succ n ih =>
    intro l3 l4 st H locs ls hf hH hS hl
    exact bX3_holdsMore_5 (r1 := r1) (a2 := a2) hC hret hlk hU hr1 (fun hf hH hS hl => ih hf hH hS hl) hf hH hS hl
def fX3_holdsMore (r1 : Nat) (a2 : Int32)   (st : gS) : Option (Int32 × gS) :=
  hX3_holdsMore_5 r1 a2 FU 0 0 st
set_option maxRecDepth 100000 in
set_option maxHeartbeats 4000000 in
theorem bX3_holdsMore_0 {r1 : Nat} {a2 : Int32} (hC : CallFix p m c cX3_holdsMore 6 s args lw_good RX3) (hret : meth.sig.returnType = (some .boolean)) (hlk : meth.locks = false) (hU : gU 0 D cA ad s) (hr1 : gK 0 r1 = 8) {r : Int32} {st' : gS}   {st : gS} {H : Heap} {locs : List Loc} {ls : Array Slot} (hf : fX3_holdsMore r1 a2 st = some (r, st')) (hH : gP0 0 D cA ad st H) (hS : va_S (gA 0 ad) s.heap H locs) (hl : lv_has ls 6 [(0, .ref (ad 167)), (1, .ref (ad r1)), (2, .int a2)]) : W p l e (gRm 2) s m args below meth c H locs 0 0 (MQ below (gQc 0 D cA ad st' (some (.int r))) args s 0 0 (gA 0 ad)) (F0 m 0 ls []) := by
  obtain ⟨hx, hb, hml, hown, hts⟩ := id hC
  unfold fX3_holdsMore at hf
  refine lv_iconst (v := 0) (pc := 0) hx hb dX3_holdsMore_0 (by decide) ?_
  refine lv_istore_n (lv' := [(3, .int 0), (0, .ref (ad 167)), (1, .ref (ad r1)), (2, .int a2)]) (pc := 1) hx hb dX3_holdsMore_1 rfl hl (by decide) rfl (fun ls hl => ?_)
  refine lv_iconst (v := 0) (pc := 2) hx hb dX3_holdsMore_2 (by decide) ?_
  refine lv_istore (lv' := [(4, .int 0), (3, .int 0), (0, .ref (ad 167)), (1, .ref (ad r1)), (2, .int a2)]) (pc := 3) hx hb dX3_holdsMore_3 hl (by decide) rfl (fun ls hl => ?_)
  exact wX3_holdsMore_5 hC hret hlk hU hr1 FU hf hH hS (lv_sub hl [2, 3, 4, 1, 0] rfl)
set_option maxRecDepth 100000 in
set_option maxHeartbeats 4000000 in
theorem mX3_holdsMore {l : Launch} {D : va_G} {cA : Nat → ClassId} {ad : Nat → Nat} {r1 : Nat} {a2 : Int32} (hr1 : gK 0 r1 = 8) {r : Int32} {st st' : gS} (hf : fX3_holdsMore r1 a2 st = some (r, st')) : gM l yX3_holdsMore cX3_holdsMore 6 (some .boolean) 2 0 D cA ad st [.ref (ad 167), .ref (ad r1), .int a2] (some (.int r)) st' := by
  refine g_met (by decide) (Nat.le_of_ble_eq_true rfl) ?_
  intro p e s m args below meth c ls hC hret hlk hU hH hl
  exact bX3_holdsMore_0 hC hret hlk hU hr1 hf hH va_S.rf hl
def fX3_heldByAny_4 (r1 : Nat) (k4 : Int32 → Int32 → gS → Option (Int32 × gS)) (l2 : Int32) (l3 : Int32) (st : gS) : Option (Int32 × gS) :=
  if (st.1 r1 13) ≤ l3 then (some (l2, st)) else (gc (gI l3 5) (gl (l2 ||| (st.1 168 l3.toNatClampNeg)) fun x20 => (k4 x20 (l3 + 1) st)))
set_option maxRecDepth 100000 in
set_option maxHeartbeats 4000000 in
theorem bX3_heldByAny_4 {r1 : Nat} (hC : CallFix p m c cX3_heldByAny 4 s args lw_good RX3) (hret : meth.sig.returnType = (some .int)) (hlk : meth.locks = false) (hU : gU 0 D cA ad s) (hr1 : gK 0 r1 = 8) {r : Int32} {st' : gS} {k4 : Int32 → Int32 → gS → Option (Int32 × gS)} (hk4 : ∀ {l2 : Int32} {l3 : Int32} {st : gS} {H : Heap} {locs : List Loc} {ls : Array Slot}, k4 l2 l3 st = some (r, st') → gP0 0 D cA ad st H → va_S (gA 0 ad) s.heap H locs → lv_has ls 4 [(0, .ref (ad 167)), (1, .ref (ad r1)), (2, .int l2), (3, .int l3)] → W p l e (gRm 1) s m args below meth c H locs 0 0 (MQ below (gQc 0 D cA ad st' (some (.int r))) args s 0 0 (gA 0 ad)) (F0 m 4 ls [])) {l2 : Int32} {l3 : Int32} {st : gS} {H : Heap} {locs : List Loc} {ls : Array Slot} (hf : fX3_heldByAny_4 r1 k4 l2 l3 st = some (r, st')) (hH : gP0 0 D cA ad st H) (hS : va_S (gA 0 ad) s.heap H locs) (hl : lv_has ls 4 [(0, .ref (ad 167)), (1, .ref (ad r1)), (2, .int l2), (3, .int l3)]) : W p l e (gRm 1) s m args below meth c H locs 0 0 (MQ below (gQc 0 D cA ad st' (some (.int r))) args s 0 0 (gA 0 ad)) (F0 m 4 ls []) := by
  obtain ⟨hx, hb, hml, hown, hts⟩ := id hC
  unfold fX3_heldByAny_4 at hf
  refine lv_iload_n (pc := 4) hx hb dX3_heldByAny_4 rfl (lv_at hl 3 rfl) ?_
  refine lv_aload_n (pc := 5) hx hb dX3_heldByAny_5 rfl (lv_at hl 1 rfl) ?_
  refine g_get (pc := 6) (v := .int (st.1 r1 13)) hC hU hH hr1 g_cl8 13 (by decide) kf_X3_37 rfl dX3_heldByAny_6 ?_
  refine lv_icmp_ge (tgt := 27) (pc := 9) hx hb dX3_heldByAny_9 (by decide) (fun hc => ?_) (fun hc => ?_)
  · have hf := gif_p hc hf
    refine lv_iload_n (pc := 27) hx hb dX3_heldByAny_27 rfl (lv_at hl 2 rfl) ?_
    exact g_iret (pc := 28) hC hret hlk hH hS hf dX3_heldByAny_28
  · have hf := gif_n hc hf
    refine lv_iload_n (pc := 12) hx hb dX3_heldByAny_12 rfl (lv_at hl 2 rfl) ?_
    refine lv_aload_n (pc := 13) hx hb dX3_heldByAny_13 rfl (lv_at hl 0 rfl) ?_
    refine g_get (pc := 14) (v := .ref (ad 168)) hC hU hH gk0_167 g_cl3 0 (by decide) kf_X3_9 rfl dX3_heldByAny_14 ?_
    refine lv_iload_n (pc := 17) hx hb dX3_heldByAny_17 rfl (lv_at hl 3 rfl) ?_
    obtain ⟨h4_1, hf⟩ := gc_s hf
    refine g_iald (pc := 18) hC hU hH gk0_168 gn0_168 h4_1 dX3_heldByAny_18 ?_
    refine lv_ior (pc := 19) hx hb dX3_heldByAny_19 ?_
    refine lv_topi (pc := 20) (fun x20 ex20 => ?_)
    have hf := gl_s ex20 hf
    refine lv_istore_n (lv' := [(2, .int x20), (0, .ref (ad 167)), (1, .ref (ad r1)), (3, .int l3)]) (pc := 20) hx hb dX3_heldByAny_20 rfl hl (by decide) rfl (fun ls hl => ?_)
    refine lv_iinc (v := l3 + 1) (lv' := [(3, .int (l3 + 1)), (2, .int x20), (0, .ref (ad 167)), (1, .ref (ad r1))]) (k := 3) (pc := 21) hx hb dX3_heldByAny_21 hl rfl rfl (by decide) rfl (fun ls hl => ?_)
    refine lv_goto (tgt := 4) (pc := 24) hx hb dX3_heldByAny_24 (by decide) ?_
    exact hk4 hf hH hS (lv_sub hl [2, 3, 1, 0] rfl)
def hX3_heldByAny_4 (r1 : Nat)  : Nat → Int32 → Int32 → gS → Option (Int32 × gS)
  | 0 => fun _ _ _ => none
  | n + 1 => fun l2 l3 st => fX3_heldByAny_4 r1 (hX3_heldByAny_4 r1 n) l2 l3 st
set_option maxRecDepth 100000 in
set_option maxHeartbeats 4000000 in
theorem wX3_heldByAny_4 {r1 : Nat} (hC : CallFix p m c cX3_heldByAny 4 s args lw_good RX3) (hret : meth.sig.returnType = (some .int)) (hlk : meth.locks = false) (hU : gU 0 D cA ad s) (hr1 : gK 0 r1 = 8) {r : Int32} {st' : gS}  : ∀ (n : Nat) {l2 : Int32} {l3 : Int32} {st : gS} {H : Heap} {locs : List Loc} {ls : Array Slot}, hX3_heldByAny_4 r1 n l2 l3 st = some (r, st') → gP0 0 D cA ad st H → va_S (gA 0 ad) s.heap H locs → lv_has ls 4 [(0, .ref (ad 167)), (1, .ref (ad r1)), (2, .int l2), (3, .int l3)] → W p l e (gRm 1) s m args below meth c H locs 0 0 (MQ below (gQc 0 D cA ad st' (some (.int r))) args s 0 0 (gA 0 ad)) (F0 m 4 ls []) := by
  intro n
  induction n with
  | zero => intro l2 l3 st H locs ls hf hH hS hl; cases hf
  | succ n ih =>
    intro l2 l3 st H locs ls hf hH hS hl
    exact bX3_heldByAny_4 (r1 := r1) hC hret hlk hU hr1 (fun hf hH hS hl => ih hf hH hS hl) hf hH hS hl
def fX3_heldByAny (r1 : Nat)   (st : gS) : Option (Int32 × gS) :=
  hX3_heldByAny_4 r1 FU 0 0 st
set_option maxRecDepth 100000 in
set_option maxHeartbeats 4000000 in
theorem bX3_heldByAny_0 {r1 : Nat} (hC : CallFix p m c cX3_heldByAny 4 s args lw_good RX3) (hret : meth.sig.returnType = (some .int)) (hlk : meth.locks = false) (hU : gU 0 D cA ad s) (hr1 : gK 0 r1 = 8) {r : Int32} {st' : gS}   {st : gS} {H : Heap} {locs : List Loc} {ls : Array Slot} (hf : fX3_heldByAny r1 st = some (r, st')) (hH : gP0 0 D cA ad st H) (hS : va_S (gA 0 ad) s.heap H locs) (hl : lv_has ls 4 [(0, .ref (ad 167)), (1, .ref (ad r1))]) : W p l e (gRm 1) s m args below meth c H locs 0 0 (MQ below (gQc 0 D cA ad st' (some (.int r))) args s 0 0 (gA 0 ad)) (F0 m 0 ls []) := by
  obtain ⟨hx, hb, hml, hown, hts⟩ := id hC
  unfold fX3_heldByAny at hf
  refine lv_iconst (v := 0) (pc := 0) hx hb dX3_heldByAny_0 (by decide) ?_
  refine lv_istore_n (lv' := [(2, .int 0), (0, .ref (ad 167)), (1, .ref (ad r1))]) (pc := 1) hx hb dX3_heldByAny_1 rfl hl (by decide) rfl (fun ls hl => ?_)
  refine lv_iconst (v := 0) (pc := 2) hx hb dX3_heldByAny_2 (by decide) ?_
  refine lv_istore_n (lv' := [(3, .int 0), (2, .int 0), (0, .ref (ad 167)), (1, .ref (ad r1))]) (pc := 3) hx hb dX3_heldByAny_3 rfl hl (by decide) rfl (fun ls hl => ?_)
  exact wX3_heldByAny_4 hC hret hlk hU hr1 FU hf hH hS (lv_sub hl [2, 3, 1, 0] rfl)
set_option maxRecDepth 100000 in
set_option maxHeartbeats 4000000 in
theorem mX3_heldByAny {l : Launch} {D : va_G} {cA : Nat → ClassId} {ad : Nat → Nat} {r1 : Nat} (hr1 : gK 0 r1 = 8) {r : Int32} {st st' : gS} (hf : fX3_heldByAny r1 st = some (r, st')) : gM l yX3_heldByAny cX3_heldByAny 4 (some .int) 1 0 D cA ad st [.ref (ad 167), .ref (ad r1)] (some (.int r)) st' := by
  refine g_met (by decide) (Nat.le_of_ble_eq_true rfl) ?_
  intro p e s m args below meth c ls hC hret hlk hU hH hl
  exact bX3_heldByAny_0 hC hret hlk hU hr1 hf hH va_S.rf hl
end
