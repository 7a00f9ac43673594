section
variable {p : Program} {l : Launch} {e : Env} {s : State} {m : MethodId} {args : Array Value} {below : List Frame} {meth : Method} {c : Code} {D : va_G} {cA : Nat → ClassId} {ad : Nat → Nat}
def fX11_slip (a1 : Int32) (a2 : Int32)   (st : gS) : Option (Int32 × gS) :=
  (fX11_isTribe a1 st).bind fun q0_1 => (if q0_1.1 = 0 then (some ((-1), q0_1.2)) else ((fX11_isMove a2 q0_1.2).bind fun q0_2 => (if q0_2.1 = 0 then (some ((-1), q0_2.2)) else ((fX11_slipOf a1 a2 q0_2.2).bind fun q0_3 => (some (q0_3.1, q0_3.2))))))
set_option maxRecDepth 100000 in
set_option maxHeartbeats 4000000 in
theorem bX11_slip_0 {a1 : Int32} {a2 : Int32} (hC : CallFix p m c cX11_slip 3 s args lw_good RX11) (hret : meth.sig.returnType = (some .int)) (hlk : meth.locks = false) (hU : gU 1 D cA ad s)  {r : Int32} {st' : gS}   {st : gS} {H : Heap} {locs : List Loc} {ls : Array Slot} (hf : fX11_slip a1 a2 st = some (r, st')) (hH : gP0 1 D cA ad st H) (hS : va_S (gA 1 ad) s.heap H locs) (hl : lv_has ls 3 [(0, .ref (ad 0)), (1, .int a1), (2, .int a2)]) : W p l e (gRm 5) s m args below meth c H locs 0 0 (MQ below (gQc 1 D cA ad st' (some (.int r))) args s 0 0 (gA 1 ad)) (F0 m 0 ls []) := by
  obtain ⟨hx, hb, hml, hown, hts⟩ := id hC
  unfold fX11_slip at hf
  refine lv_aload_n (pc := 0) hx hb dX11_slip_0 rfl (lv_at hl 0 rfl) ?_
  refine lv_iload_n (pc := 1) hx hb dX11_slip_1 rfl (lv_at hl 1 rfl) ?_
  obtain ⟨q0_1, hq0_1, hf⟩ := gbd hf
  refine g_callVi (pc := 2) (rest := []) hC hU hH hS hl.1 gk1_0 rfl (by decide) (mX11_isTribe  hq0_1) ky_X11_isTribe km_X11_431 ⟨Nat.le_of_ble_eq_true rfl, Nat.le_of_ble_eq_true rfl⟩ ⟨Nat.zero_le _, Nat.zero_le _⟩ rfl (Nat.le_of_ble_eq_true rfl) dX11_slip_2 rfl (fun H locs hH hS => ?_)
  refine lv_if_eq (tgt := 25) (pc := 5) hx hb dX11_slip_5 (by decide) (fun hc => ?_) (fun hc => ?_)
  · have hf := gif_p hc hf
    refine lv_iconst (v := (-1)) (pc := 25) hx hb dX11_slip_25 (by decide) ?_
    exact g_iret (pc := 26) hC hret hlk hH hS hf dX11_slip_26
  · have hf := gif_n hc hf
    refine lv_aload_n (pc := 8) hx hb dX11_slip_8 rfl (lv_at hl 0 rfl) ?_
    refine lv_iload_n (pc := 9) hx hb dX11_slip_9 rfl (lv_at hl 2 rfl) ?_
    obtain ⟨q0_2, hq0_2, hf⟩ := gbd hf
    refine g_callVi (pc := 10) (rest := []) hC hU hH hS hl.1 gk1_0 rfl (by decide) (mX11_isMove  hq0_2) ky_X11_isMove km_X11_437 ⟨Nat.le_of_ble_eq_true rfl, Nat.le_of_ble_eq_true rfl⟩ ⟨Nat.zero_le _, Nat.zero_le _⟩ rfl (Nat.le_of_ble_eq_true rfl) dX11_slip_10 rfl (fun H locs hH hS => ?_)
    refine lv_if_eq (tgt := 25) (pc := 13) hx hb dX11_slip_13 (by decide) (fun hc => ?_) (fun hc => ?_)
    · have hf := gif_p hc hf
      refine lv_iconst (v := (-1)) (pc := 25) hx hb dX11_slip_25 (by decide) ?_
      exact g_iret (pc := 26) hC hret hlk hH hS hf dX11_slip_26
    · have hf := gif_n hc hf
      refine lv_aload_n (pc := 16) hx hb dX11_slip_16 rfl (lv_at hl 0 rfl) ?_
      refine lv_iload_n (pc := 17) hx hb dX11_slip_17 rfl (lv_at hl 1 rfl) ?_
      refine lv_iload_n (pc := 18) hx hb dX11_slip_18 rfl (lv_at hl 2 rfl) ?_
      obtain ⟨q0_3, hq0_3, hf⟩ := gbd hf
      refine g_callVi (pc := 19) (rest := []) hC hU hH hS hl.1 gk1_0 rfl (by decide) (mX11_slipOf  hq0_3) ky_X11_slipOf km_X11_449 ⟨Nat.le_of_ble_eq_true rfl, Nat.le_of_ble_eq_true rfl⟩ ⟨Nat.zero_le _, Nat.zero_le _⟩ rfl (Nat.le_of_ble_eq_true rfl) dX11_slip_19 rfl (fun H locs hH hS => ?_)
      refine lv_goto (tgt := 26) (pc := 22) hx hb dX11_slip_22 (by decide) ?_
      exact g_iret (pc := 26) hC hret hlk hH hS hf dX11_slip_26
set_option maxRecDepth 100000 in
set_option maxHeartbeats 4000000 in
theorem mX11_slip {l : Launch} {D : va_G} {cA : Nat → ClassId} {ad : Nat → Nat} {a1 : Int32} {a2 : Int32}  {r : Int32} {st st' : gS} (hf : fX11_slip a1 a2 st = some (r, st')) : gM l yX11_slip cX11_slip 3 (some .int) 5 1 D cA ad st [.ref (ad 0), .int a1, .int a2] (some (.int r)) st' := by
  refine g_met (by decide) (Nat.le_of_ble_eq_true rfl) ?_
  intro p e s m args below meth c ls hC hret hlk hU hH hl
  exact bX11_slip_0 hC hret hlk hU hf hH va_S.rf hl
def fX11_act_51  (k51 : Int32 → gS → Option (gS)) (l1 : Int32) (st : gS) : Option (gS) :=
  if 18 ≤ l1 then (some (wi (wi st 0 58 ((st.1 0 58) + 1)) 0 59 0)) else (gc (gI l1 18) (gc (gI ((18 * (st.1 0 58)) + l1) 720) (k51 (l1 + 1) (wi st 30 ((18 * (st.1 0 58)) + l1).toNatClampNeg (st.1 28 l1.toNatClampNeg)))))
set_option maxRecDepth 100000 in
set_option maxHeartbeats 4000000 in
theorem bX11_act_51  (hC : CallFix p m c cX11_act 2 s args lw_good RX11) (hret : meth.sig.returnType = none) (hlk : meth.locks = false) (hU : gU 1 D cA ad s)  {st' : gS} {k51 : Int32 → gS → Option (gS)} (hk51 : ∀ {l1 : Int32} {st : gS} {H : Heap} {locs : List Loc} {ls : Array Slot}, k51 l1 st = some st' → gP0 1 D cA ad st H → va_S (gA 1 ad) s.heap H locs → lv_has ls 2 [(0, .ref (ad 0)), (1, .int l1)] → W p l e (gRm 1) s m args below meth c H locs 0 0 (MQ below (gQc 1 D cA ad st' none) args s 0 0 (gA 1 ad)) (F0 m 51 ls [])) {l1 : Int32} {st : gS} {H : Heap} {locs : List Loc} {ls : Array Slot} (hf : fX11_act_51 k51 l1 st = some st') (hH : gP0 1 D cA ad st H) (hS : va_S (gA 1 ad) s.heap H locs) (hl : lv_has ls 2 [(0, .ref (ad 0)), (1, .int l1)]) : W p l e (gRm 1) s m args below meth c H locs 0 0 (MQ below (gQc 1 D cA ad st' none) args s 0 0 (gA 1 ad)) (F0 m 51 ls []) := by
  obtain ⟨hx, hb, hml, hown, hts⟩ := id hC
  unfold fX11_act_51 at hf
  refine lv_iload_n (pc := 51) hx hb dX11_act_51 rfl (lv_at hl 1 rfl) ?_
  refine lv_bipush (v := 18) (pc := 52) hx hb dX11_act_52 (by decide) ?_
  refine lv_icmp_ge (tgt := 83) (pc := 54) hx hb dX11_act_54 (by decide) (fun hc => ?_) (fun hc => ?_)
  · have hf := gif_p hc hf
    refine lv_aload_n (pc := 83) hx hb dX11_act_83 rfl (lv_at hl 0 rfl) ?_
    refine lv_dup (pc := 84) hx hb dX11_act_84 rfl ?_
    refine g_get (pc := 85) (v := .int (st.1 0 58)) hC hU hH gk1_0 g_cl11 58 (by decide) kf_X11_404 rfl dX11_act_85 ?_
    refine lv_iconst (v := 1) (pc := 88) hx hb dX11_act_88 (by decide) ?_
    refine lv_iadd (pc := 89) hx hb dX11_act_89 ?_
    refine g_puti (pc := 90) hC hU hH hS gk1_0 g_cl11 58 (by decide) kf_X11_404 rfl rfl rfl rfl dX11_act_90 (fun H locs hH hS => ?_)
    refine lv_aload_n (pc := 93) hx hb dX11_act_93 rfl (lv_at hl 0 rfl) ?_
    refine lv_iconst (v := 0) (pc := 94) hx hb dX11_act_94 (by decide) ?_
    refine g_puti (pc := 95) hC hU hH hS gk1_0 g_cl11 59 (by decide) kf_X11_407 rfl rfl rfl rfl dX11_act_95 (fun H locs hH hS => ?_)
    exact g_vret (pc := 98) hC hret hlk hH hS hf dX11_act_98
  · have hf := gif_n hc hf
    refine lv_aload_n (pc := 57) hx hb dX11_act_57 rfl (lv_at hl 0 rfl) ?_
    refine g_get (pc := 58) (v := .ref (ad 30)) hC hU hH gk1_0 g_cl11 57 (by decide) kf_X11_106 rfl dX11_act_58 ?_
    refine lv_bipush (v := 18) (pc := 61) hx hb dX11_act_61 (by decide) ?_
    refine lv_aload_n (pc := 63) hx hb dX11_act_63 rfl (lv_at hl 0 rfl) ?_
    refine g_get (pc := 64) (v := .int (st.1 0 58)) hC hU hH gk1_0 g_cl11 58 (by decide) kf_X11_404 rfl dX11_act_64 ?_
    refine lv_imul (pc := 67) hx hb dX11_act_67 ?_
    refine lv_iload_n (pc := 68) hx hb dX11_act_68 rfl (lv_at hl 1 rfl) ?_
    refine lv_iadd (pc := 69) hx hb dX11_act_69 ?_
    refine lv_aload_n (pc := 70) hx hb dX11_act_70 rfl (lv_at hl 0 rfl) ?_
    refine g_get (pc := 71) (v := .ref (ad 28)) hC hU hH gk1_0 g_cl11 55 (by decide) kf_X11_100 rfl dX11_act_71 ?_
    refine lv_iload_n (pc := 74) hx hb dX11_act_74 rfl (lv_at hl 1 rfl) ?_
    obtain ⟨h51_1, hf⟩ := gc_s hf
    refine g_iald (pc := 75) hC hU hH gk1_28 gn1_28 h51_1 dX11_act_75 ?_
    obtain ⟨h51_2, hf⟩ := gc_s hf
    refine g_iast (pc := 76) hC hU hH hS gk1_30 gn1_30 h51_2 dX11_act_76 (fun H locs hH hS => ?_)
    refine lv_iinc (v := l1 + 1) (lv' := [(1, .int (l1 + 1)), (0, .ref (ad 0))]) (k := 1) (pc := 77) hx hb dX11_act_77 hl rfl rfl (by decide) rfl (fun ls hl => ?_)
    refine lv_goto (tgt := 51) (pc := 80) hx hb dX11_act_80 (by decide) ?_
    exact hk51 hf hH hS (lv_sub hl [1, 0] rfl)
def hX11_act_51   : Nat → Int32 → gS → Option (gS)
  | 0 => fun _ _ => none
  | n + 1 => fun l1 st => fX11_act_51 (hX11_act_51  n) l1 st
set_option maxRecDepth 100000 in
set_option maxHeartbeats 4000000 in
theorem wX11_act_51  (hC : CallFix p m c cX11_act 2 s args lw_good RX11) (hret : meth.sig.returnType = none) (hlk : meth.locks = false) (hU : gU 1 D cA ad s)  {st' : gS}  : ∀ (n : Nat) {l1 : Int32} {st : gS} {H : Heap} {locs : List Loc} {ls : Array Slot}, hX11_act_51  n l1 st = some st' → gP0 1 D cA ad st H → va_S (gA 1 ad) s.heap H locs → lv_has ls 2 [(0, .ref (ad 0)), (1, .int l1)] → W p l e (gRm 1) s m args below meth c H locs 0 0 (MQ below (gQc 1 D cA ad st' none) args s 0 0 (gA 1 ad)) (F0 m 51 ls []) := by
  intro n
  induction n with
  | zero => intro l1 st H locs ls hf hH hS hl; cases hf
  | succ n ih =>
    intro l1 st H locs ls hf hH hS hl
    exact bX11_act_51  hC hret hlk hU (fun hf hH hS hl => ih hf hH hS hl) hf hH hS hl
def fX11_act_11  (k11 : Int32 → gS → Option (gS)) (l1 : Int32) (st : gS) : Option (gS) :=
  if 702 ≤ l1 then (hX11_act_51 FU 0 (wi st 0 58 ((st.1 0 58) - 1))) else (gc (gI (18 + l1) 720) (gc (gI l1 720) (k11 (l1 + 1) (wi st 30 l1.toNatClampNeg (st.1 30 (18 + l1).toNatClampNeg)))))
set_option maxRecDepth 100000 in
set_option maxHeartbeats 4000000 in
theorem bX11_act_11  (hC : CallFix p m c cX11_act 2 s args lw_good RX11) (hret : meth.sig.returnType = none) (hlk : meth.locks = false) (hU : gU 1 D cA ad s)  {st' : gS} {k11 : Int32 → gS → Option (gS)} (hk11 : ∀ {l1 : Int32} {st : gS} {H : Heap} {locs : List Loc} {ls : Array Slot}, k11 l1 st = some st' → gP0 1 D cA ad st H → va_S (gA 1 ad) s.heap H locs → lv_has ls 2 [(0, .ref (ad 0)), (1, .int l1)] → W p l e (gRm 1) s m args below meth c H locs 0 0 (MQ below (gQc 1 D cA ad st' none) args s 0 0 (gA 1 ad)) (F0 m 11 ls [])) {l1 : Int32} {st : gS} {H : Heap} {locs : List Loc} {ls : Array Slot} (hf : fX11_act_11 k11 l1 st = some st') (hH : gP0 1 D cA ad st H) (hS : va_S (gA 1 ad) s.heap H locs) (hl : lv_has ls 2 [(0, .ref (ad 0)), (1, .int l1)]) : W p l e (gRm 1) s m args below meth c H locs 0 0 (MQ below (gQc 1 D cA ad st' none) args s 0 0 (gA 1 ad)) (F0 m 11 ls []) := by
  obtain ⟨hx, hb, hml, hown, hts⟩ := id hC
  unfold fX11_act_11 at hf
  refine lv_iload_n (pc := 11) hx hb dX11_act_11 rfl (lv_at hl 1 rfl) ?_
  refine lv_sipush (v := 702) (pc := 12) hx hb dX11_act_12 (by decide) ?_
  refine lv_icmp_ge (tgt := 39) (pc := 15) hx hb dX11_act_15 (by decide) (fun hc => ?_) (fun hc => ?_)
  · have hf := gif_p hc hf
    refine lv_aload_n (pc := 39) hx hb dX11_act_39 rfl (lv_at hl 0 rfl) ?_
    refine lv_dup (pc := 40) hx hb dX11_act_40 rfl ?_
    refine g_get (pc := 41) (v := .int (st.1 0 58)) hC hU hH gk1_0 g_cl11 58 (by decide) kf_X11_404 rfl dX11_act_41 ?_
    refine lv_iconst (v := 1) (pc := 44) hx hb dX11_act_44 (by decide) ?_
    refine lv_isub (pc := 45) hx hb dX11_act_45 ?_
    refine g_puti (pc := 46) hC hU hH hS gk1_0 g_cl11 58 (by decide) kf_X11_404 rfl rfl rfl rfl dX11_act_46 (fun H locs hH hS => ?_)
    refine lv_iconst (v := 0) (pc := 49) hx hb dX11_act_49 (by decide) ?_
    refine lv_istore_n (lv' := [(1, .int 0), (0, .ref (ad 0))]) (pc := 50) hx hb dX11_act_50 rfl hl (by decide) rfl (fun ls hl => ?_)
    exact wX11_act_51 hC hret hlk hU FU hf hH hS (lv_sub hl [1, 0] rfl)
  · have hf := gif_n hc hf
    refine lv_aload_n (pc := 18) hx hb dX11_act_18 rfl (lv_at hl 0 rfl) ?_
    refine g_get (pc := 19) (v := .ref (ad 30)) hC hU hH gk1_0 g_cl11 57 (by decide) kf_X11_106 rfl dX11_act_19 ?_
    refine lv_iload_n (pc := 22) hx hb dX11_act_22 rfl (lv_at hl 1 rfl) ?_
    refine lv_aload_n (pc := 23) hx hb dX11_act_23 rfl (lv_at hl 0 rfl) ?_
    refine g_get (pc := 24) (v := .ref (ad 30)) hC hU hH gk1_0 g_cl11 57 (by decide) kf_X11_106 rfl dX11_act_24 ?_
    refine lv_bipush (v := 18) (pc := 27) hx hb dX11_act_27 (by decide) ?_
    refine lv_iload_n (pc := 29) hx hb dX11_act_29 rfl (lv_at hl 1 rfl) ?_
    refine lv_iadd (pc := 30) hx hb dX11_act_30 ?_
    obtain ⟨h11_1, hf⟩ := gc_s hf
    refine g_iald (pc := 31) hC hU hH gk1_30 gn1_30 h11_1 dX11_act_31 ?_
    obtain ⟨h11_2, hf⟩ := gc_s hf
    refine g_iast (pc := 32) hC hU hH hS gk1_30 gn1_30 h11_2 dX11_act_32 (fun H locs hH hS => ?_)
    refine lv_iinc (v := l1 + 1) (lv' := [(1, .int (l1 + 1)), (0, .ref (ad 0))]) (k := 1) (pc := 33) hx hb dX11_act_33 hl rfl rfl (by decide) rfl (fun ls hl => ?_)
    refine lv_goto (tgt := 11) (pc := 36) hx hb dX11_act_36 (by decide) ?_
    exact hk11 hf hH hS (lv_sub hl [1, 0] rfl)
def hX11_act_11   : Nat → Int32 → gS → Option (gS)
  | 0 => fun _ _ => none
  | n + 1 => fun l1 st => fX11_act_11 (hX11_act_11  n) l1 st
set_option maxRecDepth 100000 in
set_option maxHeartbeats 4000000 in
theorem wX11_act_11  (hC : CallFix p m c cX11_act 2 s args lw_good RX11) (hret : meth.sig.returnType = none) (hlk : meth.locks = false) (hU : gU 1 D cA ad s)  {st' : gS}  : ∀ (n : Nat) {l1 : Int32} {st : gS} {H : Heap} {locs : List Loc} {ls : Array Slot}, hX11_act_11  n l1 st = some st' → gP0 1 D cA ad st H → va_S (gA 1 ad) s.heap H locs → lv_has ls 2 [(0, .ref (ad 0)), (1, .int l1)] → W p l e (gRm 1) s m args below meth c H locs 0 0 (MQ below (gQc 1 D cA ad st' none) args s 0 0 (gA 1 ad)) (F0 m 11 ls []) := by
  intro n
  induction n with
  | zero => intro l1 st H locs ls hf hH hS hl; cases hf
  | succ n ih =>
    intro l1 st H locs ls hf hH hS hl
    exact bX11_act_11  hC hret hlk hU (fun hf hH hS hl => ih hf hH hS hl) hf hH hS hl
def fX11_act    (st : gS) : Option (gS) :=
  if (st.1 0 58) = 40 then (hX11_act_11 FU 0 st) else (hX11_act_51 FU 0 st)
set_option maxRecDepth 100000 in
set_option maxHeartbeats 4000000 in
theorem bX11_act_0  (hC : CallFix p m c cX11_act 2 s args lw_good RX11) (hret : meth.sig.returnType = none) (hlk : meth.locks = false) (hU : gU 1 D cA ad s)  {st' : gS}   {st : gS} {H : Heap} {locs : List Loc} {ls : Array Slot} (hf : fX11_act st = some st') (hH : gP0 1 D cA ad st H) (hS : va_S (gA 1 ad) s.heap H locs) (hl : lv_has ls 2 [(0, .ref (ad 0))]) : W p l e (gRm 1) s m args below meth c H locs 0 0 (MQ below (gQc 1 D cA ad st' none) args s 0 0 (gA 1 ad)) (F0 m 0 ls []) := by
  obtain ⟨hx, hb, hml, hown, hts⟩ := id hC
  unfold fX11_act at hf
  refine lv_aload_n (pc := 0) hx hb dX11_act_0 rfl (lv_at hl 0 rfl) ?_
  refine g_get (pc := 1) (v := .int (st.1 0 58)) hC hU hH gk1_0 g_cl11 58 (by decide) kf_X11_404 rfl dX11_act_1 ?_
  refine lv_bipush (v := 40) (pc := 4) hx hb dX11_act_4 (by decide) ?_
  refine lv_icmp_ne (tgt := 49) (pc := 6) hx hb dX11_act_6 (by decide) (fun hc => ?_) (fun hc => ?_)
  · have hf := gif_n hc hf
    refine lv_iconst (v := 0) (pc := 49) hx hb dX11_act_49 (by decide) ?_
    refine lv_istore_n (lv' := [(1, .int 0), (0, .ref (ad 0))]) (pc := 50) hx hb dX11_act_50 rfl hl (by decide) rfl (fun ls hl => ?_)
    exact wX11_act_51 hC hret hlk hU FU hf hH hS (lv_sub hl [1, 0] rfl)
  · have hf := gif_p hc hf
    refine lv_iconst (v := 0) (pc := 9) hx hb dX11_act_9 (by decide) ?_
    refine lv_istore_n (lv' := [(1, .int 0), (0, .ref (ad 0))]) (pc := 10) hx hb dX11_act_10 rfl hl (by decide) rfl (fun ls hl => ?_)
    exact wX11_act_11 hC hret hlk hU FU hf hH hS (lv_sub hl [1, 0] rfl)
set_option maxRecDepth 100000 in
set_option maxHeartbeats 4000000 in
theorem mX11_act {l : Launch} {D : va_G} {cA : Nat → ClassId} {ad : Nat → Nat}   {st st' : gS} (hf : fX11_act  st = some st') : gM l yX11_act cX11_act 2 none 1 1 D cA ad st [.ref (ad 0)] none st' := by
  refine g_met (by decide) (Nat.le_of_ble_eq_true rfl) ?_
  intro p e s m args below meth c ls hC hret hlk hU hH hl
  exact bX11_act_0 hC hret hlk hU hf hH va_S.rf hl
def fX11_take_185 (a1 : Int32) (a2 : Int32)   (st : gS) : Option (Int32 × gS) :=
  gc (gI 1 18) (gc (gI 0 18) (some ((wi st 28 (1 : Int32).toNatClampNeg a1).1 28 (0 : Int32).toNatClampNeg, wi st 28 (1 : Int32).toNatClampNeg a1)))
set_option maxRecDepth 100000 in
set_option maxHeartbeats 4000000 in
theorem bX11_take_185 {a1 : Int32} {a2 : Int32} (hC : CallFix p m c cX11_take 4 s args lw_good RX11) (hret : meth.sig.returnType = (some .int)) (hlk : meth.locks = false) (hU : gU 1 D cA ad s)  {r : Int32} {st' : gS}   {st : gS} {H : Heap} {locs : List Loc} {ls : Array Slot} (hf : fX11_take_185 a1 a2 st = some (r, st')) (hH : gP0 1 D cA ad st H) (hS : va_S (gA 1 ad) s.heap H locs) (hl : lv_has ls 4 [(0, .ref (ad 0)), (1, .int a1)]) : W p l e (gRm 5) s m args below meth c H locs 0 0 (MQ below (gQc 1 D cA ad st' (some (.int r))) args s 0 0 (gA 1 ad)) (F0 m 185 ls []) := by
  obtain ⟨hx, hb, hml, hown, hts⟩ := id hC
  unfold fX11_take_185 at hf
  refine lv_aload_n (pc := 185) hx hb dX11_take_185 rfl (lv_at hl 0 rfl) ?_
  refine g_get (pc := 186) (v := .ref (ad 28)) hC hU hH gk1_0 g_cl11 55 (by decide) kf_X11_100 rfl dX11_take_186 ?_
  refine lv_iconst (v := 1) (pc := 189) hx hb dX11_take_189 (by decide) ?_
  refine lv_iload_n (pc := 190) hx hb dX11_take_190 rfl (lv_at hl 1 rfl) ?_
  obtain ⟨h185_1, hf⟩ := gc_s hf
  refine g_iast (pc := 191) hC hU hH hS gk1_28 gn1_28 h185_1 dX11_take_191 (fun H locs hH hS => ?_)
  refine lv_aload_n (pc := 192) hx hb dX11_take_192 rfl (lv_at hl 0 rfl) ?_
  refine g_get (pc := 193) (v := .ref (ad 28)) hC hU hH gk1_0 g_cl11 55 (by decide) kf_X11_100 rfl dX11_take_193 ?_
  refine lv_iconst (v := 0) (pc := 196) hx hb dX11_take_196 (by decide) ?_
  obtain ⟨h185_2, hf⟩ := gc_s hf
  refine g_iald (pc := 197) hC hU hH gk1_28 gn1_28 h185_2 dX11_take_197 ?_
  exact g_iret (pc := 198) hC hret hlk hH hS hf dX11_take_198
def fX11_take_105 (a1 : Int32) (a2 : Int32)  (s0 : Int32) (st : gS) : Option (Int32 × gS) :=
  if s0 = 0 then (gc (gI a2 16) (gc (gI 0 18) (fX11_take_185 a1 a2 (wi st 28 (0 : Int32).toNatClampNeg (st.1 22 a2.toNatClampNeg))))) else (gc (gI a2 16) (if (st.1 25 a2.toNatClampNeg) < 0 then (gc (gI 0 18) (gc (gI 2 18) (gc (gI 15 18) (gc (gI 15 18) (fX11_take_185 a1 a2 (wi (wi (wi st 28 (0 : Int32).toNatClampNeg 0) 28 (2 : Int32).toNatClampNeg 0) 28 (15 : Int32).toNatClampNeg (((wi (wi st 28 (0 : Int32).toNatClampNeg 0) 28 (2 : Int32).toNatClampNeg 0).1 28 (15 : Int32).toNatClampNeg) + 1))))))) else (gc (gI a2 16) (gc (gI 0 18) (gc (gI 14 18) (gc (gI 14 18) (fX11_take_185 a1 a2 (wi (wi st 28 (0 : Int32).toNatClampNeg (st.1 25 a2.toNatClampNeg)) 28 (14 : Int32).toNatClampNeg (((wi st 28 (0 : Int32).toNatClampNeg (st.1 25 a2.toNatClampNeg)).1 28 (14 : Int32).toNatClampNeg) + 1)))))))))
set_option maxRecDepth 100000 in
set_option maxHeartbeats 4000000 in
theorem bX11_take_105 {a1 : Int32} {a2 : Int32} (hC : CallFix p m c cX11_take 4 s args lw_good RX11) (hret : meth.sig.returnType = (some .int)) (hlk : meth.locks = false) (hU : gU 1 D cA ad s)  {r : Int32} {st' : gS}  {s0 : Int32} {st : gS} {H : Heap} {locs : List Loc} {ls : Array Slot} (hf : fX11_take_105 a1 a2 s0 st = some (r, st')) (hH : gP0 1 D cA ad st H) (hS : va_S (gA 1 ad) s.heap H locs) (hl : lv_has ls 4 [(0, .ref (ad 0)), (1, .int a1), (2, .int a2)]) : W p l e (gRm 5) s m args below meth c H locs 0 0 (MQ below (gQc 1 D cA ad st' (some (.int r))) args s 0 0 (gA 1 ad)) (F0 m 105 ls [.int s0]) := by
  obtain ⟨hx, hb, hml, hown, hts⟩ := id hC
  unfold fX11_take_105 at hf
  refine lv_istore_n (lv' := [(3, .int s0), (0, .ref (ad 0)), (1, .int a1), (2, .int a2)]) (pc := 105) hx hb dX11_take_105 rfl hl (by decide) rfl (fun ls hl => ?_)
  refine lv_iload_n (pc := 106) hx hb dX11_take_106 rfl (lv_at hl 0 rfl) ?_
  refine lv_if_ne (tgt := 125) (pc := 107) hx hb dX11_take_107 (by decide) (fun hc => ?_) (fun hc => ?_)
  · have hf := gif_n hc hf
    refine lv_aload_n (pc := 125) hx hb dX11_take_125 rfl (lv_at hl 1 rfl) ?_
    refine g_get (pc := 126) (v := .ref (ad 25)) hC hU hH gk1_0 g_cl11 40 (by decide) kf_X11_87 rfl dX11_take_126 ?_
    refine lv_iload_n (pc := 129) hx hb dX11_take_129 rfl (lv_at hl 3 rfl) ?_
    obtain ⟨h105_1, hf⟩ := gc_s hf
    refine g_iald (pc := 130) hC hU hH gk1_25 gn1_25 h105_1 dX11_take_130 ?_
    refine lv_if_lt (tgt := 160) (pc := 131) hx hb dX11_take_131 (by decide) (fun hc => ?_) (fun hc => ?_)
    · have hf := gif_p hc hf
      refine lv_aload_n (pc := 160) hx hb dX11_take_160 rfl (lv_at hl 1 rfl) ?_
      refine g_get (pc := 161) (v := .ref (ad 28)) hC hU hH gk1_0 g_cl11 55 (by decide) kf_X11_100 rfl dX11_take_161 ?_
      refine lv_iconst (v := 0) (pc := 164) hx hb dX11_take_164 (by decide) ?_
      refine lv_iconst (v := 0) (pc := 165) hx hb dX11_take_165 (by decide) ?_
      obtain ⟨h105_2, hf⟩ := gc_s hf
      refine g_iast (pc := 166) hC hU hH hS gk1_28 gn1_28 h105_2 dX11_take_166 (fun H locs hH hS => ?_)
      refine lv_aload_n (pc := 167) hx hb dX11_take_167 rfl (lv_at hl 1 rfl) ?_
      refine g_get (pc := 168) (v := .ref (ad 28)) hC hU hH gk1_0 g_cl11 55 (by decide) kf_X11_100 rfl dX11_take_168 ?_
      refine lv_iconst (v := 2) (pc := 171) hx hb dX11_take_171 (by decide) ?_
      refine lv_iconst (v := 0) (pc := 172) hx hb dX11_take_172 (by decide) ?_
      obtain ⟨h105_3, hf⟩ := gc_s hf
      refine g_iast (pc := 173) hC hU hH hS gk1_28 gn1_28 h105_3 dX11_take_173 (fun H locs hH hS => ?_)
      refine lv_aload_n (pc := 174) hx hb dX11_take_174 rfl (lv_at hl 1 rfl) ?_
      refine g_get (pc := 175) (v := .ref (ad 28)) hC hU hH gk1_0 g_cl11 55 (by decide) kf_X11_100 rfl dX11_take_175 ?_
      refine lv_bipush (v := 15) (pc := 178) hx hb dX11_take_178 (by decide) ?_
      refine lv_dup2_11 (pc := 180) hx hb dX11_take_180 rfl rfl ?_
      obtain ⟨h105_4, hf⟩ := gc_s hf
      refine g_iald (pc := 181) hC hU hH gk1_28 gn1_28 h105_4 dX11_take_181 ?_
      refine lv_iconst (v := 1) (pc := 182) hx hb dX11_take_182 (by decide) ?_
      refine lv_iadd (pc := 183) hx hb dX11_take_183 ?_
      obtain ⟨h105_5, hf⟩ := gc_s hf
      refine g_iast (pc := 184) hC hU hH hS gk1_28 gn1_28 h105_5 dX11_take_184 (fun H locs hH hS => ?_)
      exact bX11_take_185 hC hret hlk hU hf hH hS (lv_sub hl [1, 2] rfl)
    · have hf := gif_n hc hf
      refine lv_aload_n (pc := 134) hx hb dX11_take_134 rfl (lv_at hl 1 rfl) ?_
      refine g_get (pc := 135) (v := .ref (ad 28)) hC hU hH gk1_0 g_cl11 55 (by decide) kf_X11_100 rfl dX11_take_135 ?_
      refine lv_iconst (v := 0) (pc := 138) hx hb dX11_take_138 (by decide) ?_
      refine lv_aload_n (pc := 139) hx hb dX11_take_139 rfl (lv_at hl 1 rfl) ?_
      refine g_get (pc := 140) (v := .ref (ad 25)) hC hU hH gk1_0 g_cl11 40 (by decide) kf_X11_87 rfl dX11_take_140 ?_
      refine lv_iload_n (pc := 143) hx hb dX11_take_143 rfl (lv_at hl 3 rfl) ?_
      obtain ⟨h105_6, hf⟩ := gc_s hf
      refine g_iald (pc := 144) hC hU hH gk1_25 gn1_25 h105_6 dX11_take_144 ?_
      obtain ⟨h105_7, hf⟩ := gc_s hf
      refine g_iast (pc := 145) hC hU hH hS gk1_28 gn1_28 h105_7 dX11_take_145 (fun H locs hH hS => ?_)
      refine lv_aload_n (pc := 146) hx hb dX11_take_146 rfl (lv_at hl 1 rfl) ?_
      refine g_get (pc := 147) (v := .ref (ad 28)) hC hU hH gk1_0 g_cl11 55 (by decide) kf_X11_100 rfl dX11_take_147 ?_
      refine lv_bipush (v := 14) (pc := 150) hx hb dX11_take_150 (by decide) ?_
      refine lv_dup2_11 (pc := 152) hx hb dX11_take_152 rfl rfl ?_
      obtain ⟨h105_8, hf⟩ := gc_s hf
      refine g_iald (pc := 153) hC hU hH gk1_28 gn1_28 h105_8 dX11_take_153 ?_
      refine lv_iconst (v := 1) (pc := 154) hx hb dX11_take_154 (by decide) ?_
      refine lv_iadd (pc := 155) hx hb dX11_take_155 ?_
      obtain ⟨h105_9, hf⟩ := gc_s hf
      refine g_iast (pc := 156) hC hU hH hS gk1_28 gn1_28 h105_9 dX11_take_156 (fun H locs hH hS => ?_)
      refine lv_goto (tgt := 185) (pc := 157) hx hb dX11_take_157 (by decide) ?_
      exact bX11_take_185 hC hret hlk hU hf hH hS (lv_sub hl [1, 2] rfl)
  · have hf := gif_p hc hf
    refine lv_aload_n (pc := 110) hx hb dX11_take_110 rfl (lv_at hl 1 rfl) ?_
    refine g_get (pc := 111) (v := .ref (ad 28)) hC hU hH gk1_0 g_cl11 55 (by decide) kf_X11_100 rfl dX11_take_111 ?_
    refine lv_iconst (v := 0) (pc := 114) hx hb dX11_take_114 (by decide) ?_
    refine lv_aload_n (pc := 115) hx hb dX11_take_115 rfl (lv_at hl 1 rfl) ?_
    refine g_get (pc := 116) (v := .ref (ad 22)) hC hU hH gk1_0 g_cl11 37 (by decide) kf_X11_78 rfl dX11_take_116 ?_
    refine lv_iload_n (pc := 119) hx hb dX11_take_119 rfl (lv_at hl 3 rfl) ?_
    obtain ⟨h105_10, hf⟩ := gc_s hf
    refine g_iald (pc := 120) hC hU hH gk1_22 gn1_22 h105_10 dX11_take_120 ?_
    obtain ⟨h105_11, hf⟩ := gc_s hf
    refine g_iast (pc := 121) hC hU hH hS gk1_28 gn1_28 h105_11 dX11_take_121 (fun H locs hH hS => ?_)
    refine lv_goto (tgt := 185) (pc := 122) hx hb dX11_take_122 (by decide) ?_
    exact bX11_take_185 hC hret hlk hU hf hH hS (lv_sub hl [1, 2] rfl)
def fX11_take (a1 : Int32) (a2 : Int32)   (st : gS) : Option (Int32 × gS) :=
  (fX11_isTribe a1 st).bind fun q0_1 => (if q0_1.1 = 0 then (some ((-1), q0_1.2)) else (gc (gI 1 18) (if a1 = (q0_1.2.1 28 (1 : Int32).toNatClampNeg) then (some ((-1), q0_1.2)) else ((fX11_isMove a2 q0_1.2).bind fun q0_2 => (if q0_2.1 = 0 then (some ((-1), q0_2.2)) else (gc (gI a2 16) (gc (gI 0 18) (if (q0_2.2.1 21 a2.toNatClampNeg) = (q0_2.2.1 28 (0 : Int32).toNatClampNeg) then ((fX11_can a1 a2 q0_2.2).bind fun q0_3 => (if q0_3.1 = 0 then (some ((-1), q0_3.2)) else ((fX11_act q0_3.2).bind fun q0_4 => (gc (gI 17 18) (gc (gI 17 18) (gc (gI 17 18) ((fX11_slipOf a1 a2 (wi q0_4 28 (17 : Int32).toNatClampNeg ((((q0_4.1 28 (17 : Int32).toNatClampNeg) * 137) + 71) - (((q0_4.1 28 (17 : Int32).toNatClampNeg) * 137) + 71) / 1000 * 1000))).bind fun q0_5 => (if q0_5.1 ≤ (((wi q0_4 28 (17 : Int32).toNatClampNeg ((((q0_4.1 28 (17 : Int32).toNatClampNeg) * 137) + 71) - (((q0_4.1 28 (17 : Int32).toNatClampNeg) * 137) + 71) / 1000 * 1000)).1 28 (17 : Int32).toNatClampNeg) - ((wi q0_4 28 (17 : Int32).toNatClampNeg ((((q0_4.1 28 (17 : Int32).toNatClampNeg) * 137) + 71) - (((q0_4.1 28 (17 : Int32).toNatClampNeg) * 137) + 71) / 1000 * 1000)).1 28 (17 : Int32).toNatClampNeg) / 100 * 100) then (fX11_take_105 a1 a2 0 q0_5.2) else (fX11_take_105 a1 a2 1 q0_5.2))))))))) else (some ((-1), q0_2.2))))))))))
set_option maxRecDepth 100000 in
set_option maxHeartbeats 4000000 in
theorem bX11_take_0 {a1 : Int32} {a2 : Int32} (hC : CallFix p m c cX11_take 4 s args lw_good RX11) (hret : meth.sig.returnType = (some .int)) (hlk : meth.locks = false) (hU : gU 1 D cA ad s)  {r : Int32} {st' : gS}   {st : gS} {H : Heap} {locs : List Loc} {ls : Array Slot} (hf : fX11_take a1 a2 st = some (r, st')) (hH : gP0 1 D cA ad st H) (hS : va_S (gA 1 ad) s.heap H locs) (hl : lv_has ls 4 [(0, .ref (ad 0)), (1, .int a1), (2, .int a2)]) : W p l e (gRm 5) s m args below meth c H locs 0 0 (MQ below (gQc 1 D cA ad st' (some (.int r))) args s 0 0 (gA 1 ad)) (F0 m 0 ls []) := by
  obtain ⟨hx, hb, hml, hown, hts⟩ := id hC
  unfold fX11_take at hf
  refine lv_aload_n (pc := 0) hx hb dX11_take_0 rfl (lv_at hl 0 rfl) ?_
  refine lv_iload_n (pc := 1) hx hb dX11_take_1 rfl (lv_at hl 1 rfl) ?_
  obtain ⟨q0_1, hq0_1, hf⟩ := gbd hf
  refine g_callVi (pc := 2) (rest := []) hC hU hH hS hl.1 gk1_0 rfl (by decide) (mX11_isTribe  hq0_1) ky_X11_isTribe km_X11_431 ⟨Nat.le_of_ble_eq_true rfl, Nat.le_of_ble_eq_true rfl⟩ ⟨Nat.zero_le _, Nat.zero_le _⟩ rfl (Nat.le_of_ble_eq_true rfl) dX11_take_2 rfl (fun H locs hH hS => ?_)
  refine lv_if_eq (tgt := 50) (pc := 5) hx hb dX11_take_5 (by decide) (fun hc => ?_) (fun hc => ?_)
  · have hf := gif_p hc hf
    refine lv_iconst (v := (-1)) (pc := 50) hx hb dX11_take_50 (by decide) ?_
    exact g_iret (pc := 51) hC hret hlk hH hS hf dX11_take_51
  · have hf := gif_n hc hf
    refine lv_iload_n (pc := 8) hx hb dX11_take_8 rfl (lv_at hl 1 rfl) ?_
    refine lv_aload_n (pc := 9) hx hb dX11_take_9 rfl (lv_at hl 0 rfl) ?_
    refine g_get (pc := 10) (v := .ref (ad 28)) hC hU hH gk1_0 g_cl11 55 (by decide) kf_X11_100 rfl dX11_take_10 ?_
    refine lv_iconst (v := 1) (pc := 13) hx hb dX11_take_13 (by decide) ?_
    obtain ⟨h0_1, hf⟩ := gc_s hf
    refine g_iald (pc := 14) hC hU hH gk1_28 gn1_28 h0_1 dX11_take_14 ?_
    refine lv_icmp_eq (tgt := 50) (pc := 15) hx hb dX11_take_15 (by decide) (fun hc => ?_) (fun hc => ?_)
    · have hf := gif_p hc hf
      refine lv_iconst (v := (-1)) (pc := 50) hx hb dX11_take_50 (by decide) ?_
      exact g_iret (pc := 51) hC hret hlk hH hS hf dX11_take_51
    · have hf := gif_n hc hf
      refine lv_aload_n (pc := 18) hx hb dX11_take_18 rfl (lv_at hl 0 rfl) ?_
      refine lv_iload_n (pc := 19) hx hb dX11_take_19 rfl (lv_at hl 2 rfl) ?_
      obtain ⟨q0_2, hq0_2, hf⟩ := gbd hf
      refine g_callVi (pc := 20) (rest := []) hC hU hH hS hl.1 gk1_0 rfl (by decide) (mX11_isMove  hq0_2) ky_X11_isMove km_X11_437 ⟨Nat.le_of_ble_eq_true rfl, Nat.le_of_ble_eq_true rfl⟩ ⟨Nat.zero_le _, Nat.zero_le _⟩ rfl (Nat.le_of_ble_eq_true rfl) dX11_take_20 rfl (fun H locs hH hS => ?_)
      refine lv_if_eq (tgt := 50) (pc := 23) hx hb dX11_take_23 (by decide) (fun hc => ?_) (fun hc => ?_)
      · have hf := gif_p hc hf
        refine lv_iconst (v := (-1)) (pc := 50) hx hb dX11_take_50 (by decide) ?_
        exact g_iret (pc := 51) hC hret hlk hH hS hf dX11_take_51
      · have hf := gif_n hc hf
        refine lv_aload_n (pc := 26) hx hb dX11_take_26 rfl (lv_at hl 0 rfl) ?_
        refine g_get (pc := 27) (v := .ref (ad 21)) hC hU hH gk1_0 g_cl11 36 (by decide) kf_X11_75 rfl dX11_take_27 ?_
        refine lv_iload_n (pc := 30) hx hb dX11_take_30 rfl (lv_at hl 2 rfl) ?_
        obtain ⟨h0_2, hf⟩ := gc_s hf
        refine g_iald (pc := 31) hC hU hH gk1_21 gn1_21 h0_2 dX11_take_31 ?_
        refine lv_aload_n (pc := 32) hx hb dX11_take_32 rfl (lv_at hl 0 rfl) ?_
        refine g_get (pc := 33) (v := .ref (ad 28)) hC hU hH gk1_0 g_cl11 55 (by decide) kf_X11_100 rfl dX11_take_33 ?_
        refine lv_iconst (v := 0) (pc := 36) hx hb dX11_take_36 (by decide) ?_
        obtain ⟨h0_3, hf⟩ := gc_s hf
        refine g_iald (pc := 37) hC hU hH gk1_28 gn1_28 h0_3 dX11_take_37 ?_
        refine lv_icmp_ne (tgt := 50) (pc := 38) hx hb dX11_take_38 (by decide) (fun hc => ?_) (fun hc => ?_)
        · have hf := gif_n hc hf
          refine lv_iconst (v := (-1)) (pc := 50) hx hb dX11_take_50 (by decide) ?_
          exact g_iret (pc := 51) hC hret hlk hH hS hf dX11_take_51
        · have hf := gif_p hc hf
          refine lv_aload_n (pc := 41) hx hb dX11_take_41 rfl (lv_at hl 0 rfl) ?_
          refine lv_iload_n (pc := 42) hx hb dX11_take_42 rfl (lv_at hl 1 rfl) ?_
          refine lv_iload_n (pc := 43) hx hb dX11_take_43 rfl (lv_at hl 2 rfl) ?_
          obtain ⟨q0_3, hq0_3, hf⟩ := gbd hf
          refine g_callVi (pc := 44) (rest := []) hC hU hH hS hl.1 gk1_0 rfl (by decide) (mX11_can  hq0_3) ky_X11_can km_X11_427 ⟨Nat.le_of_ble_eq_true rfl, Nat.le_of_ble_eq_true rfl⟩ ⟨Nat.zero_le _, Nat.zero_le _⟩ rfl (Nat.le_of_ble_eq_true rfl) dX11_take_44 rfl (fun H locs hH hS => ?_)
          refine lv_if_ne (tgt := 52) (pc := 47) hx hb dX11_take_47 (by decide) (fun hc => ?_) (fun hc => ?_)
          · have hf := gif_n hc hf
            refine lv_aload_n (pc := 52) hx hb dX11_take_52 rfl (lv_at hl 0 rfl) ?_
            obtain ⟨q0_4, hq0_4, hf⟩ := gbd hf
            refine g_callVv (pc := 53) (rest := []) hC hU hH hS hl.1 gk1_0 rfl (by decide) (mX11_act  hq0_4) ky_X11_act km_X11_452 ⟨Nat.le_of_ble_eq_true rfl, Nat.le_of_ble_eq_true rfl⟩ ⟨Nat.zero_le _, Nat.zero_le _⟩ rfl (Nat.le_of_ble_eq_true rfl) dX11_take_53 rfl (fun H locs hH hS => ?_)
            refine lv_aload_n (pc := 56) hx hb dX11_take_56 rfl (lv_at hl 0 rfl) ?_
            refine g_get (pc := 57) (v := .ref (ad 28)) hC hU hH gk1_0 g_cl11 55 (by decide) kf_X11_100 rfl dX11_take_57 ?_
            refine lv_bipush (v := 17) (pc := 60) hx hb dX11_take_60 (by decide) ?_
            refine lv_aload_n (pc := 62) hx hb dX11_take_62 rfl (lv_at hl 0 rfl) ?_
            refine g_get (pc := 63) (v := .ref (ad 28)) hC hU hH gk1_0 g_cl11 55 (by decide) kf_X11_100 rfl dX11_take_63 ?_
            refine lv_bipush (v := 17) (pc := 66) hx hb dX11_take_66 (by decide) ?_
            obtain ⟨h0_4, hf⟩ := gc_s hf
            refine g_iald (pc := 68) hC hU hH gk1_28 gn1_28 h0_4 dX11_take_68 ?_
            refine lv_sipush (v := 137) (pc := 69) hx hb dX11_take_69 (by decide) ?_
            refine lv_imul (pc := 72) hx hb dX11_take_72 ?_
            refine lv_bipush (v := 71) (pc := 73) hx hb dX11_take_73 (by decide) ?_
            refine lv_iadd (pc := 75) hx hb dX11_take_75 ?_
            refine lv_sipush (v := 1000) (pc := 76) hx hb dX11_take_76 (by decide) ?_
            refine lv_irem (pc := 79) hx hb dX11_take_79 (by decide) ?_
            obtain ⟨h0_5, hf⟩ := gc_s hf
            refine g_iast (pc := 80) hC hU hH hS gk1_28 gn1_28 h0_5 dX11_take_80 (fun H locs hH hS => ?_)
            refine lv_aload_n (pc := 81) hx hb dX11_take_81 rfl (lv_at hl 0 rfl) ?_
            refine g_get (pc := 82) (v := .ref (ad 28)) hC hU hH gk1_0 g_cl11 55 (by decide) kf_X11_100 rfl dX11_take_82 ?_
            refine lv_bipush (v := 17) (pc := 85) hx hb dX11_take_85 (by decide) ?_
            obtain ⟨h0_6, hf⟩ := gc_s hf
            refine g_iald (pc := 87) hC hU hH gk1_28 gn1_28 h0_6 dX11_take_87 ?_
            refine lv_bipush (v := 100) (pc := 88) hx hb dX11_take_88 (by decide) ?_
            refine lv_irem (pc := 90) hx hb dX11_take_90 (by decide) ?_
            refine lv_aload_n (pc := 91) hx hb dX11_take_91 rfl (lv_at hl 0 rfl) ?_
            refine lv_iload_n (pc := 92) hx hb dX11_take_92 rfl (lv_at hl 1 rfl) ?_
            refine lv_iload_n (pc := 93) hx hb dX11_take_93 rfl (lv_at hl 2 rfl) ?_
            obtain ⟨q0_5, hq0_5, hf⟩ := gbd hf
            refine g_callVi (pc := 94) (rest := [.int (((wi q0_4 28 (17 : Int32).toNatClampNeg ((((q0_4.1 28 (17 : Int32).toNatClampNeg) * 137) + 71) - (((q0_4.1 28 (17 : Int32).toNatClampNeg) * 137) + 71) / 1000 * 1000)).1 28 (17 : Int32).toNatClampNeg) - ((wi q0_4 28 (17 : Int32).toNatClampNeg ((((q0_4.1 28 (17 : Int32).toNatClampNeg) * 137) + 71) - (((q0_4.1 28 (17 : Int32).toNatClampNeg) * 137) + 71) / 1000 * 1000)).1 28 (17 : Int32).toNatClampNeg) / 100 * 100)]) hC hU hH hS hl.1 gk1_0 rfl (by decide) (mX11_slipOf  hq0_5) ky_X11_slipOf km_X11_449 ⟨Nat.le_of_ble_eq_true rfl, Nat.le_of_ble_eq_true rfl⟩ ⟨Nat.zero_le _, Nat.zero_le _⟩ rfl (Nat.le_of_ble_eq_true rfl) dX11_take_94 rfl (fun H locs hH hS => ?_)
            refine lv_icmp_ge (tgt := 104) (pc := 97) hx hb dX11_take_97 (by decide) (fun hc => ?_) (fun hc => ?_)
            · have hf := gif_p hc hf
              refine lv_iconst (v := 0) (pc := 104) hx hb dX11_take_104 (by decide) ?_
              exact bX11_take_105 hC hret hlk hU hf hH hS (lv_sub hl [0, 1, 2] rfl)
            · have hf := gif_n hc hf
              refine lv_iconst (v := 1) (pc := 100) hx hb dX11_take_100 (by decide) ?_
              refine lv_goto (tgt := 105) (pc := 101) hx hb dX11_take_101 (by decide) ?_
              exact bX11_take_105 hC hret hlk hU hf hH hS (lv_sub hl [0, 1, 2] rfl)
          · have hf := gif_p hc hf
            refine lv_iconst (v := (-1)) (pc := 50) hx hb dX11_take_50 (by decide) ?_
            exact g_iret (pc := 51) hC hret hlk hH hS hf dX11_take_51
set_option maxRecDepth 100000 in
set_option maxHeartbeats 4000000 in
theorem mX11_take {l : Launch} {D : va_G} {cA : Nat → ClassId} {ad : Nat → Nat} {a1 : Int32} {a2 : Int32}  {r : Int32} {st st' : gS} (hf : fX11_take a1 a2 st = some (r, st')) : gM l yX11_take cX11_take 4 (some .int) 5 1 D cA ad st [.ref (ad 0), .int a1, .int a2] (some (.int r)) st' := by
  refine g_met (by decide) (Nat.le_of_ble_eq_true rfl) ?_
  intro p e s m args below meth c ls hC hret hlk hU hH hl
  exact bX11_take_0 hC hret hlk hU hf hH va_S.rf hl
def fX11_rain    (st : gS) : Option (Int32 × gS) :=
  gc (gI 3 18) (if (st.1 28 (3 : Int32).toNatClampNeg) = 1 then (some ((-1), st)) else ((fX11_act st).bind fun q0_1 => (gc (gI 3 18) (gc (gI 2 18) (some ((wi q0_1 28 (3 : Int32).toNatClampNeg 1).1 28 (2 : Int32).toNatClampNeg, wi q0_1 28 (3 : Int32).toNatClampNeg 1))))))
set_option maxRecDepth 100000 in
set_option maxHeartbeats 4000000 in
theorem bX11_rain_0  (hC : CallFix p m c cX11_rain 1 s args lw_good RX11) (hret : meth.sig.returnType = (some .int)) (hlk : meth.locks = false) (hU : gU 1 D cA ad s)  {r : Int32} {st' : gS}   {st : gS} {H : Heap} {locs : List Loc} {ls : Array Slot} (hf : fX11_rain st = some (r, st')) (hH : gP0 1 D cA ad st H) (hS : va_S (gA 1 ad) s.heap H locs) (hl : lv_has ls 1 [(0, .ref (ad 0))]) : W p l e (gRm 2) s m args below meth c H locs 0 0 (MQ below (gQc 1 D cA ad st' (some (.int r))) args s 0 0 (gA 1 ad)) (F0 m 0 ls []) := by
  obtain ⟨hx, hb, hml, hown, hts⟩ := id hC
  unfold fX11_rain at hf
  refine lv_aload_n (pc := 0) hx hb dX11_rain_0 rfl (lv_at hl 0 rfl) ?_
  refine g_get (pc := 1) (v := .ref (ad 28)) hC hU hH gk1_0 g_cl11 55 (by decide) kf_X11_100 rfl dX11_rain_1 ?_
  refine lv_iconst (v := 3) (pc := 4) hx hb dX11_rain_4 (by decide) ?_
  obtain ⟨h0_1, hf⟩ := gc_s hf
  refine g_iald (pc := 5) hC hU hH gk1_28 gn1_28 h0_1 dX11_rain_5 ?_
  refine lv_iconst (v := 1) (pc := 6) hx hb dX11_rain_6 (by decide) ?_
  refine lv_icmp_ne (tgt := 12) (pc := 7) hx hb dX11_rain_7 (by decide) (fun hc => ?_) (fun hc => ?_)
  · have hf := gif_n hc hf
    refine lv_aload_n (pc := 12) hx hb dX11_rain_12 rfl (lv_at hl 0 rfl) ?_
    obtain ⟨q0_1, hq0_1, hf⟩ := gbd hf
    refine g_callVv (pc := 13) (rest := []) hC hU hH hS hl.1 gk1_0 rfl (by decide) (mX11_act  hq0_1) ky_X11_act km_X11_452 ⟨Nat.le_of_ble_eq_true rfl, Nat.le_of_ble_eq_true rfl⟩ ⟨Nat.zero_le _, Nat.zero_le _⟩ rfl (Nat.le_of_ble_eq_true rfl) dX11_rain_13 rfl (fun H locs hH hS => ?_)
    refine lv_aload_n (pc := 16) hx hb dX11_rain_16 rfl (lv_at hl 0 rfl) ?_
    refine g_get (pc := 17) (v := .ref (ad 28)) hC hU hH gk1_0 g_cl11 55 (by decide) kf_X11_100 rfl dX11_rain_17 ?_
    refine lv_iconst (v := 3) (pc := 20) hx hb dX11_rain_20 (by decide) ?_
    refine lv_iconst (v := 1) (pc := 21) hx hb dX11_rain_21 (by decide) ?_
    obtain ⟨h0_2, hf⟩ := gc_s hf
    refine g_iast (pc := 22) hC hU hH hS gk1_28 gn1_28 h0_2 dX11_rain_22 (fun H locs hH hS => ?_)
    refine lv_aload_n (pc := 23) hx hb dX11_rain_23 rfl (lv_at hl 0 rfl) ?_
    refine g_get (pc := 24) (v := .ref (ad 28)) hC hU hH gk1_0 g_cl11 55 (by decide) kf_X11_100 rfl dX11_rain_24 ?_
    refine lv_iconst (v := 2) (pc := 27) hx hb dX11_rain_27 (by decide) ?_
    obtain ⟨h0_3, hf⟩ := gc_s hf
    refine g_iald (pc := 28) hC hU hH gk1_28 gn1_28 h0_3 dX11_rain_28 ?_
    exact g_iret (pc := 29) hC hret hlk hH hS hf dX11_rain_29
  · have hf := gif_p hc hf
    refine lv_iconst (v := (-1)) (pc := 10) hx hb dX11_rain_10 (by decide) ?_
    exact g_iret (pc := 11) hC hret hlk hH hS hf dX11_rain_11
set_option maxRecDepth 100000 in
set_option maxHeartbeats 4000000 in
theorem mX11_rain {l : Launch} {D : va_G} {cA : Nat → ClassId} {ad : Nat → Nat}   {r : Int32} {st st' : gS} (hf : fX11_rain  st = some (r, st')) : gM l yX11_rain cX11_rain 1 (some .int) 2 1 D cA ad st [.ref (ad 0)] (some (.int r)) st' := by
  refine g_met (by decide) (Nat.le_of_ble_eq_true rfl) ?_
  intro p e s m args below meth c ls hC hret hlk hU hH hl
  exact bX11_rain_0 hC hret hlk hU hf hH va_S.rf hl
def fX11_give (a1 : Int32)   (st : gS) : Option (Int32 × gS) :=
  (fX11_isTribe a1 st).bind fun q0_1 => (if q0_1.1 = 0 then (some ((-1), q0_1.2)) else (gc (gI 1 18) (if a1 = (q0_1.2.1 28 (1 : Int32).toNatClampNeg) then (some ((-1), q0_1.2)) else ((fX11_act q0_1.2).bind fun q0_2 => (gc (gI 1 18) (gl (q0_2.1 28 (1 : Int32).toNatClampNeg) fun x30 => (gc (gI 1 18) (some (x30, wi q0_2 28 (1 : Int32).toNatClampNeg a1)))))))))
set_option maxRecDepth 100000 in
set_option maxHeartbeats 4000000 in
theorem bX11_give_0 {a1 : Int32} (hC : CallFix p m c cX11_give 3 s args lw_good RX11) (hret : meth.sig.returnType = (some .int)) (hlk : meth.locks = false) (hU : gU 1 D cA ad s)  {r : Int32} {st' : gS}   {st : gS} {H : Heap} {locs : List Loc} {ls : Array Slot} (hf : fX11_give a1 st = some (r, st')) (hH : gP0 1 D cA ad st H) (hS : va_S (gA 1 ad) s.heap H locs) (hl : lv_has ls 3 [(0, .ref (ad 0)), (1, .int a1)]) : W p l e (gRm 3) s m args below meth c H locs 0 0 (MQ below (gQc 1 D cA ad st' (some (.int r))) args s 0 0 (gA 1 ad)) (F0 m 0 ls []) := by
  obtain ⟨hx, hb, hml, hown, hts⟩ := id hC
  unfold fX11_give at hf
  refine lv_aload_n (pc := 0) hx hb dX11_give_0 rfl (lv_at hl 0 rfl) ?_
  refine lv_iload_n (pc := 1) hx hb dX11_give_1 rfl (lv_at hl 1 rfl) ?_
  obtain ⟨q0_1, hq0_1, hf⟩ := gbd hf
  refine g_callVi (pc := 2) (rest := []) hC hU hH hS hl.1 gk1_0 rfl (by decide) (mX11_isTribe  hq0_1) ky_X11_isTribe km_X11_431 ⟨Nat.le_of_ble_eq_true rfl, Nat.le_of_ble_eq_true rfl⟩ ⟨Nat.zero_le _, Nat.zero_le _⟩ rfl (Nat.le_of_ble_eq_true rfl) dX11_give_2 rfl (fun H locs hH hS => ?_)
  refine lv_if_eq (tgt := 18) (pc := 5) hx hb dX11_give_5 (by decide) (fun hc => ?_) (fun hc => ?_)
  · have hf := gif_p hc hf
    refine lv_iconst (v := (-1)) (pc := 18) hx hb dX11_give_18 (by decide) ?_
    exact g_iret (pc := 19) hC hret hlk hH hS hf dX11_give_19
  · have hf := gif_n hc hf
    refine lv_iload_n (pc := 8) hx hb dX11_give_8 rfl (lv_at hl 1 rfl) ?_
    refine lv_aload_n (pc := 9) hx hb dX11_give_9 rfl (lv_at hl 0 rfl) ?_
    refine g_get (pc := 10) (v := .ref (ad 28)) hC hU hH gk1_0 g_cl11 55 (by decide) kf_X11_100 rfl dX11_give_10 ?_
    refine lv_iconst (v := 1) (pc := 13) hx hb dX11_give_13 (by decide) ?_
    obtain ⟨h0_1, hf⟩ := gc_s hf
    refine g_iald (pc := 14) hC hU hH gk1_28 gn1_28 h0_1 dX11_give_14 ?_
    refine lv_icmp_ne (tgt := 20) (pc := 15) hx hb dX11_give_15 (by decide) (fun hc => ?_) (fun hc => ?_)
    · have hf := gif_n hc hf
      refine lv_aload_n (pc := 20) hx hb dX11_give_20 rfl (lv_at hl 0 rfl) ?_
      obtain ⟨q0_2, hq0_2, hf⟩ := gbd hf
      refine g_callVv (pc := 21) (rest := []) hC hU hH hS hl.1 gk1_0 rfl (by decide) (mX11_act  hq0_2) ky_X11_act km_X11_452 ⟨Nat.le_of_ble_eq_true rfl, Nat.le_of_ble_eq_true rfl⟩ ⟨Nat.zero_le _, Nat.zero_le _⟩ rfl (Nat.le_of_ble_eq_true rfl) dX11_give_21 rfl (fun H locs hH hS => ?_)
      refine lv_aload_n (pc := 24) hx hb dX11_give_24 rfl (lv_at hl 0 rfl) ?_
      refine g_get (pc := 25) (v := .ref (ad 28)) hC hU hH gk1_0 g_cl11 55 (by decide) kf_X11_100 rfl dX11_give_25 ?_
      refine lv_iconst (v := 1) (pc := 28) hx hb dX11_give_28 (by decide) ?_
      obtain ⟨h0_2, hf⟩ := gc_s hf
      refine g_iald (pc := 29) hC hU hH gk1_28 gn1_28 h0_2 dX11_give_29 ?_
      refine lv_topi (pc := 30) (fun x30 ex30 => ?_)
      have hf := gl_s ex30 hf
      refine lv_istore_n (lv' := [(2, .int x30), (0, .ref (ad 0)), (1, .int a1)]) (pc := 30) hx hb dX11_give_30 rfl hl (by decide) rfl (fun ls hl => ?_)
      refine lv_aload_n (pc := 31) hx hb dX11_give_31 rfl (lv_at hl 1 rfl) ?_
      refine g_get (pc := 32) (v := .ref (ad 28)) hC hU hH gk1_0 g_cl11 55 (by decide) kf_X11_100 rfl dX11_give_32 ?_
      refine lv_iconst (v := 1) (pc := 35) hx hb dX11_give_35 (by decide) ?_
      refine lv_iload_n (pc := 36) hx hb dX11_give_36 rfl (lv_at hl 2 rfl) ?_
      obtain ⟨h0_3, hf⟩ := gc_s hf
      refine g_iast (pc := 37) hC hU hH hS gk1_28 gn1_28 h0_3 dX11_give_37 (fun H locs hH hS => ?_)
      refine lv_iload_n (pc := 38) hx hb dX11_give_38 rfl (lv_at hl 0 rfl) ?_
      exact g_iret (pc := 39) hC hret hlk hH hS hf dX11_give_39
    · have hf := gif_p hc hf
      refine lv_iconst (v := (-1)) (pc := 18) hx hb dX11_give_18 (by decide) ?_
      exact g_iret (pc := 19) hC hret hlk hH hS hf dX11_give_19
set_option maxRecDepth 100000 in
set_option maxHeartbeats 4000000 in
theorem mX11_give {l : Launch} {D : va_G} {cA : Nat → ClassId} {ad : Nat → Nat} {a1 : Int32}  {r : Int32} {st st' : gS} (hf : fX11_give a1 st = some (r, st')) : gM l yX11_give cX11_give 3 (some .int) 3 1 D cA ad st [.ref (ad 0), .int a1] (some (.int r)) st' := by
  refine g_met (by decide) (Nat.le_of_ble_eq_true rfl) ?_
  intro p e s m args below meth c ls hC hret hlk hU hH hl
  exact bX11_give_0 hC hret hlk hU hf hH va_S.rf hl
def fX11_load_2  (k2 : Int32 → gS → Option (gS)) (l1 : Int32) (st : gS) : Option (gS) :=
  if 18 ≤ l1 then (some st) else (gc (gI l1 18) (gc (gI l1 18) (k2 (l1 + 1) (wi st 29 l1.toNatClampNeg (st.1 28 l1.toNatClampNeg)))))
set_option maxRecDepth 100000 in
set_option maxHeartbeats 4000000 in
theorem bX11_load_2  (hC : CallFix p m c cX11_load 2 s args lw_good RX11) (hret : meth.sig.returnType = none) (hlk : meth.locks = false) (hU : gU 1 D cA ad s)  {st' : gS} {k2 : Int32 → gS → Option (gS)} (hk2 : ∀ {l1 : Int32} {st : gS} {H : Heap} {locs : List Loc} {ls : Array Slot}, k2 l1 st = some st' → gP0 1 D cA ad st H → va_S (gA 1 ad) s.heap H locs → lv_has ls 2 [(0, .ref (ad 0)), (1, .int l1)] → W p l e (gRm 1) s m args below meth c H locs 0 0 (MQ below (gQc 1 D cA ad st' none) args s 0 0 (gA 1 ad)) (F0 m 2 ls [])) {l1 : Int32} {st : gS} {H : Heap} {locs : List Loc} {ls : Array Slot} (hf : fX11_load_2 k2 l1 st = some st') (hH : gP0 1 D cA ad st H) (hS : va_S (gA 1 ad) s.heap H locs) (hl : lv_has ls 2 [(0, .ref (ad 0)), (1, .int l1)]) : W p l e (gRm 1) s m args below meth c H locs 0 0 (MQ below (gQc 1 D cA ad st' none) args s 0 0 (gA 1 ad)) (F0 m 2 ls []) := by
  obtain ⟨hx, hb, hml, hown, hts⟩ := id hC
  unfold fX11_load_2 at hf
  refine lv_iload_n (pc := 2) hx hb dX11_load_2 rfl (lv_at hl 1 rfl) ?_
  refine lv_bipush (v := 18) (pc := 3) hx hb dX11_load_3 (by decide) ?_
  refine lv_icmp_ge (tgt := 26) (pc := 5) hx hb dX11_load_5 (by decide) (fun hc => ?_) (fun hc => ?_)
  · have hf := gif_p hc hf
    exact g_vret (pc := 26) hC hret hlk hH hS hf dX11_load_26
  · have hf := gif_n hc hf
    refine lv_aload_n (pc := 8) hx hb dX11_load_8 rfl (lv_at hl 0 rfl) ?_
    refine g_get (pc := 9) (v := .ref (ad 29)) hC hU hH gk1_0 g_cl11 56 (by decide) kf_X11_103 rfl dX11_load_9 ?_
    refine lv_iload_n (pc := 12) hx hb dX11_load_12 rfl (lv_at hl 1 rfl) ?_
    refine lv_aload_n (pc := 13) hx hb dX11_load_13 rfl (lv_at hl 0 rfl) ?_
    refine g_get (pc := 14) (v := .ref (ad 28)) hC hU hH gk1_0 g_cl11 55 (by decide) kf_X11_100 rfl dX11_load_14 ?_
    refine lv_iload_n (pc := 17) hx hb dX11_load_17 rfl (lv_at hl 1 rfl) ?_
    obtain ⟨h2_1, hf⟩ := gc_s hf
    refine g_iald (pc := 18) hC hU hH gk1_28 gn1_28 h2_1 dX11_load_18 ?_
    obtain ⟨h2_2, hf⟩ := gc_s hf
    refine g_iast (pc := 19) hC hU hH hS gk1_29 gn1_29 h2_2 dX11_load_19 (fun H locs hH hS => ?_)
    refine lv_iinc (v := l1 + 1) (lv' := [(1, .int (l1 + 1)), (0, .ref (ad 0))]) (k := 1) (pc := 20) hx hb dX11_load_20 hl rfl rfl (by decide) rfl (fun ls hl => ?_)
    refine lv_goto (tgt := 2) (pc := 23) hx hb dX11_load_23 (by decide) ?_
    exact hk2 hf hH hS (lv_sub hl [1, 0] rfl)
def hX11_load_2   : Nat → Int32 → gS → Option (gS)
  | 0 => fun _ _ => none
  | n + 1 => fun l1 st => fX11_load_2 (hX11_load_2  n) l1 st
set_option maxRecDepth 100000 in
set_option maxHeartbeats 4000000 in
theorem wX11_load_2  (hC : CallFix p m c cX11_load 2 s args lw_good RX11) (hret : meth.sig.returnType = none) (hlk : meth.locks = false) (hU : gU 1 D cA ad s)  {st' : gS}  : ∀ (n : Nat) {l1 : Int32} {st : gS} {H : Heap} {locs : List Loc} {ls : Array Slot}, hX11_load_2  n l1 st = some st' → gP0 1 D cA ad st H → va_S (gA 1 ad) s.heap H locs → lv_has ls 2 [(0, .ref (ad 0)), (1, .int l1)] → W p l e (gRm 1) s m args below meth c H locs 0 0 (MQ below (gQc 1 D cA ad st' none) args s 0 0 (gA 1 ad)) (F0 m 2 ls []) := by
  intro n
  induction n with
  | zero => intro l1 st H locs ls hf hH hS hl; cases hf
  | succ n ih =>
    intro l1 st H locs ls hf hH hS hl
    exact bX11_load_2  hC hret hlk hU (fun hf hH hS hl => ih hf hH hS hl) hf hH hS hl
def fX11_load    (st : gS) : Option (gS) :=
  hX11_load_2 FU 0 st
set_option maxRecDepth 100000 in
set_option maxHeartbeats 4000000 in
theorem bX11_load_0  (hC : CallFix p m c cX11_load 2 s args lw_good RX11) (hret : meth.sig.returnType = none) (hlk : meth.locks = false) (hU : gU 1 D cA ad s)  {st' : gS}   {st : gS} {H : Heap} {locs : List Loc} {ls : Array Slot} (hf : fX11_load st = some st') (hH : gP0 1 D cA ad st H) (hS : va_S (gA 1 ad) s.heap H locs) (hl : lv_has ls 2 [(0, .ref (ad 0))]) : W p l e (gRm 1) s m args below meth c H locs 0 0 (MQ below (gQc 1 D cA ad st' none) args s 0 0 (gA 1 ad)) (F0 m 0 ls []) := by
  obtain ⟨hx, hb, hml, hown, hts⟩ := id hC
  unfold fX11_load at hf
  refine lv_iconst (v := 0) (pc := 0) hx hb dX11_load_0 (by decide) ?_
  refine lv_istore_n (lv' := [(1, .int 0), (0, .ref (ad 0))]) (pc := 1) hx hb dX11_load_1 rfl hl (by decide) rfl (fun ls hl => ?_)
  exact wX11_load_2 hC hret hlk hU FU hf hH hS (lv_sub hl [1, 0] rfl)
set_option maxRecDepth 100000 in
set_option maxHeartbeats 4000000 in
theorem mX11_load {l : Launch} {D : va_G} {cA : Nat → ClassId} {ad : Nat → Nat}   {st st' : gS} (hf : fX11_load  st = some st') : gM l yX11_load cX11_load 2 none 1 1 D cA ad st [.ref (ad 0)] none st' := by
  refine g_met (by decide) (Nat.le_of_ble_eq_true rfl) ?_
  intro p e s m args below meth c ls hC hret hlk hU hH hl
  exact bX11_load_0 hC hret hlk hU hf hH va_S.rf hl
def fX11_goNight_132   (l1 : Int32) (st : gS) : Option (Int32 × gS) :=
  gc (gI 3 18) (gc (gI 16 18) (gc (gI 16 18) (some (l1, wi (wi st 29 (3 : Int32).toNatClampNeg 0) 29 (16 : Int32).toNatClampNeg (((wi st 29 (3 : Int32).toNatClampNeg 0).1 29 (16 : Int32).toNatClampNeg) + 1)))))
set_option maxRecDepth 100000 in
set_option maxHeartbeats 4000000 in
theorem bX11_goNight_132  (hC : CallFix p m c cX11_goNight 4 s args lw_good RX11) (hret : meth.sig.returnType = (some .int)) (hlk : meth.locks = false) (hU : gU 1 D cA ad s)  {r : Int32} {st' : gS}  {l1 : Int32} {st : gS} {H : Heap} {locs : List Loc} {ls : Array Slot} (hf : fX11_goNight_132 l1 st = some (r, st')) (hH : gP0 1 D cA ad st H) (hS : va_S (gA 1 ad) s.heap H locs) (hl : lv_has ls 4 [(0, .ref (ad 0)), (1, .int l1)]) : W p l e (gRm 2) s m args below meth c H locs 0 0 (MQ below (gQc 1 D cA ad st' (some (.int r))) args s 0 0 (gA 1 ad)) (F0 m 132 ls []) := by
  obtain ⟨hx, hb, hml, hown, hts⟩ := id hC
  unfold fX11_goNight_132 at hf
  refine lv_aload_n (pc := 132) hx hb dX11_goNight_132 rfl (lv_at hl 0 rfl) ?_
  refine g_get (pc := 133) (v := .ref (ad 29)) hC hU hH gk1_0 g_cl11 56 (by decide) kf_X11_103 rfl dX11_goNight_133 ?_
  refine lv_iconst (v := 3) (pc := 136) hx hb dX11_goNight_136 (by decide) ?_
  refine lv_iconst (v := 0) (pc := 137) hx hb dX11_goNight_137 (by decide) ?_
  obtain ⟨h132_1, hf⟩ := gc_s hf
  refine g_iast (pc := 138) hC hU hH hS gk1_29 gn1_29 h132_1 dX11_goNight_138 (fun H locs hH hS => ?_)
  refine lv_aload_n (pc := 139) hx hb dX11_goNight_139 rfl (lv_at hl 0 rfl) ?_
  refine g_get (pc := 140) (v := .ref (ad 29)) hC hU hH gk1_0 g_cl11 56 (by decide) kf_X11_103 rfl dX11_goNight_140 ?_
  refine lv_bipush (v := 16) (pc := 143) hx hb dX11_goNight_143 (by decide) ?_
  refine lv_dup2_11 (pc := 145) hx hb dX11_goNight_145 rfl rfl ?_
  obtain ⟨h132_2, hf⟩ := gc_s hf
  refine g_iald (pc := 146) hC hU hH gk1_29 gn1_29 h132_2 dX11_goNight_146 ?_
  refine lv_iconst (v := 1) (pc := 147) hx hb dX11_goNight_147 (by decide) ?_
  refine lv_iadd (pc := 148) hx hb dX11_goNight_148 ?_
  obtain ⟨h132_3, hf⟩ := gc_s hf
  refine g_iast (pc := 149) hC hU hH hS gk1_29 gn1_29 h132_3 dX11_goNight_149 (fun H locs hH hS => ?_)
  refine lv_iload_n (pc := 150) hx hb dX11_goNight_150 rfl (lv_at hl 1 rfl) ?_
  exact g_iret (pc := 151) hC hret hlk hH hS hf dX11_goNight_151
def fX11_goNight_113   (l1 : Int32) (s0 : Int32) (s1 : Int32) (st : gS) : Option (Int32 × gS) :=
  gc (gI s1 18) (gc (gI 2 18) (gc (gI 15 18) (gc (gI 15 18) (fX11_goNight_132 l1 (wi (wi (wi st 29 s1.toNatClampNeg s0) 29 (2 : Int32).toNatClampNeg 0) 29 (15 : Int32).toNatClampNeg (((wi (wi st 29 s1.toNatClampNeg s0) 29 (2 : Int32).toNatClampNeg 0).1 29 (15 : Int32).toNatClampNeg) + 1))))))
set_option maxRecDepth 100000 in
set_option maxHeartbeats 4000000 in
theorem bX11_goNight_113  (hC : CallFix p m c cX11_goNight 4 s args lw_good RX11) (hret : meth.sig.returnType = (some .int)) (hlk : meth.locks = false) (hU : gU 1 D cA ad s)  {r : Int32} {st' : gS}  {l1 : Int32} {s0 : Int32} {s1 : Int32} {st : gS} {H : Heap} {locs : List Loc} {ls : Array Slot} (hf : fX11_goNight_113 l1 s0 s1 st = some (r, st')) (hH : gP0 1 D cA ad st H) (hS : va_S (gA 1 ad) s.heap H locs) (hl : lv_has ls 4 [(0, .ref (ad 0)), (1, .int l1)]) : W p l e (gRm 2) s m args below meth c H locs 0 0 (MQ below (gQc 1 D cA ad st' (some (.int r))) args s 0 0 (gA 1 ad)) (F0 m 113 ls [.int s0, .int s1, .ref (ad 29)]) := by
  obtain ⟨hx, hb, hml, hown, hts⟩ := id hC
  unfold fX11_goNight_113 at hf
  obtain ⟨h113_1, hf⟩ := gc_s hf
  refine g_iast (pc := 113) hC hU hH hS gk1_29 gn1_29 h113_1 dX11_goNight_113 (fun H locs hH hS => ?_)
  refine lv_aload_n (pc := 114) hx hb dX11_goNight_114 rfl (lv_at hl 0 rfl) ?_
  refine g_get (pc := 115) (v := .ref (ad 29)) hC hU hH gk1_0 g_cl11 56 (by decide) kf_X11_103 rfl dX11_goNight_115 ?_
  refine lv_iconst (v := 2) (pc := 118) hx hb dX11_goNight_118 (by decide) ?_
  refine lv_iconst (v := 0) (pc := 119) hx hb dX11_goNight_119 (by decide) ?_
  obtain ⟨h113_2, hf⟩ := gc_s hf
  refine g_iast (pc := 120) hC hU hH hS gk1_29 gn1_29 h113_2 dX11_goNight_120 (fun H locs hH hS => ?_)
  refine lv_aload_n (pc := 121) hx hb dX11_goNight_121 rfl (lv_at hl 0 rfl) ?_
  refine g_get (pc := 122) (v := .ref (ad 29)) hC hU hH gk1_0 g_cl11 56 (by decide) kf_X11_103 rfl dX11_goNight_122 ?_
  refine lv_bipush (v := 15) (pc := 125) hx hb dX11_goNight_125 (by decide) ?_
  refine lv_dup2_11 (pc := 127) hx hb dX11_goNight_127 rfl rfl ?_
  obtain ⟨h113_3, hf⟩ := gc_s hf
  refine g_iald (pc := 128) hC hU hH gk1_29 gn1_29 h113_3 dX11_goNight_128 ?_
  refine lv_iconst (v := 1) (pc := 129) hx hb dX11_goNight_129 (by decide) ?_
  refine lv_iadd (pc := 130) hx hb dX11_goNight_130 ?_
  obtain ⟨h113_4, hf⟩ := gc_s hf
  refine g_iast (pc := 131) hC hU hH hS gk1_29 gn1_29 h113_4 dX11_goNight_131 (fun H locs hH hS => ?_)
  exact bX11_goNight_132 hC hret hlk hU hf hH hS (lv_sub hl [0, 1] rfl)
def fX11_goNight_73   (l1 : Int32) (st : gS) : Option (Int32 × gS) :=
  gc (gI 2 18) (gc (gI 2 18) (gc (gI 2 18) (if ((wi st 29 (2 : Int32).toNatClampNeg ((st.1 29 (2 : Int32).toNatClampNeg) + 1)).1 29 (2 : Int32).toNatClampNeg) < ((wi st 29 (2 : Int32).toNatClampNeg ((st.1 29 (2 : Int32).toNatClampNeg) + 1)).1 0 51) then (fX11_goNight_132 l1 (wi st 29 (2 : Int32).toNatClampNeg ((st.1 29 (2 : Int32).toNatClampNeg) + 1))) else (if ((wi st 29 (2 : Int32).toNatClampNeg ((st.1 29 (2 : Int32).toNatClampNeg) + 1)).1 0 48) = 0 then (fX11_goNight_113 l1 (-1) 0 (wi st 29 (2 : Int32).toNatClampNeg ((st.1 29 (2 : Int32).toNatClampNeg) + 1))) else (fX11_goNight_113 l1 0 0 (wi st 29 (2 : Int32).toNatClampNeg ((st.1 29 (2 : Int32).toNatClampNeg) + 1)))))))
set_option maxRecDepth 100000 in
set_option maxHeartbeats 4000000 in
theorem bX11_goNight_73  (hC : CallFix p m c cX11_goNight 4 s args lw_good RX11) (hret : meth.sig.returnType = (some .int)) (hlk : meth.locks = false) (hU : gU 1 D cA ad s)  {r : Int32} {st' : gS}  {l1 : Int32} {st : gS} {H : Heap} {locs : List Loc} {ls : Array Slot} (hf : fX11_goNight_73 l1 st = some (r, st')) (hH : gP0 1 D cA ad st H) (hS : va_S (gA 1 ad) s.heap H locs) (hl : lv_has ls 4 [(0, .ref (ad 0)), (1, .int l1)]) : W p l e (gRm 2) s m args below meth c H locs 0 0 (MQ below (gQc 1 D cA ad st' (some (.int r))) args s 0 0 (gA 1 ad)) (F0 m 73 ls []) := by
  obtain ⟨hx, hb, hml, hown, hts⟩ := id hC
  unfold fX11_goNight_73 at hf
  refine lv_aload_n (pc := 73) hx hb dX11_goNight_73 rfl (lv_at hl 0 rfl) ?_
  refine g_get (pc := 74) (v := .ref (ad 29)) hC hU hH gk1_0 g_cl11 56 (by decide) kf_X11_103 rfl dX11_goNight_74 ?_
  refine lv_iconst (v := 2) (pc := 77) hx hb dX11_goNight_77 (by decide) ?_
  refine lv_dup2_11 (pc := 78) hx hb dX11_goNight_78 rfl rfl ?_
  obtain ⟨h73_1, hf⟩ := gc_s hf
  refine g_iald (pc := 79) hC hU hH gk1_29 gn1_29 h73_1 dX11_goNight_79 ?_
  refine lv_iconst (v := 1) (pc := 80) hx hb dX11_goNight_80 (by decide) ?_
  refine lv_iadd (pc := 81) hx hb dX11_goNight_81 ?_
  obtain ⟨h73_2, hf⟩ := gc_s hf
  refine g_iast (pc := 82) hC hU hH hS gk1_29 gn1_29 h73_2 dX11_goNight_82 (fun H locs hH hS => ?_)
  refine lv_aload_n (pc := 83) hx hb dX11_goNight_83 rfl (lv_at hl 0 rfl) ?_
  refine g_get (pc := 84) (v := .ref (ad 29)) hC hU hH gk1_0 g_cl11 56 (by decide) kf_X11_103 rfl dX11_goNight_84 ?_
  refine lv_iconst (v := 2) (pc := 87) hx hb dX11_goNight_87 (by decide) ?_
  obtain ⟨h73_3, hf⟩ := gc_s hf
  refine g_iald (pc := 88) hC hU hH gk1_29 gn1_29 h73_3 dX11_goNight_88 ?_
  refine lv_aload_n (pc := 89) hx hb dX11_goNight_89 rfl (lv_at hl 0 rfl) ?_
  refine g_get (pc := 90) (v := .int ((wi st 29 (2 : Int32).toNatClampNeg ((st.1 29 (2 : Int32).toNatClampNeg) + 1)).1 0 51)) hC hU hH gk1_0 g_cl11 51 (by decide) kf_X11_97 rfl dX11_goNight_90 ?_
  refine lv_icmp_lt (tgt := 132) (pc := 93) hx hb dX11_goNight_93 (by decide) (fun hc => ?_) (fun hc => ?_)
  · have hf := gif_p hc hf
    exact bX11_goNight_132 hC hret hlk hU hf hH hS (lv_sub hl [0, 1] rfl)
  · have hf := gif_n hc hf
    refine lv_aload_n (pc := 96) hx hb dX11_goNight_96 rfl (lv_at hl 0 rfl) ?_
    refine g_get (pc := 97) (v := .ref (ad 29)) hC hU hH gk1_0 g_cl11 56 (by decide) kf_X11_103 rfl dX11_goNight_97 ?_
    refine lv_iconst (v := 0) (pc := 100) hx hb dX11_goNight_100 (by decide) ?_
    refine lv_aload_n (pc := 101) hx hb dX11_goNight_101 rfl (lv_at hl 0 rfl) ?_
    refine g_get (pc := 102) (v := .int ((wi st 29 (2 : Int32).toNatClampNeg ((st.1 29 (2 : Int32).toNatClampNeg) + 1)).1 0 48)) hC hU hH gk1_0 g_cl11 48 (by decide) kf_X11_392 rfl dX11_goNight_102 ?_
    refine lv_if_ne (tgt := 112) (pc := 105) hx hb dX11_goNight_105 (by decide) (fun hc => ?_) (fun hc => ?_)
    · have hf := gif_n hc hf
      refine lv_iconst (v := 0) (pc := 112) hx hb dX11_goNight_112 (by decide) ?_
      exact bX11_goNight_113 hC hret hlk hU hf hH hS (lv_sub hl [0, 1] rfl)
    · have hf := gif_p hc hf
      refine lv_iconst (v := (-1)) (pc := 108) hx hb dX11_goNight_108 (by decide) ?_
      refine lv_goto (tgt := 113) (pc := 109) hx hb dX11_goNight_109 (by decide) ?_
      exact bX11_goNight_113 hC hret hlk hU hf hH hS (lv_sub hl [0, 1] rfl)
def fX11_goNight_4  (k4 : Int32 → Int32 → gS → Option (Int32 × gS)) (l1 : Int32) (l2 : Int32) (st : gS) : Option (Int32 × gS) :=
  if (st.1 0 49) ≤ l2 then (gc (gI 1 18) (if (st.1 29 (1 : Int32).toNatClampNeg) < 0 then (fX11_goNight_73 l1 st) else (gc (gI 1 18) (gc (gI (9 + (st.1 29 (1 : Int32).toNatClampNeg)) 18) (gc (gI (9 + (st.1 29 (1 : Int32).toNatClampNeg)) 18) (fX11_goNight_73 l1 (wi st 29 (9 + (st.1 29 (1 : Int32).toNatClampNeg)).toNatClampNeg ((st.1 29 (9 + (st.1 29 (1 : Int32).toNatClampNeg)).toNatClampNeg) + 1)))))))) else (gc (gI 0 18) ((fX11_worthOf l2 (st.1 29 (0 : Int32).toNatClampNeg) st).bind fun q4_1 => (gc (gI (4 + l2) 18) (gc (gI (4 + l2) 18) (k4 (l1 + q4_1.1) (l2 + 1) (wi q4_1.2 29 (4 + l2).toNatClampNeg ((q4_1.2.1 29 (4 + l2).toNatClampNeg) + q4_1.1)))))))
set_option maxRecDepth 100000 in
set_option maxHeartbeats 4000000 in
theorem bX11_goNight_4  (hC : CallFix p m c cX11_goNight 4 s args lw_good RX11) (hret : meth.sig.returnType = (some .int)) (hlk : meth.locks = false) (hU : gU 1 D cA ad s)  {r : Int32} {st' : gS} {k4 : Int32 → Int32 → gS → Option (Int32 × gS)} (hk4 : ∀ {l1 : Int32} {l2 : Int32} {st : gS} {H : Heap} {locs : List Loc} {ls : Array Slot}, k4 l1 l2 st = some (r, st') → gP0 1 D cA ad st H → va_S (gA 1 ad) s.heap H locs → lv_has ls 4 [(0, .ref (ad 0)), (1, .int l1), (2, .int l2)] → W p l e (gRm 2) s m args below meth c H locs 0 0 (MQ below (gQc 1 D cA ad st' (some (.int r))) args s 0 0 (gA 1 ad)) (F0 m 4 ls [])) {l1 : Int32} {l2 : Int32} {st : gS} {H : Heap} {locs : List Loc} {ls : Array Slot} (hf : fX11_goNight_4 k4 l1 l2 st = some (r, st')) (hH : gP0 1 D cA ad st H) (hS : va_S (gA 1 ad) s.heap H locs) (hl : lv_has ls 4 [(0, .ref (ad 0)), (1, .int l1), (2, .int l2)]) : W p l e (gRm 2) s m args below meth c H locs 0 0 (MQ below (gQc 1 D cA ad st' (some (.int r))) args s 0 0 (gA 1 ad)) (F0 m 4 ls []) := by
  obtain ⟨hx, hb, hml, hown, hts⟩ := id hC
  unfold fX11_goNight_4 at hf
  refine lv_iload_n (pc := 4) hx hb dX11_goNight_4 rfl (lv_at hl 2 rfl) ?_
  refine lv_aload_n (pc := 5) hx hb dX11_goNight_5 rfl (lv_at hl 0 rfl) ?_
  refine g_get (pc := 6) (v := .int (st.1 0 49)) hC hU hH gk1_0 g_cl11 49 (by decide) kf_X11_395 rfl dX11_goNight_6 ?_
  refine lv_icmp_ge (tgt := 46) (pc := 9) hx hb dX11_goNight_9 (by decide) (fun hc => ?_) (fun hc => ?_)
  · have hf := gif_p hc hf
    refine lv_aload_n (pc := 46) hx hb dX11_goNight_46 rfl (lv_at hl 0 rfl) ?_
    refine g_get (pc := 47) (v := .ref (ad 29)) hC hU hH gk1_0 g_cl11 56 (by decide) kf_X11_103 rfl dX11_goNight_47 ?_
    refine lv_iconst (v := 1) (pc := 50) hx hb dX11_goNight_50 (by decide) ?_
    obtain ⟨h4_1, hf⟩ := gc_s hf
    refine g_iald (pc := 51) hC hU hH gk1_29 gn1_29 h4_1 dX11_goNight_51 ?_
    refine lv_if_lt (tgt := 73) (pc := 52) hx hb dX11_goNight_52 (by decide) (fun hc => ?_) (fun hc => ?_)
    · have hf := gif_p hc hf
      exact bX11_goNight_73 hC hret hlk hU hf hH hS (lv_sub hl [0, 1] rfl)
    · have hf := gif_n hc hf
      refine lv_aload_n (pc := 55) hx hb dX11_goNight_55 rfl (lv_at hl 0 rfl) ?_
      refine g_get (pc := 56) (v := .ref (ad 29)) hC hU hH gk1_0 g_cl11 56 (by decide) kf_X11_103 rfl dX11_goNight_56 ?_
      refine lv_bipush (v := 9) (pc := 59) hx hb dX11_goNight_59 (by decide) ?_
      refine lv_aload_n (pc := 61) hx hb dX11_goNight_61 rfl (lv_at hl 0 rfl) ?_
      refine g_get (pc := 62) (v := .ref (ad 29)) hC hU hH gk1_0 g_cl11 56 (by decide) kf_X11_103 rfl dX11_goNight_62 ?_
      refine lv_iconst (v := 1) (pc := 65) hx hb dX11_goNight_65 (by decide) ?_
      obtain ⟨h4_2, hf⟩ := gc_s hf
      refine g_iald (pc := 66) hC hU hH gk1_29 gn1_29 h4_2 dX11_goNight_66 ?_
      refine lv_iadd (pc := 67) hx hb dX11_goNight_67 ?_
      refine lv_dup2_11 (pc := 68) hx hb dX11_goNight_68 rfl rfl ?_
      obtain ⟨h4_3, hf⟩ := gc_s hf
      refine g_iald (pc := 69) hC hU hH gk1_29 gn1_29 h4_3 dX11_goNight_69 ?_
      refine lv_iconst (v := 1) (pc := 70) hx hb dX11_goNight_70 (by decide) ?_
      refine lv_iadd (pc := 71) hx hb dX11_goNight_71 ?_
      obtain ⟨h4_4, hf⟩ := gc_s hf
      refine g_iast (pc := 72) hC hU hH hS gk1_29 gn1_29 h4_4 dX11_goNight_72 (fun H locs hH hS => ?_)
      exact bX11_goNight_73 hC hret hlk hU hf hH hS (lv_sub hl [0, 1] rfl)
  · have hf := gif_n hc hf
    refine lv_aload_n (pc := 12) hx hb dX11_goNight_12 rfl (lv_at hl 0 rfl) ?_
    refine lv_iload_n (pc := 13) hx hb dX11_goNight_13 rfl (lv_at hl 2 rfl) ?_
    refine lv_aload_n (pc := 14) hx hb dX11_goNight_14 rfl (lv_at hl 0 rfl) ?_
    refine g_get (pc := 15) (v := .ref (ad 29)) hC hU hH gk1_0 g_cl11 56 (by decide) kf_X11_103 rfl dX11_goNight_15 ?_
    refine lv_iconst (v := 0) (pc := 18) hx hb dX11_goNight_18 (by decide) ?_
    obtain ⟨h4_5, hf⟩ := gc_s hf
    refine g_iald (pc := 19) hC hU hH gk1_29 gn1_29 h4_5 dX11_goNight_19 ?_
    obtain ⟨q4_1, hq4_1, hf⟩ := gbd hf
    refine g_callVi (pc := 20) (rest := []) hC hU hH hS hl.1 gk1_0 rfl (by decide) (mX11_worthOf  hq4_1) ky_X11_worthOf km_X11_446 ⟨Nat.le_of_ble_eq_true rfl, Nat.le_of_ble_eq_true rfl⟩ ⟨Nat.zero_le _, Nat.zero_le _⟩ rfl (Nat.le_of_ble_eq_true rfl) dX11_goNight_20 rfl (fun H locs hH hS => ?_)
    refine lv_istore_n (lv' := [(3, .int q4_1.1), (0, .ref (ad 0)), (1, .int l1), (2, .int l2)]) (pc := 23) hx hb dX11_goNight_23 rfl hl (by decide) rfl (fun ls hl => ?_)
    refine lv_aload_n (pc := 24) hx hb dX11_goNight_24 rfl (lv_at hl 1 rfl) ?_
    refine g_get (pc := 25) (v := .ref (ad 29)) hC hU hH gk1_0 g_cl11 56 (by decide) kf_X11_103 rfl dX11_goNight_25 ?_
    refine lv_iconst (v := 4) (pc := 28) hx hb dX11_goNight_28 (by decide) ?_
    refine lv_iload_n (pc := 29) hx hb dX11_goNight_29 rfl (lv_at hl 3 rfl) ?_
    refine lv_iadd (pc := 30) hx hb dX11_goNight_30 ?_
    refine lv_dup2_11 (pc := 31) hx hb dX11_goNight_31 rfl rfl ?_
    obtain ⟨h4_6, hf⟩ := gc_s hf
    refine g_iald (pc := 32) hC hU hH gk1_29 gn1_29 h4_6 dX11_goNight_32 ?_
    refine lv_iload_n (pc := 33) hx hb dX11_goNight_33 rfl (lv_at hl 0 rfl) ?_
    refine lv_iadd (pc := 34) hx hb dX11_goNight_34 ?_
    obtain ⟨h4_7, hf⟩ := gc_s hf
    refine g_iast (pc := 35) hC hU hH hS gk1_29 gn1_29 h4_7 dX11_goNight_35 (fun H locs hH hS => ?_)
    refine lv_iload_n (pc := 36) hx hb dX11_goNight_36 rfl (lv_at hl 2 rfl) ?_
    refine lv_iload_n (pc := 37) hx hb dX11_goNight_37 rfl (lv_at hl 0 rfl) ?_
    refine lv_iadd (pc := 38) hx hb dX11_goNight_38 ?_
    refine lv_istore_n (lv' := [(1, .int (l1 + q4_1.1)), (3, .int q4_1.1), (0, .ref (ad 0)), (2, .int l2)]) (pc := 39) hx hb dX11_goNight_39 rfl hl (by decide) rfl (fun ls hl => ?_)
    refine lv_iinc (v := l2 + 1) (lv' := [(2, .int (l2 + 1)), (1, .int (l1 + q4_1.1)), (3, .int q4_1.1), (0, .ref (ad 0))]) (k := 3) (pc := 40) hx hb dX11_goNight_40 hl rfl rfl (by decide) rfl (fun ls hl => ?_)
    refine lv_goto (tgt := 4) (pc := 43) hx hb dX11_goNight_43 (by decide) ?_
    exact hk4 hf hH hS (lv_sub hl [3, 1, 0] rfl)
def hX11_goNight_4   : Nat → Int32 → Int32 → gS → Option (Int32 × gS)
  | 0 => fun _ _ _ => none
  | n + 1 => fun l1 l2 st => fX11_goNight_4 (hX11_goNight_4  n) l1 l2 st
set_option maxRecDepth 100000 in
set_option maxHeartbeats 4000000 in
theorem wX11_goNight_4  (hC : CallFix p m c cX11_goNight 4 s args lw_good RX11) (hret : meth.sig.returnType = (some .int)) (hlk : meth.locks = false) (hU : gU 1 D cA ad s)  {r : Int32} {st' : gS}  : ∀ (n : Nat) {l1 : Int32} {l2 : Int32} {st : gS} {H : Heap} {locs : List Loc} {ls : Array Slot}, hX11_goNight_4  n l1 l2 st = some (r, st') → gP0 1 D cA ad st H → va_S (gA 1 ad) s.heap H locs → lv_has ls 4 [(0, .ref (ad 0)), (1, .int l1), (2, .int l2)] → W p l e (gRm 2) s m args below meth c H locs 0 0 (MQ below (gQc 1 D cA ad st' (some (.int r))) args s 0 0 (gA 1 ad)) (F0 m 4 ls []) := by
  intro n
  induction n with
  | zero => intro l1 l2 st H locs ls hf hH hS hl; cases hf
  | succ n ih =>
    intro l1 l2 st H locs ls hf hH hS hl
    exact bX11_goNight_4  hC hret hlk hU (fun hf hH hS hl => ih hf hH hS hl) hf hH hS hl
def fX11_goNight    (st : gS) : Option (Int32 × gS) :=
  hX11_goNight_4 FU 0 0 st
set_option maxRecDepth 100000 in
set_option maxHeartbeats 4000000 in
theorem bX11_goNight_0  (hC : CallFix p m c cX11_goNight 4 s args lw_good RX11) (hret : meth.sig.returnType = (some .int)) (hlk : meth.locks = false) (hU : gU 1 D cA ad s)  {r : Int32} {st' : gS}   {st : gS} {H : Heap} {locs : List Loc} {ls : Array Slot} (hf : fX11_goNight st = some (r, st')) (hH : gP0 1 D cA ad st H) (hS : va_S (gA 1 ad) s.heap H locs) (hl : lv_has ls 4 [(0, .ref (ad 0))]) : W p l e (gRm 2) s m args below meth c H locs 0 0 (MQ below (gQc 1 D cA ad st' (some (.int r))) args s 0 0 (gA 1 ad)) (F0 m 0 ls []) := by
  obtain ⟨hx, hb, hml, hown, hts⟩ := id hC
  unfold fX11_goNight at hf
  refine lv_iconst (v := 0) (pc := 0) hx hb dX11_goNight_0 (by decide) ?_
  refine lv_istore_n (lv' := [(1, .int 0), (0, .ref (ad 0))]) (pc := 1) hx hb dX11_goNight_1 rfl hl (by decide) rfl (fun ls hl => ?_)
  refine lv_iconst (v := 0) (pc := 2) hx hb dX11_goNight_2 (by decide) ?_
  refine lv_istore_n (lv' := [(2, .int 0), (1, .int 0), (0, .ref (ad 0))]) (pc := 3) hx hb dX11_goNight_3 rfl hl (by decide) rfl (fun ls hl => ?_)
  exact wX11_goNight_4 hC hret hlk hU FU hf hH hS (lv_sub hl [2, 1, 0] rfl)
set_option maxRecDepth 100000 in
set_option maxHeartbeats 4000000 in
theorem mX11_goNight {l : Launch} {D : va_G} {cA : Nat → ClassId} {ad : Nat → Nat}   {r : Int32} {st st' : gS} (hf : fX11_goNight  st = some (r, st')) : gM l yX11_goNight cX11_goNight 4 (some .int) 2 1 D cA ad st [.ref (ad 0)] (some (.int r)) st' := by
  refine g_met (by decide) (Nat.le_of_ble_eq_true rfl) ?_
  intro p e s m args below meth c ls hC hret hlk hU hH hl
  exact bX11_goNight_0 hC hret hlk hU hf hH va_S.rf hl
def fX11_night_30  (k30 : Int32 → Int32 → gS → Option (Int32 × gS)) (l1 : Int32) (l2 : Int32) (st : gS) : Option (Int32 × gS) :=
  if 18 ≤ l2 then (some (l1, st)) else (gc (gI l2 18) (gc (gI l2 18) (k30 l1 (l2 + 1) (wi st 28 l2.toNatClampNeg (st.1 29 l2.toNatClampNeg)))))
set_option maxRecDepth 100000 in
set_option maxHeartbeats 4000000 in
theorem bX11_night_30  (hC : CallFix p m c cX11_night 3 s args lw_good RX11) (hret : meth.sig.returnType = (some .int)) (hlk : meth.locks = false) (hU : gU 1 D cA ad s)  {r : Int32} {st' : gS} {k30 : Int32 → Int32 → gS → Option (Int32 × gS)} (hk30 : ∀ {l1 : Int32} {l2 : Int32} {st : gS} {H : Heap} {locs : List Loc} {ls : Array Slot}, k30 l1 l2 st = some (r, st') → gP0 1 D cA ad st H → va_S (gA 1 ad) s.heap H locs → lv_has ls 3 [(0, .ref (ad 0)), (1, .int l1), (2, .int l2)] → W p l e (gRm 3) s m args below meth c H locs 0 0 (MQ below (gQc 1 D cA ad st' (some (.int r))) args s 0 0 (gA 1 ad)) (F0 m 30 ls [])) {l1 : Int32} {l2 : Int32} {st : gS} {H : Heap} {locs : List Loc} {ls : Array Slot} (hf : fX11_night_30 k30 l1 l2 st = some (r, st')) (hH : gP0 1 D cA ad st H) (hS : va_S (gA 1 ad) s.heap H locs) (hl : lv_has ls 3 [(0, .ref (ad 0)), (1, .int l1), (2, .int l2)]) : W p l e (gRm 3) s m args below meth c H locs 0 0 (MQ below (gQc 1 D cA ad st' (some (.int r))) args s 0 0 (gA 1 ad)) (F0 m 30 ls []) := by
  obtain ⟨hx, hb, hml, hown, hts⟩ := id hC
  unfold fX11_night_30 at hf
  refine lv_iload_n (pc := 30) hx hb dX11_night_30 rfl (lv_at hl 2 rfl) ?_
  refine lv_bipush (v := 18) (pc := 31) hx hb dX11_night_31 (by decide) ?_
  refine lv_icmp_ge (tgt := 54) (pc := 33) hx hb dX11_night_33 (by decide) (fun hc => ?_) (fun hc => ?_)
  · have hf := gif_p hc hf
    refine lv_iload_n (pc := 54) hx hb dX11_night_54 rfl (lv_at hl 1 rfl) ?_
    exact g_iret (pc := 55) hC hret hlk hH hS hf dX11_night_55
  · have hf := gif_n hc hf
    refine lv_aload_n (pc := 36) hx hb dX11_night_36 rfl (lv_at hl 0 rfl) ?_
    refine g_get (pc := 37) (v := .ref (ad 28)) hC hU hH gk1_0 g_cl11 55 (by decide) kf_X11_100 rfl dX11_night_37 ?_
    refine lv_iload_n (pc := 40) hx hb dX11_night_40 rfl (lv_at hl 2 rfl) ?_
    refine lv_aload_n (pc := 41) hx hb dX11_night_41 rfl (lv_at hl 0 rfl) ?_
    refine g_get (pc := 42) (v := .ref (ad 29)) hC hU hH gk1_0 g_cl11 56 (by decide) kf_X11_103 rfl dX11_night_42 ?_
    refine lv_iload_n (pc := 45) hx hb dX11_night_45 rfl (lv_at hl 2 rfl) ?_
    obtain ⟨h30_1, hf⟩ := gc_s hf
    refine g_iald (pc := 46) hC hU hH gk1_29 gn1_29 h30_1 dX11_night_46 ?_
    obtain ⟨h30_2, hf⟩ := gc_s hf
    refine g_iast (pc := 47) hC hU hH hS gk1_28 gn1_28 h30_2 dX11_night_47 (fun H locs hH hS => ?_)
    refine lv_iinc (v := l2 + 1) (lv' := [(2, .int (l2 + 1)), (0, .ref (ad 0)), (1, .int l1)]) (k := 2) (pc := 48) hx hb dX11_night_48 hl rfl rfl (by decide) rfl (fun ls hl => ?_)
    refine lv_goto (tgt := 30) (pc := 51) hx hb dX11_night_51 (by decide) ?_
    exact hk30 hf hH hS (lv_sub hl [1, 2, 0] rfl)
def hX11_night_30   : Nat → Int32 → Int32 → gS → Option (Int32 × gS)
  | 0 => fun _ _ _ => none
  | n + 1 => fun l1 l2 st => fX11_night_30 (hX11_night_30  n) l1 l2 st
set_option maxRecDepth 100000 in
set_option maxHeartbeats 4000000 in
theorem wX11_night_30  (hC : CallFix p m c cX11_night 3 s args lw_good RX11) (hret : meth.sig.returnType = (some .int)) (hlk : meth.locks = false) (hU : gU 1 D cA ad s)  {r : Int32} {st' : gS}  : ∀ (n : Nat) {l1 : Int32} {l2 : Int32} {st : gS} {H : Heap} {locs : List Loc} {ls : Array Slot}, hX11_night_30  n l1 l2 st = some (r, st') → gP0 1 D cA ad st H → va_S (gA 1 ad) s.heap H locs → lv_has ls 3 [(0, .ref (ad 0)), (1, .int l1), (2, .int l2)] → W p l e (gRm 3) s m args below meth c H locs 0 0 (MQ below (gQc 1 D cA ad st' (some (.int r))) args s 0 0 (gA 1 ad)) (F0 m 30 ls []) := by
  intro n
  induction n with
  | zero => intro l1 l2 st H locs ls hf hH hS hl; cases hf
  | succ n ih =>
    intro l1 l2 st H locs ls hf hH hS hl
    exact bX11_night_30  hC hret hlk hU (fun hf hH hS hl => ih hf hH hS hl) hf hH hS hl
def fX11_night    (st : gS) : Option (Int32 × gS) :=
  gc (gI 16 18) (if (st.1 28 (16 : Int32).toNatClampNeg) = 999 then (some ((-1), st)) else ((fX11_act st).bind fun q0_1 => ((fX11_load q0_1).bind fun q0_2 => ((fX11_goNight q0_2).bind fun q0_3 => (hX11_night_30 FU q0_3.1 0 q0_3.2)))))
set_option maxRecDepth 100000 in
set_option maxHeartbeats 4000000 in
theorem bX11_night_0  (hC : CallFix p m c cX11_night 3 s args lw_good RX11) (hret : meth.sig.returnType = (some .int)) (hlk : meth.locks = false) (hU : gU 1 D cA ad s)  {r : Int32} {st' : gS}   {st : gS} {H : Heap} {locs : List Loc} {ls : Array Slot} (hf : fX11_night st = some (r, st')) (hH : gP0 1 D cA ad st H) (hS : va_S (gA 1 ad) s.heap H locs) (hl : lv_has ls 3 [(0, .ref (ad 0))]) : W p l e (gRm 3) s m args below meth c H locs 0 0 (MQ below (gQc 1 D cA ad st' (some (.int r))) args s 0 0 (gA 1 ad)) (F0 m 0 ls []) := by
  obtain ⟨hx, hb, hml, hown, hts⟩ := id hC
  unfold fX11_night at hf
  refine lv_aload_n (pc := 0) hx hb dX11_night_0 rfl (lv_at hl 0 rfl) ?_
  refine g_get (pc := 1) (v := .ref (ad 28)) hC hU hH gk1_0 g_cl11 55 (by decide) kf_X11_100 rfl dX11_night_1 ?_
  refine lv_bipush (v := 16) (pc := 4) hx hb dX11_night_4 (by decide) ?_
  obtain ⟨h0_1, hf⟩ := gc_s hf
  refine g_iald (pc := 6) hC hU hH gk1_28 gn1_28 h0_1 dX11_night_6 ?_
  refine lv_sipush (v := 999) (pc := 7) hx hb dX11_night_7 (by decide) ?_
  refine lv_icmp_ne (tgt := 15) (pc := 10) hx hb dX11_night_10 (by decide) (fun hc => ?_) (fun hc => ?_)
  · have hf := gif_n hc hf
    refine lv_aload_n (pc := 15) hx hb dX11_night_15 rfl (lv_at hl 0 rfl) ?_
    obtain ⟨q0_1, hq0_1, hf⟩ := gbd hf
    refine g_callVv (pc := 16) (rest := []) hC hU hH hS hl.1 gk1_0 rfl (by decide) (mX11_act  hq0_1) ky_X11_act km_X11_452 ⟨Nat.le_of_ble_eq_true rfl, Nat.le_of_ble_eq_true rfl⟩ ⟨Nat.zero_le _, Nat.zero_le _⟩ rfl (Nat.le_of_ble_eq_true rfl) dX11_night_16 rfl (fun H locs hH hS => ?_)
    refine lv_aload_n (pc := 19) hx hb dX11_night_19 rfl (lv_at hl 0 rfl) ?_
    obtain ⟨q0_2, hq0_2, hf⟩ := gbd hf
    refine g_callVv (pc := 20) (rest := []) hC hU hH hS hl.1 gk1_0 rfl (by decide) (mX11_load  hq0_2) ky_X11_load km_X11_455 ⟨Nat.le_of_ble_eq_true rfl, Nat.le_of_ble_eq_true rfl⟩ ⟨Nat.zero_le _, Nat.zero_le _⟩ rfl (Nat.le_of_ble_eq_true rfl) dX11_night_20 rfl (fun H locs hH hS => ?_)
    refine lv_aload_n (pc := 23) hx hb dX11_night_23 rfl (lv_at hl 0 rfl) ?_
    obtain ⟨q0_3, hq0_3, hf⟩ := gbd hf
    refine g_callVi (pc := 24) (rest := []) hC hU hH hS hl.1 gk1_0 rfl (by decide) (mX11_goNight  hq0_3) ky_X11_goNight km_X11_458 ⟨Nat.le_of_ble_eq_true rfl, Nat.le_of_ble_eq_true rfl⟩ ⟨Nat.zero_le _, Nat.zero_le _⟩ rfl (Nat.le_of_ble_eq_true rfl) dX11_night_24 rfl (fun H locs hH hS => ?_)
    refine lv_istore_n (lv' := [(1, .int q0_3.1), (0, .ref (ad 0))]) (pc := 27) hx hb dX11_night_27 rfl hl (by decide) rfl (fun ls hl => ?_)
    refine lv_iconst (v := 0) (pc := 28) hx hb dX11_night_28 (by decide) ?_
    refine lv_istore_n (lv' := [(2, .int 0), (1, .int q0_3.1), (0, .ref (ad 0))]) (pc := 29) hx hb dX11_night_29 rfl hl (by decide) rfl (fun ls hl => ?_)
    exact wX11_night_30 hC hret hlk hU FU hf hH hS (lv_sub hl [2, 1, 0] rfl)
  · have hf := gif_p hc hf
    refine lv_iconst (v := (-1)) (pc := 13) hx hb dX11_night_13 (by decide) ?_
    exact g_iret (pc := 14) hC hret hlk hH hS hf dX11_night_14
set_option maxRecDepth 100000 in
set_option maxHeartbeats 4000000 in
theorem mX11_night {l : Launch} {D : va_G} {cA : Nat → ClassId} {ad : Nat → Nat}   {r : Int32} {st st' : gS} (hf : fX11_night  st = some (r, st')) : gM l yX11_night cX11_night 3 (some .int) 3 1 D cA ad st [.ref (ad 0)] (some (.int r)) st' := by
  refine g_met (by decide) (Nat.le_of_ble_eq_true rfl) ?_
  intro p e s m args below meth c ls hC hret hlk hU hH hl
  exact bX11_night_0 hC hret hlk hU hf hH va_S.rf hl
def fX11_exchange_2 (a1 : Int32) (k2 : Int32 → gS → Option (gS)) (l2 : Int32) (st : gS) : Option (gS) :=
  if 18 ≤ l2 then (some st) else (gc (gI (a1 + l2) 720) (gl (st.1 30 (a1 + l2).toNatClampNeg) fun x16 => (gc (gI l2 18) (gc (gI (a1 + l2) 720) (gc (gI l2 18) (k2 (l2 + 1) (wi (wi st 30 (a1 + l2).toNatClampNeg (st.1 28 l2.toNatClampNeg)) 28 l2.toNatClampNeg x16)))))))
set_option maxRecDepth 100000 in
set_option maxHeartbeats 4000000 in
theorem bX11_exchange_2 {a1 : Int32} (hC : CallFix p m c cX11_exchange 4 s args lw_good RX11) (hret : meth.sig.returnType = none) (hlk : meth.locks = false) (hU : gU 1 D cA ad s)  {st' : gS} {k2 : Int32 → gS → Option (gS)} (hk2 : ∀ {l2 : Int32} {st : gS} {H : Heap} {locs : List Loc} {ls : Array Slot}, k2 l2 st = some st' → gP0 1 D cA ad st H → va_S (gA 1 ad) s.heap H locs → lv_has ls 4 [(0, .ref (ad 0)), (1, .int a1), (2, .int l2)] → W p l e (gRm 1) s m args below meth c H locs 0 0 (MQ below (gQc 1 D cA ad st' none) args s 0 0 (gA 1 ad)) (F0 m 2 ls [])) {l2 : Int32} {st : gS} {H : Heap} {locs : List Loc} {ls : Array Slot} (hf : fX11_exchange_2 a1 k2 l2 st = some st') (hH : gP0 1 D cA ad st H) (hS : va_S (gA 1 ad) s.heap H locs) (hl : lv_has ls 4 [(0, .ref (ad 0)), (1, .int a1), (2, .int l2)]) : W p l e (gRm 1) s m args below meth c H locs 0 0 (MQ below (gQc 1 D cA ad st' none) args s 0 0 (gA 1 ad)) (F0 m 2 ls []) := by
  obtain ⟨hx, hb, hml, hown, hts⟩ := id hC
  unfold fX11_exchange_2 at hf
  refine lv_iload_n (pc := 2) hx hb dX11_exchange_2 rfl (lv_at hl 2 rfl) ?_
  refine lv_bipush (v := 18) (pc := 3) hx hb dX11_exchange_3 (by decide) ?_
  refine lv_icmp_ge (tgt := 44) (pc := 5) hx hb dX11_exchange_5 (by decide) (fun hc => ?_) (fun hc => ?_)
  · have hf := gif_p hc hf
    exact g_vret (pc := 44) hC hret hlk hH hS hf dX11_exchange_44
  · have hf := gif_n hc hf
    refine lv_aload_n (pc := 8) hx hb dX11_exchange_8 rfl (lv_at hl 0 rfl) ?_
    refine g_get (pc := 9) (v := .ref (ad 30)) hC hU hH gk1_0 g_cl11 57 (by decide) kf_X11_106 rfl dX11_exchange_9 ?_
    refine lv_iload_n (pc := 12) hx hb dX11_exchange_12 rfl (lv_at hl 1 rfl) ?_
    refine lv_iload_n (pc := 13) hx hb dX11_exchange_13 rfl (lv_at hl 2 rfl) ?_
    refine lv_iadd (pc := 14) hx hb dX11_exchange_14 ?_
    obtain ⟨h2_1, hf⟩ := gc_s hf
    refine g_iald (pc := 15) hC hU hH gk1_30 gn1_30 h2_1 dX11_exchange_15 ?_
    refine lv_topi (pc := 16) (fun x16 ex16 => ?_)
    have hf := gl_s ex16 hf
    refine lv_istore_n (lv' := [(3, .int x16), (0, .ref (ad 0)), (1, .int a1), (2, .int l2)]) (pc := 16) hx hb dX11_exchange_16 rfl hl (by decide) rfl (fun ls hl => ?_)
    refine lv_aload_n (pc := 17) hx hb dX11_exchange_17 rfl (lv_at hl 1 rfl) ?_
    refine g_get (pc := 18) (v := .ref (ad 30)) hC hU hH gk1_0 g_cl11 57 (by decide) kf_X11_106 rfl dX11_exchange_18 ?_
    refine lv_iload_n (pc := 21) hx hb dX11_exchange_21 rfl (lv_at hl 2 rfl) ?_
    refine lv_iload_n (pc := 22) hx hb dX11_exchange_22 rfl (lv_at hl 3 rfl) ?_
    refine lv_iadd (pc := 23) hx hb dX11_exchange_23 ?_
    refine lv_aload_n (pc := 24) hx hb dX11_exchange_24 rfl (lv_at hl 1 rfl) ?_
    refine g_get (pc := 25) (v := .ref (ad 28)) hC hU hH gk1_0 g_cl11 55 (by decide) kf_X11_100 rfl dX11_exchange_25 ?_
    refine lv_iload_n (pc := 28) hx hb dX11_exchange_28 rfl (lv_at hl 3 rfl) ?_
    obtain ⟨h2_2, hf⟩ := gc_s hf
    refine g_iald (pc := 29) hC hU hH gk1_28 gn1_28 h2_2 dX11_exchange_29 ?_
    obtain ⟨h2_3, hf⟩ := gc_s hf
    refine g_iast (pc := 30) hC hU hH hS gk1_30 gn1_30 h2_3 dX11_exchange_30 (fun H locs hH hS => ?_)
    refine lv_aload_n (pc := 31) hx hb dX11_exchange_31 rfl (lv_at hl 1 rfl) ?_
    refine g_get (pc := 32) (v := .ref (ad 28)) hC hU hH gk1_0 g_cl11 55 (by decide) kf_X11_100 rfl dX11_exchange_32 ?_
    refine lv_iload_n (pc := 35) hx hb dX11_exchange_35 rfl (lv_at hl 3 rfl) ?_
    refine lv_iload_n (pc := 36) hx hb dX11_exchange_36 rfl (lv_at hl 0 rfl) ?_
    obtain ⟨h2_4, hf⟩ := gc_s hf
    refine g_iast (pc := 37) hC hU hH hS gk1_28 gn1_28 h2_4 dX11_exchange_37 (fun H locs hH hS => ?_)
    refine lv_iinc (v := l2 + 1) (lv' := [(2, .int (l2 + 1)), (3, .int x16), (0, .ref (ad 0)), (1, .int a1)]) (k := 3) (pc := 38) hx hb dX11_exchange_38 hl rfl rfl (by decide) rfl (fun ls hl => ?_)
    refine lv_goto (tgt := 2) (pc := 41) hx hb dX11_exchange_41 (by decide) ?_
    exact hk2 hf hH hS (lv_sub hl [2, 3, 0] rfl)
def hX11_exchange_2 (a1 : Int32)  : Nat → Int32 → gS → Option (gS)
  | 0 => fun _ _ => none
  | n + 1 => fun l2 st => fX11_exchange_2 a1 (hX11_exchange_2 a1 n) l2 st
set_option maxRecDepth 100000 in
set_option maxHeartbeats 4000000 in
theorem wX11_exchange_2 {a1 : Int32} (hC : CallFix p m c cX11_exchange 4 s args lw_good RX11) (hret : meth.sig.returnType = none) (hlk : meth.locks = false) (hU : gU 1 D cA ad s)  {st' : gS}  : ∀ (n : Nat) {l2 : Int32} {st : gS} {H : Heap} {locs : List Loc} {ls : Array Slot}, hX11_exchange_2 a1 n l2 st = some st' → gP0 1 D cA ad st H → va_S (gA 1 ad) s.heap H locs → lv_has ls 4 [(0, .ref (ad 0)), (1, .int a1), (2, .int l2)] → W p l e (gRm 1) s m args below meth c H locs 0 0 (MQ below (gQc 1 D cA ad st' none) args s 0 0 (gA 1 ad)) (F0 m 2 ls []) := by
  intro n
  induction n with
  | zero => intro l2 st H locs ls hf hH hS hl; cases hf
  | succ n ih =>
    intro l2 st H locs ls hf hH hS hl
    exact bX11_exchange_2 (a1 := a1) hC hret hlk hU (fun hf hH hS hl => ih hf hH hS hl) hf hH hS hl
def fX11_exchange (a1 : Int32)   (st : gS) : Option (gS) :=
  hX11_exchange_2 a1 FU 0 st
set_option maxRecDepth 100000 in
set_option maxHeartbeats 4000000 in
theorem bX11_exchange_0 {a1 : Int32} (hC : CallFix p m c cX11_exchange 4 s args lw_good RX11) (hret : meth.sig.returnType = none) (hlk : meth.locks = false) (hU : gU 1 D cA ad s)  {st' : gS}   {st : gS} {H : Heap} {locs : List Loc} {ls : Array Slot} (hf : fX11_exchange a1 st = some st') (hH : gP0 1 D cA ad st H) (hS : va_S (gA 1 ad) s.heap H locs) (hl : lv_has ls 4 [(0, .ref (ad 0)), (1, .int a1)]) : W p l e (gRm 1) s m args below meth c H locs 0 0 (MQ below (gQc 1 D cA ad st' none) args s 0 0 (gA 1 ad)) (F0 m 0 ls []) := by
  obtain ⟨hx, hb, hml, hown, hts⟩ := id hC
  unfold fX11_exchange at hf
  refine lv_iconst (v := 0) (pc := 0) hx hb dX11_exchange_0 (by decide) ?_
  refine lv_istore_n (lv' := [(2, .int 0), (0, .ref (ad 0)), (1, .int a1)]) (pc := 1) hx hb dX11_exchange_1 rfl hl (by decide) rfl (fun ls hl => ?_)
  exact wX11_exchange_2 hC hret hlk hU FU hf hH hS (lv_sub hl [1, 2, 0] rfl)
set_option maxRecDepth 100000 in
set_option maxHeartbeats 4000000 in
theorem mX11_exchange {l : Launch} {D : va_G} {cA : Nat → ClassId} {ad : Nat → Nat} {a1 : Int32}  {st st' : gS} (hf : fX11_exchange a1 st = some st') : gM l yX11_exchange cX11_exchange 4 none 1 1 D cA ad st [.ref (ad 0), .int a1] none st' := by
  refine g_met (by decide) (Nat.le_of_ble_eq_true rfl) ?_
  intro p e s m args below meth c ls hC hret hlk hU hH hl
  exact bX11_exchange_0 hC hret hlk hU hf hH va_S.rf hl
def fX11_undo    (st : gS) : Option (Int32 × gS) :=
  if (st.1 0 58) = 0 then (some (0, st)) else ((fX11_exchange (18 * ((wi (wi st 0 58 ((st.1 0 58) - 1)) 0 59 (((wi st 0 58 ((st.1 0 58) - 1)).1 0 59) + 1)).1 0 58)) (wi (wi st 0 58 ((st.1 0 58) - 1)) 0 59 (((wi st 0 58 ((st.1 0 58) - 1)).1 0 59) + 1))).bind fun q0_1 => (some (1, q0_1)))
set_option maxRecDepth 100000 in
set_option maxHeartbeats 4000000 in
theorem bX11_undo_0  (hC : CallFix p m c cX11_undo 1 s args lw_good RX11) (hret : meth.sig.returnType = (some .boolean)) (hlk : meth.locks = false) (hU : gU 1 D cA ad s)  {r : Int32} {st' : gS}   {st : gS} {H : Heap} {locs : List Loc} {ls : Array Slot} (hf : fX11_undo st = some (r, st')) (hH : gP0 1 D cA ad st H) (hS : va_S (gA 1 ad) s.heap H locs) (hl : lv_has ls 1 [(0, .ref (ad 0))]) : W p l e (gRm 2) s m args below meth c H locs 0 0 (MQ below (gQc 1 D cA ad st' (some (.int r))) args s 0 0 (gA 1 ad)) (F0 m 0 ls []) := by
  obtain ⟨hx, hb, hml, hown, hts⟩ := id hC
  unfold fX11_undo at hf
  refine lv_aload_n (pc := 0) hx hb dX11_undo_0 rfl (lv_at hl 0 rfl) ?_
  refine g_get (pc := 1) (v := .int (st.1 0 58)) hC hU hH gk1_0 g_cl11 58 (by decide) kf_X11_404 rfl dX11_undo_1 ?_
  refine lv_if_ne (tgt := 9) (pc := 4) hx hb dX11_undo_4 (by decide) (fun hc => ?_) (fun hc => ?_)
  · have hf := gif_n hc hf
    refine lv_aload_n (pc := 9) hx hb dX11_undo_9 rfl (lv_at hl 0 rfl) ?_
    refine lv_dup (pc := 10) hx hb dX11_undo_10 rfl ?_
    refine g_get (pc := 11) (v := .int (st.1 0 58)) hC hU hH gk1_0 g_cl11 58 (by decide) kf_X11_404 rfl dX11_undo_11 ?_
    refine lv_iconst (v := 1) (pc := 14) hx hb dX11_undo_14 (by decide) ?_
    refine lv_isub (pc := 15) hx hb dX11_undo_15 ?_
    refine g_puti (pc := 16) hC hU hH hS gk1_0 g_cl11 58 (by decide) kf_X11_404 rfl rfl rfl rfl dX11_undo_16 (fun H locs hH hS => ?_)
    refine lv_aload_n (pc := 19) hx hb dX11_undo_19 rfl (lv_at hl 0 rfl) ?_
    refine lv_dup (pc := 20) hx hb dX11_undo_20 rfl ?_
    refine g_get (pc := 21) (v := .int ((wi st 0 58 ((st.1 0 58) - 1)).1 0 59)) hC hU hH gk1_0 g_cl11 59 (by decide) kf_X11_407 rfl dX11_undo_21 ?_
    refine lv_iconst (v := 1) (pc := 24) hx hb dX11_undo_24 (by decide) ?_
    refine lv_iadd (pc := 25) hx hb dX11_undo_25 ?_
    refine g_puti (pc := 26) hC hU hH hS gk1_0 g_cl11 59 (by decide) kf_X11_407 rfl rfl rfl rfl dX11_undo_26 (fun H locs hH hS => ?_)
    refine lv_aload_n (pc := 29) hx hb dX11_undo_29 rfl (lv_at hl 0 rfl) ?_
    refine lv_bipush (v := 18) (pc := 30) hx hb dX11_undo_30 (by decide) ?_
    refine lv_aload_n (pc := 32) hx hb dX11_undo_32 rfl (lv_at hl 0 rfl) ?_
    refine g_get (pc := 33) (v := .int ((wi (wi st 0 58 ((st.1 0 58) - 1)) 0 59 (((wi st 0 58 ((st.1 0 58) - 1)).1 0 59) + 1)).1 0 58)) hC hU hH gk1_0 g_cl11 58 (by decide) kf_X11_404 rfl dX11_undo_33 ?_
    refine lv_imul (pc := 36) hx hb dX11_undo_36 ?_
    obtain ⟨q0_1, hq0_1, hf⟩ := gbd hf
    refine g_callVv (pc := 37) (rest := []) hC hU hH hS hl.1 gk1_0 rfl (by decide) (mX11_exchange  hq0_1) ky_X11_exchange km_X11_461 ⟨Nat.le_of_ble_eq_true rfl, Nat.le_of_ble_eq_true rfl⟩ ⟨Nat.zero_le _, Nat.zero_le _⟩ rfl (Nat.le_of_ble_eq_true rfl) dX11_undo_37 rfl (fun H locs hH hS => ?_)
    refine lv_iconst (v := 1) (pc := 40) hx hb dX11_undo_40 (by decide) ?_
    exact g_zret (pc := 41) hC hret hlk hH hS (by decide) hf dX11_undo_41
  · have hf := gif_p hc hf
    refine lv_iconst (v := 0) (pc := 7) hx hb dX11_undo_7 (by decide) ?_
    exact g_zret (pc := 8) hC hret hlk hH hS (by decide) hf dX11_undo_8
set_option maxRecDepth 100000 in
set_option maxHeartbeats 4000000 in
theorem mX11_undo {l : Launch} {D : va_G} {cA : Nat → ClassId} {ad : Nat → Nat}   {r : Int32} {st st' : gS} (hf : fX11_undo  st = some (r, st')) : gM l yX11_undo cX11_undo 1 (some .boolean) 2 1 D cA ad st [.ref (ad 0)] (some (.int r)) st' := by
  refine g_met (by decide) (Nat.le_of_ble_eq_true rfl) ?_
  intro p e s m args below meth c ls hC hret hlk hU hH hl
  exact bX11_undo_0 hC hret hlk hU hf hH va_S.rf hl
def fX11_redo    (st : gS) : Option (Int32 × gS) :=
  if (st.1 0 59) = 0 then (some (0, st)) else ((fX11_exchange (18 * (st.1 0 58)) st).bind fun q0_1 => (some (1, wi (wi q0_1 0 58 ((q0_1.1 0 58) + 1)) 0 59 (((wi q0_1 0 58 ((q0_1.1 0 58) + 1)).1 0 59) - 1))))
set_option maxRecDepth 100000 in
set_option maxHeartbeats 4000000 in
theorem bX11_redo_0  (hC : CallFix p m c cX11_redo 1 s args lw_good RX11) (hret : meth.sig.returnType = (some .boolean)) (hlk : meth.locks = false) (hU : gU 1 D cA ad s)  {r : Int32} {st' : gS}   {st : gS} {H : Heap} {locs : List Loc} {ls : Array Slot} (hf : fX11_redo st = some (r, st')) (hH : gP0 1 D cA ad st H) (hS : va_S (gA 1 ad) s.heap H locs) (hl : lv_has ls 1 [(0, .ref (ad 0))]) : W p l e (gRm 2) s m args below meth c H locs 0 0 (MQ below (gQc 1 D cA ad st' (some (.int r))) args s 0 0 (gA 1 ad)) (F0 m 0 ls []) := by
  obtain ⟨hx, hb, hml, hown, hts⟩ := id hC
  unfold fX11_redo at hf
  refine lv_aload_n (pc := 0) hx hb dX11_redo_0 rfl (lv_at hl 0 rfl) ?_
  refine g_get (pc := 1) (v := .int (st.1 0 59)) hC hU hH gk1_0 g_cl11 59 (by decide) kf_X11_407 rfl dX11_redo_1 ?_
  refine lv_if_ne (tgt := 9) (pc := 4) hx hb dX11_redo_4 (by decide) (fun hc => ?_) (fun hc => ?_)
  · have hf := gif_n hc hf
    refine lv_aload_n (pc := 9) hx hb dX11_redo_9 rfl (lv_at hl 0 rfl) ?_
    refine lv_bipush (v := 18) (pc := 10) hx hb dX11_redo_10 (by decide) ?_
    refine lv_aload_n (pc := 12) hx hb dX11_redo_12 rfl (lv_at hl 0 rfl) ?_
    refine g_get (pc := 13) (v := .int (st.1 0 58)) hC hU hH gk1_0 g_cl11 58 (by decide) kf_X11_404 rfl dX11_redo_13 ?_
    refine lv_imul (pc := 16) hx hb dX11_redo_16 ?_
    obtain ⟨q0_1, hq0_1, hf⟩ := gbd hf
    refine g_callVv (pc := 17) (rest := []) hC hU hH hS hl.1 gk1_0 rfl (by decide) (mX11_exchange  hq0_1) ky_X11_exchange km_X11_461 ⟨Nat.le_of_ble_eq_true rfl, Nat.le_of_ble_eq_true rfl⟩ ⟨Nat.zero_le _, Nat.zero_le _⟩ rfl (Nat.le_of_ble_eq_true rfl) dX11_redo_17 rfl (fun H locs hH hS => ?_)
    refine lv_aload_n (pc := 20) hx hb dX11_redo_20 rfl (lv_at hl 0 rfl) ?_
    refine lv_dup (pc := 21) hx hb dX11_redo_21 rfl ?_
    refine g_get (pc := 22) (v := .int (q0_1.1 0 58)) hC hU hH gk1_0 g_cl11 58 (by decide) kf_X11_404 rfl dX11_redo_22 ?_
    refine lv_iconst (v := 1) (pc := 25) hx hb dX11_redo_25 (by decide) ?_
    refine lv_iadd (pc := 26) hx hb dX11_redo_26 ?_
    refine g_puti (pc := 27) hC hU hH hS gk1_0 g_cl11 58 (by decide) kf_X11_404 rfl rfl rfl rfl dX11_redo_27 (fun H locs hH hS => ?_)
    refine lv_aload_n (pc := 30) hx hb dX11_redo_30 rfl (lv_at hl 0 rfl) ?_
    refine lv_dup (pc := 31) hx hb dX11_redo_31 rfl ?_
    refine g_get (pc := 32) (v := .int ((wi q0_1 0 58 ((q0_1.1 0 58) + 1)).1 0 59)) hC hU hH gk1_0 g_cl11 59 (by decide) kf_X11_407 rfl dX11_redo_32 ?_
    refine lv_iconst (v := 1) (pc := 35) hx hb dX11_redo_35 (by decide) ?_
    refine lv_isub (pc := 36) hx hb dX11_redo_36 ?_
    refine g_puti (pc := 37) hC hU hH hS gk1_0 g_cl11 59 (by decide) kf_X11_407 rfl rfl rfl rfl dX11_redo_37 (fun H locs hH hS => ?_)
    refine lv_iconst (v := 1) (pc := 40) hx hb dX11_redo_40 (by decide) ?_
    exact g_zret (pc := 41) hC hret hlk hH hS (by decide) hf dX11_redo_41
  · have hf := gif_p hc hf
    refine lv_iconst (v := 0) (pc := 7) hx hb dX11_redo_7 (by decide) ?_
    exact g_zret (pc := 8) hC hret hlk hH hS (by decide) hf dX11_redo_8
set_option maxRecDepth 100000 in
set_option maxHeartbeats 4000000 in
theorem mX11_redo {l : Launch} {D : va_G} {cA : Nat → ClassId} {ad : Nat → Nat}   {r : Int32} {st st' : gS} (hf : fX11_redo  st = some (r, st')) : gM l yX11_redo cX11_redo 1 (some .boolean) 2 1 D cA ad st [.ref (ad 0)] (some (.int r)) st' := by
  refine g_met (by decide) (Nat.le_of_ble_eq_true rfl) ?_
  intro p e s m args below meth c ls hC hret hlk hU hH hl
  exact bX11_redo_0 hC hret hlk hU hf hH va_S.rf hl
def fX11_isOther (a1 : Int32)   (st : gS) : Option (Int32 × gS) :=
  (fX11_isTribe a1 st).bind fun q0_1 => (if q0_1.1 = 0 then (some (0, q0_1.2)) else (gc (gI 1 18) (if a1 = (q0_1.2.1 28 (1 : Int32).toNatClampNeg) then (some (0, q0_1.2)) else (some (1, q0_1.2)))))
set_option maxRecDepth 100000 in
set_option maxHeartbeats 4000000 in
theorem bX11_isOther_0 {a1 : Int32} (hC : CallFix p m c cX11_isOther 2 s args lw_good RX11) (hret : meth.sig.returnType = (some .boolean)) (hlk : meth.locks = false) (hU : gU 1 D cA ad s)  {r : Int32} {st' : gS}   {st : gS} {H : Heap} {locs : List Loc} {ls : Array Slot} (hf : fX11_isOther a1 st = some (r, st')) (hH : gP0 1 D cA ad st H) (hS : va_S (gA 1 ad) s.heap H locs) (hl : lv_has ls 2 [(0, .ref (ad 0)), (1, .int a1)]) : W p l e (gRm 3) s m args below meth c H locs 0 0 (MQ below (gQc 1 D cA ad st' (some (.int r))) args s 0 0 (gA 1 ad)) (F0 m 0 ls []) := by
  obtain ⟨hx, hb, hml, hown, hts⟩ := id hC
  unfold fX11_isOther at hf
  refine lv_aload_n (pc := 0) hx hb dX11_isOther_0 rfl (lv_at hl 0 rfl) ?_
  refine lv_iload_n (pc := 1) hx hb dX11_isOther_1 rfl (lv_at hl 1 rfl) ?_
  obtain ⟨q0_1, hq0_1, hf⟩ := gbd hf
  refine g_callVi (pc := 2) (rest := []) hC hU hH hS hl.1 gk1_0 rfl (by decide) (mX11_isTribe  hq0_1) ky_X11_isTribe km_X11_431 ⟨Nat.le_of_ble_eq_true rfl, Nat.le_of_ble_eq_true rfl⟩ ⟨Nat.zero_le _, Nat.zero_le _⟩ rfl (Nat.le_of_ble_eq_true rfl) dX11_isOther_2 rfl (fun H locs hH hS => ?_)
  refine lv_if_eq (tgt := 22) (pc := 5) hx hb dX11_isOther_5 (by decide) (fun hc => ?_) (fun hc => ?_)
  · have hf := gif_p hc hf
    refine lv_iconst (v := 0) (pc := 22) hx hb dX11_isOther_22 (by decide) ?_
    exact g_zret (pc := 23) hC hret hlk hH hS (by decide) hf dX11_isOther_23
  · have hf := gif_n hc hf
    refine lv_iload_n (pc := 8) hx hb dX11_isOther_8 rfl (lv_at hl 1 rfl) ?_
    refine lv_aload_n (pc := 9) hx hb dX11_isOther_9 rfl (lv_at hl 0 rfl) ?_
    refine g_get (pc := 10) (v := .ref (ad 28)) hC hU hH gk1_0 g_cl11 55 (by decide) kf_X11_100 rfl dX11_isOther_10 ?_
    refine lv_iconst (v := 1) (pc := 13) hx hb dX11_isOther_13 (by decide) ?_
    obtain ⟨h0_1, hf⟩ := gc_s hf
    refine g_iald (pc := 14) hC hU hH gk1_28 gn1_28 h0_1 dX11_isOther_14 ?_
    refine lv_icmp_eq (tgt := 22) (pc := 15) hx hb dX11_isOther_15 (by decide) (fun hc => ?_) (fun hc => ?_)
    · have hf := gif_p hc hf
      refine lv_iconst (v := 0) (pc := 22) hx hb dX11_isOther_22 (by decide) ?_
      exact g_zret (pc := 23) hC hret hlk hH hS (by decide) hf dX11_isOther_23
    · have hf := gif_n hc hf
      refine lv_iconst (v := 1) (pc := 18) hx hb dX11_isOther_18 (by decide) ?_
      refine lv_goto (tgt := 23) (pc := 19) hx hb dX11_isOther_19 (by decide) ?_
      exact g_zret (pc := 23) hC hret hlk hH hS (by decide) hf dX11_isOther_23
set_option maxRecDepth 100000 in
set_option maxHeartbeats 4000000 in
theorem mX11_isOther {l : Launch} {D : va_G} {cA : Nat → ClassId} {ad : Nat → Nat} {a1 : Int32}  {r : Int32} {st st' : gS} (hf : fX11_isOther a1 st = some (r, st')) : gM l yX11_isOther cX11_isOther 2 (some .boolean) 3 1 D cA ad st [.ref (ad 0), .int a1] (some (.int r)) st' := by
  refine g_met (by decide) (Nat.le_of_ble_eq_true rfl) ?_
  intro p e s m args below meth c ls hC hret hlk hU hH hl
  exact bX11_isOther_0 hC hret hlk hU hf hH va_S.rf hl
def fX11_takerAt (a1 : Int32) (a2 : Int32)   (st : gS) : Option (Int32 × gS) :=
  if a1 = 0 then (some (a2, st)) else (gc (gI 1 18) (some (st.1 28 (1 : Int32).toNatClampNeg, st)))
set_option maxRecDepth 100000 in
set_option maxHeartbeats 4000000 in
theorem bX11_takerAt_0 {a1 : Int32} {a2 : Int32} (hC : CallFix p m c cX11_takerAt 3 s args lw_good RX11) (hret : meth.sig.returnType = (some .int)) (hlk : meth.locks = false) (hU : gU 1 D cA ad s)  {r : Int32} {st' : gS}   {st : gS} {H : Heap} {locs : List Loc} {ls : Array Slot} (hf : fX11_takerAt a1 a2 st = some (r, st')) (hH : gP0 1 D cA ad st H) (hS : va_S (gA 1 ad) s.heap H locs) (hl : lv_has ls 3 [(0, .ref (ad 0)), (1, .int a1), (2, .int a2)]) : W p l e (gRm 1) s m args below meth c H locs 0 0 (MQ below (gQc 1 D cA ad st' (some (.int r))) args s 0 0 (gA 1 ad)) (F0 m 0 ls []) := by
  obtain ⟨hx, hb, hml, hown, hts⟩ := id hC
  unfold fX11_takerAt at hf
  refine lv_iload_n (pc := 0) hx hb dX11_takerAt_0 rfl (lv_at hl 1 rfl) ?_
  refine lv_if_ne (tgt := 8) (pc := 1) hx hb dX11_takerAt_1 (by decide) (fun hc => ?_) (fun hc => ?_)
  · have hf := gif_n hc hf
    refine lv_aload_n (pc := 8) hx hb dX11_takerAt_8 rfl (lv_at hl 0 rfl) ?_
    refine g_get (pc := 9) (v := .ref (ad 28)) hC hU hH gk1_0 g_cl11 55 (by decide) kf_X11_100 rfl dX11_takerAt_9 ?_
    refine lv_iconst (v := 1) (pc := 12) hx hb dX11_takerAt_12 (by decide) ?_
    obtain ⟨h0_1, hf⟩ := gc_s hf
    refine g_iald (pc := 13) hC hU hH gk1_28 gn1_28 h0_1 dX11_takerAt_13 ?_
    exact g_iret (pc := 14) hC hret hlk hH hS hf dX11_takerAt_14
  · have hf := gif_p hc hf
    refine lv_iload_n (pc := 4) hx hb dX11_takerAt_4 rfl (lv_at hl 2 rfl) ?_
    refine lv_goto (tgt := 14) (pc := 5) hx hb dX11_takerAt_5 (by decide) ?_
    exact g_iret (pc := 14) hC hret hlk hH hS hf dX11_takerAt_14
set_option maxRecDepth 100000 in
set_option maxHeartbeats 4000000 in
theorem mX11_takerAt {l : Launch} {D : va_G} {cA : Nat → ClassId} {ad : Nat → Nat} {a1 : Int32} {a2 : Int32}  {r : Int32} {st st' : gS} (hf : fX11_takerAt a1 a2 st = some (r, st')) : gM l yX11_takerAt cX11_takerAt 3 (some .int) 1 1 D cA ad st [.ref (ad 0), .int a1, .int a2] (some (.int r)) st' := by
  refine g_met (by decide) (Nat.le_of_ble_eq_true rfl) ?_
  intro p e s m args below meth c ls hC hret hlk hU hH hl
  exact bX11_takerAt_0 hC hret hlk hU hf hH va_S.rf hl
def fX11_leastFrom_8 (a1 : Int32) (a2 : Int32) (a3 : Int32) (k8 : Int32 → Int32 → gS → Option (Int32 × gS)) (l4 : Int32) (l5 : Int32) (st : gS) : Option (Int32 × gS) :=
  if (st.1 0 50) ≤ l5 then (some (l4, st)) else (gc (gI l5 16) (gc (gI ((8 * (1 - a2)) + (st.1 22 l5.toNatClampNeg)) 16) (gl ((st.1 31 ((8 * (1 - a2)) + (st.1 22 l5.toNatClampNeg)).toNatClampNeg) + 1) fun x38 => (gc (gI l5 16) (if (st.1 21 l5.toNatClampNeg) = a1 then ((fX11_takerAt a2 a3 st).bind fun q8_1 => ((fX11_can q8_1.1 l5 q8_1.2).bind fun q8_2 => (if q8_2.1 = 0 then (k8 l4 (l5 + 1) q8_2.2) else (if l4 ≤ x38 then (k8 l4 (l5 + 1) q8_2.2) else (k8 x38 (l5 + 1) q8_2.2))))) else (k8 l4 (l5 + 1) st))))))
set_option maxRecDepth 100000 in
set_option maxHeartbeats 4000000 in
theorem bX11_leastFrom_8 {a1 : Int32} {a2 : Int32} {a3 : Int32} (hC : CallFix p m c cX11_leastFrom 7 s args lw_good RX11) (hret : meth.sig.returnType = (some .int)) (hlk : meth.locks = false) (hU : gU 1 D cA ad s)  {r : Int32} {st' : gS} {k8 : Int32 → Int32 → gS → Option (Int32 × gS)} (hk8 : ∀ {l4 : Int32} {l5 : Int32} {st : gS} {H : Heap} {locs : List Loc} {ls : Array Slot}, k8 l4 l5 st = some (r, st') → gP0 1 D cA ad st H → va_S (gA 1 ad) s.heap H locs → lv_has ls 7 [(0, .ref (ad 0)), (1, .int a1), (2, .int a2), (3, .int a3), (4, .int l4), (5, .int l5)] → W p l e (gRm 3) s m args below meth c H locs 0 0 (MQ below (gQc 1 D cA ad st' (some (.int r))) args s 0 0 (gA 1 ad)) (F0 m 8 ls [])) {l4 : Int32} {l5 : Int32} {st : gS} {H : Heap} {locs : List Loc} {ls : Array Slot} (hf : fX11_leastFrom_8 a1 a2 a3 k8 l4 l5 st = some (r, st')) (hH : gP0 1 D cA ad st H) (hS : va_S (gA 1 ad) s.heap H locs) (hl : lv_has ls 7 [(0, .ref (ad 0)), (1, .int a1), (2, .int a2), (3, .int a3), (4, .int l4), (5, .int l5)]) : W p l e (gRm 3) s m args below meth c H locs 0 0 (MQ below (gQc 1 D cA ad st' (some (.int r))) args s 0 0 (gA 1 ad)) (F0 m 8 ls []) := by
  obtain ⟨hx, hb, hml, hown, hts⟩ := id hC
  unfold fX11_leastFrom_8 at hf
  refine lv_iload (pc := 8) hx hb dX11_leastFrom_8 (lv_at hl 5 rfl) ?_
  refine lv_aload_n (pc := 10) hx hb dX11_leastFrom_10 rfl (lv_at hl 0 rfl) ?_
  refine g_get (pc := 11) (v := .int (st.1 0 50)) hC hU hH gk1_0 g_cl11 50 (by decide) kf_X11_398 rfl dX11_leastFrom_11 ?_
  refine lv_icmp_ge (tgt := 83) (pc := 14) hx hb dX11_leastFrom_14 (by decide) (fun hc => ?_) (fun hc => ?_)
  · have hf := gif_p hc hf
    refine lv_iload (pc := 83) hx hb dX11_leastFrom_83 (lv_at hl 4 rfl) ?_
    exact g_iret (pc := 85) hC hret hlk hH hS hf dX11_leastFrom_85
  · have hf := gif_n hc hf
    refine lv_aload_n (pc := 17) hx hb dX11_leastFrom_17 rfl (lv_at hl 0 rfl) ?_
    refine g_get (pc := 18) (v := .ref (ad 31)) hC hU hH gk1_0 g_cl11 60 (by decide) kf_X11_109 rfl dX11_leastFrom_18 ?_
    refine lv_bipush (v := 8) (pc := 21) hx hb dX11_leastFrom_21 (by decide) ?_
    refine lv_iconst (v := 1) (pc := 23) hx hb dX11_leastFrom_23 (by decide) ?_
    refine lv_iload_n (pc := 24) hx hb dX11_leastFrom_24 rfl (lv_at hl 2 rfl) ?_
    refine lv_isub (pc := 25) hx hb dX11_leastFrom_25 ?_
    refine lv_imul (pc := 26) hx hb dX11_leastFrom_26 ?_
    refine lv_aload_n (pc := 27) hx hb dX11_leastFrom_27 rfl (lv_at hl 0 rfl) ?_
    refine g_get (pc := 28) (v := .ref (ad 22)) hC hU hH gk1_0 g_cl11 37 (by decide) kf_X11_78 rfl dX11_leastFrom_28 ?_
    refine lv_iload (pc := 31) hx hb dX11_leastFrom_31 (lv_at hl 5 rfl) ?_
    obtain ⟨h8_1, hf⟩ := gc_s hf
    refine g_iald (pc := 33) hC hU hH gk1_22 gn1_22 h8_1 dX11_leastFrom_33 ?_
    refine lv_iadd (pc := 34) hx hb dX11_leastFrom_34 ?_
    obtain ⟨h8_2, hf⟩ := gc_s hf
    refine g_iald (pc := 35) hC hU hH gk1_31 gn1_31 h8_2 dX11_leastFrom_35 ?_
    refine lv_iconst (v := 1) (pc := 36) hx hb dX11_leastFrom_36 (by decide) ?_
    refine lv_iadd (pc := 37) hx hb dX11_leastFrom_37 ?_
    refine lv_topi (pc := 38) (fun x38 ex38 => ?_)
    have hf := gl_s ex38 hf
    refine lv_istore (lv' := [(6, .int x38), (0, .ref (ad 0)), (1, .int a1), (2, .int a2), (3, .int a3), (4, .int l4), (5, .int l5)]) (pc := 38) hx hb dX11_leastFrom_38 hl (by decide) rfl (fun ls hl => ?_)
    refine lv_aload_n (pc := 40) hx hb dX11_leastFrom_40 rfl (lv_at hl 1 rfl) ?_
    refine g_get (pc := 41) (v := .ref (ad 21)) hC hU hH gk1_0 g_cl11 36 (by decide) kf_X11_75 rfl dX11_leastFrom_41 ?_
    refine lv_iload (pc := 44) hx hb dX11_leastFrom_44 (lv_at hl 6 rfl) ?_
    obtain ⟨h8_3, hf⟩ := gc_s hf
    refine g_iald (pc := 46) hC hU hH gk1_21 gn1_21 h8_3 dX11_leastFrom_46 ?_
    refine lv_iload_n (pc := 47) hx hb dX11_leastFrom_47 rfl (lv_at hl 2 rfl) ?_
    refine lv_icmp_ne (tgt := 77) (pc := 48) hx hb dX11_leastFrom_48 (by decide) (fun hc => ?_) (fun hc => ?_)
    · have hf := gif_n hc hf
      refine lv_iinc (v := l5 + 1) (lv' := [(5, .int (l5 + 1)), (6, .int x38), (0, .ref (ad 0)), (1, .int a1), (2, .int a2), (3, .int a3), (4, .int l4)]) (k := 6) (pc := 77) hx hb dX11_leastFrom_77 hl rfl rfl (by decide) rfl (fun ls hl => ?_)
      refine lv_goto (tgt := 8) (pc := 80) hx hb dX11_leastFrom_80 (by decide) ?_
      exact hk8 hf hH hS (lv_sub hl [2, 3, 4, 5, 6, 0] rfl)
    · have hf := gif_p hc hf
      refine lv_aload_n (pc := 51) hx hb dX11_leastFrom_51 rfl (lv_at hl 1 rfl) ?_
      refine lv_aload_n (pc := 52) hx hb dX11_leastFrom_52 rfl (lv_at hl 1 rfl) ?_
      refine lv_iload_n (pc := 53) hx hb dX11_leastFrom_53 rfl (lv_at hl 3 rfl) ?_
      refine lv_iload_n (pc := 54) hx hb dX11_leastFrom_54 rfl (lv_at hl 4 rfl) ?_
      obtain ⟨q8_1, hq8_1, hf⟩ := gbd hf
      refine g_callVi (pc := 55) (rest := [.ref (ad 0)]) hC hU hH hS hl.1 gk1_0 rfl (by decide) (mX11_takerAt  hq8_1) ky_X11_takerAt km_X11_465 ⟨Nat.le_of_ble_eq_true rfl, Nat.le_of_ble_eq_true rfl⟩ ⟨Nat.zero_le _, Nat.zero_le _⟩ rfl (Nat.le_of_ble_eq_true rfl) dX11_leastFrom_55 rfl (fun H locs hH hS => ?_)
      refine lv_iload (pc := 58) hx hb dX11_leastFrom_58 (lv_at hl 6 rfl) ?_
      obtain ⟨q8_2, hq8_2, hf⟩ := gbd hf
      refine g_callVi (pc := 60) (rest := []) hC hU hH hS hl.1 gk1_0 rfl (by decide) (mX11_can  hq8_2) ky_X11_can km_X11_427 ⟨Nat.le_of_ble_eq_true rfl, Nat.le_of_ble_eq_true rfl⟩ ⟨Nat.zero_le _, Nat.zero_le _⟩ rfl (Nat.le_of_ble_eq_true rfl) dX11_leastFrom_60 rfl (fun H locs hH hS => ?_)
      refine lv_if_eq (tgt := 77) (pc := 63) hx hb dX11_leastFrom_63 (by decide) (fun hc => ?_) (fun hc => ?_)
      · have hf := gif_p hc hf
        refine lv_iinc (v := l5 + 1) (lv' := [(5, .int (l5 + 1)), (6, .int x38), (0, .ref (ad 0)), (1, .int a1), (2, .int a2), (3, .int a3), (4, .int l4)]) (k := 6) (pc := 77) hx hb dX11_leastFrom_77 hl rfl rfl (by decide) rfl (fun ls hl => ?_)
        refine lv_goto (tgt := 8) (pc := 80) hx hb dX11_leastFrom_80 (by decide) ?_
        exact hk8 hf hH hS (lv_sub hl [2, 3, 4, 5, 6, 0] rfl)
      · have hf := gif_n hc hf
        refine lv_iload (pc := 66) hx hb dX11_leastFrom_66 (lv_at hl 0 rfl) ?_
        refine lv_iload (pc := 68) hx hb dX11_leastFrom_68 (lv_at hl 5 rfl) ?_
        refine lv_icmp_ge (tgt := 77) (pc := 70) hx hb dX11_leastFrom_70 (by decide) (fun hc => ?_) (fun hc => ?_)
        · have hf := gif_p hc hf
          refine lv_iinc (v := l5 + 1) (lv' := [(5, .int (l5 + 1)), (6, .int x38), (0, .ref (ad 0)), (1, .int a1), (2, .int a2), (3, .int a3), (4, .int l4)]) (k := 6) (pc := 77) hx hb dX11_leastFrom_77 hl rfl rfl (by decide) rfl (fun ls hl => ?_)
          refine lv_goto (tgt := 8) (pc := 80) hx hb dX11_leastFrom_80 (by decide) ?_
          exact hk8 hf hH hS (lv_sub hl [2, 3, 4, 5, 6, 0] rfl)
        · have hf := gif_n hc hf
          refine lv_iload (pc := 73) hx hb dX11_leastFrom_73 (lv_at hl 0 rfl) ?_
          refine lv_istore (lv' := [(4, .int x38), (6, .int x38), (0, .ref (ad 0)), (1, .int a1), (2, .int a2), (3, .int a3), (5, .int l5)]) (pc := 75) hx hb dX11_leastFrom_75 hl (by decide) rfl (fun ls hl => ?_)
          refine lv_iinc (v := l5 + 1) (lv' := [(5, .int (l5 + 1)), (4, .int x38), (6, .int x38), (0, .ref (ad 0)), (1, .int a1), (2, .int a2), (3, .int a3)]) (k := 6) (pc := 77) hx hb dX11_leastFrom_77 hl rfl rfl (by decide) rfl (fun ls hl => ?_)
          refine lv_goto (tgt := 8) (pc := 80) hx hb dX11_leastFrom_80 (by decide) ?_
          exact hk8 hf hH hS (lv_sub hl [3, 4, 5, 6, 1, 0] rfl)
def hX11_leastFrom_8 (a1 : Int32) (a2 : Int32) (a3 : Int32)  : Nat → Int32 → Int32 → gS → Option (Int32 × gS)
  | 0 => fun _ _ _ => none
  | n + 1 => fun l4 l5 st => fX11_leastFrom_8 a1 a2 a3 (hX11_leastFrom_8 a1 a2 a3 n) l4 l5 st
set_option maxRecDepth 100000 in
set_option maxHeartbeats 4000000 in
theorem wX11_leastFrom_8 {a1 : Int32} {a2 : Int32} {a3 : Int32} (hC : CallFix p m c cX11_leastFrom 7 s args lw_good RX11) (hret : meth.sig.returnType = (some .int)) (hlk : meth.locks = false) (hU : gU 1 D cA ad s)  {r : Int32} {st' : gS}  : ∀ (n : Nat) {l4 : Int32} {l5 : Int32} {st : gS} {H : Heap} {locs : List Loc} {ls : Array Slot}, hX11_leastFrom_8 a1 a2 a3 n l4 l5 st = some (r, st') → gP0 1 D cA ad st H → va_S (gA 1 ad) s.heap H locs → lv_has ls 7 [(0, .ref (ad 0)), (1, .int a1), (2, .int a2), (3, .int a3), (4, .int l4), (5, .int l5)] → W p l e (gRm 3) s m args below meth c H locs 0 0 (MQ below (gQc 1 D cA ad st' (some (.int r))) args s 0 0 (gA 1 ad)) (F0 m 8 ls []) := by
  intro n
  induction n with
  | zero => intro l4 l5 st H locs ls hf hH hS hl; cases hf
  | succ n ih =>
    intro l4 l5 st H locs ls hf hH hS hl
    exact bX11_leastFrom_8 (a1 := a1) (a2 := a2) (a3 := a3) hC hret hlk hU (fun hf hH hS hl => ih hf hH hS hl) hf hH hS hl
def fX11_leastFrom (a1 : Int32) (a2 : Int32) (a3 : Int32)   (st : gS) : Option (Int32 × gS) :=
  hX11_leastFrom_8 a1 a2 a3 FU 1000000 0 st
set_option maxRecDepth 100000 in
set_option maxHeartbeats 4000000 in
theorem bX11_leastFrom_0 {a1 : Int32} {a2 : Int32} {a3 : Int32} (hC : CallFix p m c cX11_leastFrom 7 s args lw_good RX11) (hret : meth.sig.returnType = (some .int)) (hlk : meth.locks = false) (hU : gU 1 D cA ad s)  {r : Int32} {st' : gS}   {st : gS} {H : Heap} {locs : List Loc} {ls : Array Slot} (hf : fX11_leastFrom a1 a2 a3 st = some (r, st')) (hH : gP0 1 D cA ad st H) (hS : va_S (gA 1 ad) s.heap H locs) (hl : lv_has ls 7 [(0, .ref (ad 0)), (1, .int a1), (2, .int a2), (3, .int a3)]) : W p l e (gRm 3) s m args below meth c H locs 0 0 (MQ below (gQc 1 D cA ad st' (some (.int r))) args s 0 0 (gA 1 ad)) (F0 m 0 ls []) := by
  obtain ⟨hx, hb, hml, hown, hts⟩ := id hC
  unfold fX11_leastFrom at hf
  refine lv_ldcw (pc := 0) hx hb hown (hts _ kc_X11_464) dX11_leastFrom_0 ?_
  refine lv_istore (lv' := [(4, .int 1000000), (0, .ref (ad 0)), (1, .int a1), (2, .int a2), (3, .int a3)]) (pc := 3) hx hb dX11_leastFrom_3 hl (by decide) rfl (fun ls hl => ?_)
  refine lv_iconst (v := 0) (pc := 5) hx hb dX11_leastFrom_5 (by decide) ?_
  refine lv_istore (lv' := [(5, .int 0), (4, .int 1000000), (0, .ref (ad 0)), (1, .int a1), (2, .int a2), (3, .int a3)]) (pc := 6) hx hb dX11_leastFrom_6 hl (by decide) rfl (fun ls hl => ?_)
  exact wX11_leastFrom_8 hC hret hlk hU FU hf hH hS (lv_sub hl [2, 3, 4, 5, 1, 0] rfl)
set_option maxRecDepth 100000 in
set_option maxHeartbeats 4000000 in
theorem mX11_leastFrom {l : Launch} {D : va_G} {cA : Nat → ClassId} {ad : Nat → Nat} {a1 : Int32} {a2 : Int32} {a3 : Int32}  {r : Int32} {st st' : gS} (hf : fX11_leastFrom a1 a2 a3 st = some (r, st')) : gM l yX11_leastFrom cX11_leastFrom 7 (some .int) 3 1 D cA ad st [.ref (ad 0), .int a1, .int a2, .int a3] (some (.int r)) st' := by
  refine g_met (by decide) (Nat.le_of_ble_eq_true rfl) ?_
  intro p e s m args below meth c ls hC hret hlk hU hH hl
  exact bX11_leastFrom_0 hC hret hlk hU hf hH va_S.rf hl
def fX11_layLeft_97 (a1 : Int32) (a2 : Int32) (k37 : Int32 → gS → Option (gS)) (k46 : Int32 → Int32 → gS → Option (gS)) (l3 : Int32) (l4 : Int32) (s0 : Int32) (st : gS) : Option (gS) :=
  gc (gI l4 16) (if s0 < (st.1 31 l4.toNatClampNeg) then (gc (gI l4 16) (k46 1 (l4 + 1) (wi st 31 l4.toNatClampNeg s0))) else (k46 l3 (l4 + 1) st))
set_option maxRecDepth 100000 in
set_option maxHeartbeats 4000000 in
theorem bX11_layLeft_97 {a1 : Int32} {a2 : Int32} (hC : CallFix p m c cX11_layLeft 7 s args lw_good RX11) (hret : meth.sig.returnType = none) (hlk : meth.locks = false) (hU : gU 1 D cA ad s)  {st' : gS} {k37 : Int32 → gS → Option (gS)} (hk37 : ∀ {l3 : Int32} {st : gS} {H : Heap} {locs : List Loc} {ls : Array Slot}, k37 l3 st = some st' → gP0 1 D cA ad st H → va_S (gA 1 ad) s.heap H locs → lv_has ls 7 [(0, .ref (ad 0)), (1, .int a1), (2, .int a2), (3, .int l3)] → W p l e (gRm 4) s m args below meth c H locs 0 0 (MQ below (gQc 1 D cA ad st' none) args s 0 0 (gA 1 ad)) (F0 m 37 ls [])) {k46 : Int32 → Int32 → gS → Option (gS)} (hk46 : ∀ {l3 : Int32} {l4 : Int32} {st : gS} {H : Heap} {locs : List Loc} {ls : Array Slot}, k46 l3 l4 st = some st' → gP0 1 D cA ad st H → va_S (gA 1 ad) s.heap H locs → lv_has ls 7 [(0, .ref (ad 0)), (1, .int a1), (2, .int a2), (3, .int l3), (4, .int l4)] → W p l e (gRm 4) s m args below meth c H locs 0 0 (MQ below (gQc 1 D cA ad st' none) args s 0 0 (gA 1 ad)) (F0 m 46 ls [])) {l3 : Int32} {l4 : Int32} {s0 : Int32} {st : gS} {H : Heap} {locs : List Loc} {ls : Array Slot} (hf : fX11_layLeft_97 a1 a2 k37 k46 l3 l4 s0 st = some st') (hH : gP0 1 D cA ad st H) (hS : va_S (gA 1 ad) s.heap H locs) (hl : lv_has ls 7 [(0, .ref (ad 0)), (1, .int a1), (2, .int a2), (3, .int l3), (4, .int l4)]) : W p l e (gRm 4) s m args below meth c H locs 0 0 (MQ below (gQc 1 D cA ad st' none) args s 0 0 (gA 1 ad)) (F0 m 97 ls [.int s0]) := by
  obtain ⟨hx, hb, hml, hown, hts⟩ := id hC
  unfold fX11_layLeft_97 at hf
  refine lv_istore (lv' := [(6, .int s0), (0, .ref (ad 0)), (1, .int a1), (2, .int a2), (3, .int l3), (4, .int l4)]) (pc := 97) hx hb dX11_layLeft_97 hl (by decide) rfl (fun ls hl => ?_)
  refine lv_iload (pc := 99) hx hb dX11_layLeft_99 (lv_at hl 0 rfl) ?_
  refine lv_aload_n (pc := 101) hx hb dX11_layLeft_101 rfl (lv_at hl 1 rfl) ?_
  refine g_get (pc := 102) (v := .ref (ad 31)) hC hU hH gk1_0 g_cl11 60 (by decide) kf_X11_109 rfl dX11_layLeft_102 ?_
  refine lv_iload (pc := 105) hx hb dX11_layLeft_105 (lv_at hl 5 rfl) ?_
  obtain ⟨h97_1, hf⟩ := gc_s hf
  refine g_iald (pc := 107) hC hU hH gk1_31 gn1_31 h97_1 dX11_layLeft_107 ?_
  refine lv_icmp_lt (tgt := 114) (pc := 108) hx hb dX11_layLeft_108 (by decide) (fun hc => ?_) (fun hc => ?_)
  · have hf := gif_p hc hf
    refine lv_aload_n (pc := 114) hx hb dX11_layLeft_114 rfl (lv_at hl 1 rfl) ?_
    refine g_get (pc := 115) (v := .ref (ad 31)) hC hU hH gk1_0 g_cl11 60 (by decide) kf_X11_109 rfl dX11_layLeft_115 ?_
    refine lv_iload (pc := 118) hx hb dX11_layLeft_118 (lv_at hl 5 rfl) ?_
    refine lv_iload (pc := 120) hx hb dX11_layLeft_120 (lv_at hl 0 rfl) ?_
    obtain ⟨h97_2, hf⟩ := gc_s hf
    refine g_iast (pc := 122) hC hU hH hS gk1_31 gn1_31 h97_2 dX11_layLeft_122 (fun H locs hH hS => ?_)
    refine lv_iconst (v := 1) (pc := 123) hx hb dX11_layLeft_123 (by decide) ?_
    refine lv_istore_n (lv' := [(3, .int 1), (6, .int s0), (0, .ref (ad 0)), (1, .int a1), (2, .int a2), (4, .int l4)]) (pc := 124) hx hb dX11_layLeft_124 rfl hl (by decide) rfl (fun ls hl => ?_)
    refine lv_iinc (v := l4 + 1) (lv' := [(4, .int (l4 + 1)), (3, .int 1), (6, .int s0), (0, .ref (ad 0)), (1, .int a1), (2, .int a2)]) (k := 5) (pc := 125) hx hb dX11_layLeft_125 hl rfl rfl (by decide) rfl (fun ls hl => ?_)
    refine lv_goto (tgt := 46) (pc := 128) hx hb dX11_layLeft_128 (by decide) ?_
    exact hk46 hf hH hS (lv_sub hl [3, 4, 5, 1, 0] rfl)
  · have hf := gif_n hc hf
    refine lv_goto (tgt := 125) (pc := 111) hx hb dX11_layLeft_111 (by decide) ?_
    refine lv_iinc (v := l4 + 1) (lv' := [(4, .int (l4 + 1)), (6, .int s0), (0, .ref (ad 0)), (1, .int a1), (2, .int a2), (3, .int l3)]) (k := 5) (pc := 125) hx hb dX11_layLeft_125 hl rfl rfl (by decide) rfl (fun ls hl => ?_)
    refine lv_goto (tgt := 46) (pc := 128) hx hb dX11_layLeft_128 (by decide) ?_
    exact hk46 hf hH hS (lv_sub hl [2, 3, 4, 5, 0] rfl)
def fX11_layLeft_75 (a1 : Int32) (a2 : Int32) (k37 : Int32 → gS → Option (gS)) (k46 : Int32 → Int32 → gS → Option (gS)) (l3 : Int32) (l4 : Int32) (st : gS) : Option (gS) :=
  gc (gI l4 16) (fX11_layLeft_97 a1 a2 k37 k46 l3 l4 (st.1 31 l4.toNatClampNeg) st)
set_option maxRecDepth 100000 in
set_option maxHeartbeats 4000000 in
theorem bX11_layLeft_75 {a1 : Int32} {a2 : Int32} (hC : CallFix p m c cX11_layLeft 7 s args lw_good RX11) (hret : meth.sig.returnType = none) (hlk : meth.locks = false) (hU : gU 1 D cA ad s)  {st' : gS} {k37 : Int32 → gS → Option (gS)} (hk37 : ∀ {l3 : Int32} {st : gS} {H : Heap} {locs : List Loc} {ls : Array Slot}, k37 l3 st = some st' → gP0 1 D cA ad st H → va_S (gA 1 ad) s.heap H locs → lv_has ls 7 [(0, .ref (ad 0)), (1, .int a1), (2, .int a2), (3, .int l3)] → W p l e (gRm 4) s m args below meth c H locs 0 0 (MQ below (gQc 1 D cA ad st' none) args s 0 0 (gA 1 ad)) (F0 m 37 ls [])) {k46 : Int32 → Int32 → gS → Option (gS)} (hk46 : ∀ {l3 : Int32} {l4 : Int32} {st : gS} {H : Heap} {locs : List Loc} {ls : Array Slot}, k46 l3 l4 st = some st' → gP0 1 D cA ad st H → va_S (gA 1 ad) s.heap H locs → lv_has ls 7 [(0, .ref (ad 0)), (1, .int a1), (2, .int a2), (3, .int l3), (4, .int l4)] → W p l e (gRm 4) s m args below meth c H locs 0 0 (MQ below (gQc 1 D cA ad st' none) args s 0 0 (gA 1 ad)) (F0 m 46 ls [])) {l3 : Int32} {l4 : Int32} {st : gS} {H : Heap} {locs : List Loc} {ls : Array Slot} (hf : fX11_layLeft_75 a1 a2 k37 k46 l3 l4 st = some st') (hH : gP0 1 D cA ad st H) (hS : va_S (gA 1 ad) s.heap H locs) (hl : lv_has ls 7 [(0, .ref (ad 0)), (1, .int a1), (2, .int a2), (3, .int l3), (4, .int l4)]) : W p l e (gRm 4) s m args below meth c H locs 0 0 (MQ below (gQc 1 D cA ad st' none) args s 0 0 (gA 1 ad)) (F0 m 75 ls []) := by
  obtain ⟨hx, hb, hml, hown, hts⟩ := id hC
  unfold fX11_layLeft_75 at hf
  refine lv_aload_n (pc := 75) hx hb dX11_layLeft_75 rfl (lv_at hl 0 rfl) ?_
  refine g_get (pc := 76) (v := .ref (ad 31)) hC hU hH gk1_0 g_cl11 60 (by decide) kf_X11_109 rfl dX11_layLeft_76 ?_
  refine lv_iload (pc := 79) hx hb dX11_layLeft_79 (lv_at hl 4 rfl) ?_
  obtain ⟨h75_1, hf⟩ := gc_s hf
  refine g_iald (pc := 81) hC hU hH gk1_31 gn1_31 h75_1 dX11_layLeft_81 ?_
  refine lv_goto (tgt := 97) (pc := 82) hx hb dX11_layLeft_82 (by decide) ?_
  exact bX11_layLeft_97 hC hret hlk hU hk37 hk46 hf hH hS (lv_sub hl [0, 1, 2, 3, 4] rfl)
def fX11_layLeft_46 (a1 : Int32) (a2 : Int32) (k37 : Int32 → gS → Option (gS)) (k46 : Int32 → Int32 → gS → Option (gS)) (l3 : Int32) (l4 : Int32) (st : gS) : Option (gS) :=
  if 16 ≤ l4 then (k37 l3 st) else (gl (l4 - l4 / 8 * 8) fun x58 => (if x58 = a2 then (fX11_layLeft_75 a1 a2 k37 k46 l3 l4 st) else (if x58 < (st.1 0 48) then ((fX11_leastFrom x58 (l4 / 8) a1 st).bind fun q46_1 => (fX11_layLeft_97 a1 a2 k37 k46 l3 l4 q46_1.1 q46_1.2)) else (fX11_layLeft_75 a1 a2 k37 k46 l3 l4 st))))
set_option maxRecDepth 100000 in
set_option maxHeartbeats 4000000 in
theorem bX11_layLeft_46 {a1 : Int32} {a2 : Int32} (hC : CallFix p m c cX11_layLeft 7 s args lw_good RX11) (hret : meth.sig.returnType = none) (hlk : meth.locks = false) (hU : gU 1 D cA ad s)  {st' : gS} {k37 : Int32 → gS → Option (gS)} (hk37 : ∀ {l3 : Int32} {st : gS} {H : Heap} {locs : List Loc} {ls : Array Slot}, k37 l3 st = some st' → gP0 1 D cA ad st H → va_S (gA 1 ad) s.heap H locs → lv_has ls 7 [(0, .ref (ad 0)), (1, .int a1), (2, .int a2), (3, .int l3)] → W p l e (gRm 4) s m args below meth c H locs 0 0 (MQ below (gQc 1 D cA ad st' none) args s 0 0 (gA 1 ad)) (F0 m 37 ls [])) {k46 : Int32 → Int32 → gS → Option (gS)} (hk46 : ∀ {l3 : Int32} {l4 : Int32} {st : gS} {H : Heap} {locs : List Loc} {ls : Array Slot}, k46 l3 l4 st = some st' → gP0 1 D cA ad st H → va_S (gA 1 ad) s.heap H locs → lv_has ls 7 [(0, .ref (ad 0)), (1, .int a1), (2, .int a2), (3, .int l3), (4, .int l4)] → W p l e (gRm 4) s m args below meth c H locs 0 0 (MQ below (gQc 1 D cA ad st' none) args s 0 0 (gA 1 ad)) (F0 m 46 ls [])) {l3 : Int32} {l4 : Int32} {st : gS} {H : Heap} {locs : List Loc} {ls : Array Slot} (hf : fX11_layLeft_46 a1 a2 k37 k46 l3 l4 st = some st') (hH : gP0 1 D cA ad st H) (hS : va_S (gA 1 ad) s.heap H locs) (hl : lv_has ls 7 [(0, .ref (ad 0)), (1, .int a1), (2, .int a2), (3, .int l3), (4, .int l4)]) : W p l e (gRm 4) s m args below meth c H locs 0 0 (MQ below (gQc 1 D cA ad st' none) args s 0 0 (gA 1 ad)) (F0 m 46 ls []) := by
  obtain ⟨hx, hb, hml, hown, hts⟩ := id hC
  unfold fX11_layLeft_46 at hf
  refine lv_iload (pc := 46) hx hb dX11_layLeft_46 (lv_at hl 4 rfl) ?_
  refine lv_bipush (v := 16) (pc := 48) hx hb dX11_layLeft_48 (by decide) ?_
  refine lv_icmp_ge (tgt := 131) (pc := 50) hx hb dX11_layLeft_50 (by decide) (fun hc => ?_) (fun hc => ?_)
  · have hf := gif_p hc hf
    refine lv_goto (tgt := 37) (pc := 131) hx hb dX11_layLeft_131 (by decide) ?_
    exact hk37 hf hH hS (lv_sub hl [0, 1, 2, 3] rfl)
  · have hf := gif_n hc hf
    refine lv_iload (pc := 53) hx hb dX11_layLeft_53 (lv_at hl 4 rfl) ?_
    refine lv_bipush (v := 8) (pc := 55) hx hb dX11_layLeft_55 (by decide) ?_
    refine lv_irem (pc := 57) hx hb dX11_layLeft_57 (by decide) ?_
    refine lv_topi (pc := 58) (fun x58 ex58 => ?_)
    have hf := gl_s ex58 hf
    refine lv_istore (lv' := [(5, .int x58), (0, .ref (ad 0)), (1, .int a1), (2, .int a2), (3, .int l3), (4, .int l4)]) (pc := 58) hx hb dX11_layLeft_58 hl (by decide) rfl (fun ls hl => ?_)
    refine lv_iload (pc := 60) hx hb dX11_layLeft_60 (lv_at hl 0 rfl) ?_
    refine lv_iload_n (pc := 62) hx hb dX11_layLeft_62 rfl (lv_at hl 3 rfl) ?_
    refine lv_icmp_eq (tgt := 75) (pc := 63) hx hb dX11_layLeft_63 (by decide) (fun hc => ?_) (fun hc => ?_)
    · have hf := gif_p hc hf
      exact bX11_layLeft_75 hC hret hlk hU hk37 hk46 hf hH hS (lv_sub hl [1, 2, 3, 4, 5] rfl)
    · have hf := gif_n hc hf
      refine lv_iload (pc := 66) hx hb dX11_layLeft_66 (lv_at hl 0 rfl) ?_
      refine lv_aload_n (pc := 68) hx hb dX11_layLeft_68 rfl (lv_at hl 1 rfl) ?_
      refine g_get (pc := 69) (v := .int (st.1 0 48)) hC hU hH gk1_0 g_cl11 48 (by decide) kf_X11_392 rfl dX11_layLeft_69 ?_
      refine lv_icmp_lt (tgt := 85) (pc := 72) hx hb dX11_layLeft_72 (by decide) (fun hc => ?_) (fun hc => ?_)
      · have hf := gif_p hc hf
        refine lv_aload_n (pc := 85) hx hb dX11_layLeft_85 rfl (lv_at hl 1 rfl) ?_
        refine lv_iload (pc := 86) hx hb dX11_layLeft_86 (lv_at hl 0 rfl) ?_
        refine lv_iload (pc := 88) hx hb dX11_layLeft_88 (lv_at hl 5 rfl) ?_
        refine lv_bipush (v := 8) (pc := 90) hx hb dX11_layLeft_90 (by decide) ?_
        refine lv_idiv (pc := 92) hx hb dX11_layLeft_92 (by decide) ?_
        refine lv_iload_n (pc := 93) hx hb dX11_layLeft_93 rfl (lv_at hl 2 rfl) ?_
        obtain ⟨q46_1, hq46_1, hf⟩ := gbd hf
        refine g_callVi (pc := 94) (rest := []) hC hU hH hS hl.1 gk1_0 rfl (by decide) (mX11_leastFrom  hq46_1) ky_X11_leastFrom km_X11_468 ⟨Nat.le_of_ble_eq_true rfl, Nat.le_of_ble_eq_true rfl⟩ ⟨Nat.zero_le _, Nat.zero_le _⟩ rfl (Nat.le_of_ble_eq_true rfl) dX11_layLeft_94 rfl (fun H locs hH hS => ?_)
        exact bX11_layLeft_97 hC hret hlk hU hk37 hk46 hf hH hS (lv_sub hl [1, 2, 3, 4, 5] rfl)
      · have hf := gif_n hc hf
        exact bX11_layLeft_75 hC hret hlk hU hk37 hk46 hf hH hS (lv_sub hl [1, 2, 3, 4, 5] rfl)
def hX11_layLeft_46 (a1 : Int32) (a2 : Int32) (k37 : Int32 → gS → Option (gS)) : Nat → Int32 → Int32 → gS → Option (gS)
  | 0 => fun _ _ _ => none
  | n + 1 => fun l3 l4 st => fX11_layLeft_46 a1 a2 k37 (hX11_layLeft_46 a1 a2 k37 n) l3 l4 st
set_option maxRecDepth 100000 in
set_option maxHeartbeats 4000000 in
theorem wX11_layLeft_46 {a1 : Int32} {a2 : Int32} (hC : CallFix p m c cX11_layLeft 7 s args lw_good RX11) (hret : meth.sig.returnType = none) (hlk : meth.locks = false) (hU : gU 1 D cA ad s)  {st' : gS} {k37 : Int32 → gS → Option (gS)} (hk37 : ∀ {l3 : Int32} {st : gS} {H : Heap} {locs : List Loc} {ls : Array Slot}, k37 l3 st = some st' → gP0 1 D cA ad st H → va_S (gA 1 ad) s.heap H locs → lv_has ls 7 [(0, .ref (ad 0)), (1, .int a1), (2, .int a2), (3, .int l3)] → W p l e (gRm 4) s m args below meth c H locs 0 0 (MQ below (gQc 1 D cA ad st' none) args s 0 0 (gA 1 ad)) (F0 m 37 ls [])) : ∀ (n : Nat) {l3 : Int32} {l4 : Int32} {st : gS} {H : Heap} {locs : List Loc} {ls : Array Slot}, hX11_layLeft_46 a1 a2 k37 n l3 l4 st = some st' → gP0 1 D cA ad st H → va_S (gA 1 ad) s.heap H locs → lv_has ls 7 [(0, .ref (ad 0)), (1, .int a1), (2, .int a2), (3, .int l3), (4, .int l4)] → W p l e (gRm 4) s m args below meth c H locs 0 0 (MQ below (gQc 1 D cA ad st' none) args s 0 0 (gA 1 ad)) (F0 m 46 ls []) := by
  intro n
  induction n with
  | zero => intro l3 l4 st H locs ls hf hH hS hl; cases hf
  | succ n ih =>
    intro l3 l4 st H locs ls hf hH hS hl
    exact bX11_layLeft_46 (a1 := a1) (a2 := a2) hC hret hlk hU hk37 (fun hf hH hS hl => ih hf hH hS hl) hf hH hS hl
def fX11_layLeft_37 (a1 : Int32) (a2 : Int32) (k37 : Int32 → gS → Option (gS)) (l3 : Int32) (st : gS) : Option (gS) :=
  if l3 = 0 then (some st) else (hX11_layLeft_46 a1 a2 k37 FU 0 0 st)
set_option maxRecDepth 100000 in
set_option maxHeartbeats 4000000 in
theorem bX11_layLeft_37 {a1 : Int32} {a2 : Int32} (hC : CallFix p m c cX11_layLeft 7 s args lw_good RX11) (hret : meth.sig.returnType = none) (hlk : meth.locks = false) (hU : gU 1 D cA ad s)  {st' : gS} {k37 : Int32 → gS → Option (gS)} (hk37 : ∀ {l3 : Int32} {st : gS} {H : Heap} {locs : List Loc} {ls : Array Slot}, k37 l3 st = some st' → gP0 1 D cA ad st H → va_S (gA 1 ad) s.heap H locs → lv_has ls 7 [(0, .ref (ad 0)), (1, .int a1), (2, .int a2), (3, .int l3)] → W p l e (gRm 4) s m args below meth c H locs 0 0 (MQ below (gQc 1 D cA ad st' none) args s 0 0 (gA 1 ad)) (F0 m 37 ls [])) {l3 : Int32} {st : gS} {H : Heap} {locs : List Loc} {ls : Array Slot} (hf : fX11_layLeft_37 a1 a2 k37 l3 st = some st') (hH : gP0 1 D cA ad st H) (hS : va_S (gA 1 ad) s.heap H locs) (hl : lv_has ls 7 [(0, .ref (ad 0)), (1, .int a1), (2, .int a2), (3, .int l3)]) : W p l e (gRm 4) s m args below meth c H locs 0 0 (MQ below (gQc 1 D cA ad st' none) args s 0 0 (gA 1 ad)) (F0 m 37 ls []) := by
  obtain ⟨hx, hb, hml, hown, hts⟩ := id hC
  unfold fX11_layLeft_37 at hf
  refine lv_iload_n (pc := 37) hx hb dX11_layLeft_37 rfl (lv_at hl 3 rfl) ?_
  refine lv_if_eq (tgt := 134) (pc := 38) hx hb dX11_layLeft_38 (by decide) (fun hc => ?_) (fun hc => ?_)
  · have hf := gif_p hc hf
    exact g_vret (pc := 134) hC hret hlk hH hS hf dX11_layLeft_134
  · have hf := gif_n hc hf
    refine lv_iconst (v := 0) (pc := 41) hx hb dX11_layLeft_41 (by decide) ?_
    refine lv_istore_n (lv' := [(3, .int 0), (0, .ref (ad 0)), (1, .int a1), (2, .int a2)]) (pc := 42) hx hb dX11_layLeft_42 rfl hl (by decide) rfl (fun ls hl => ?_)
    refine lv_iconst (v := 0) (pc := 43) hx hb dX11_layLeft_43 (by decide) ?_
    refine lv_istore (lv' := [(4, .int 0), (3, .int 0), (0, .ref (ad 0)), (1, .int a1), (2, .int a2)]) (pc := 44) hx hb dX11_layLeft_44 hl (by decide) rfl (fun ls hl => ?_)
    exact wX11_layLeft_46 hC hret hlk hU hk37 FU hf hH hS (lv_sub hl [2, 3, 4, 1, 0] rfl)
def hX11_layLeft_37 (a1 : Int32) (a2 : Int32)  : Nat → Int32 → gS → Option (gS)
  | 0 => fun _ _ => none
  | n + 1 => fun l3 st => fX11_layLeft_37 a1 a2 (hX11_layLeft_37 a1 a2 n) l3 st
set_option maxRecDepth 100000 in
set_option maxHeartbeats 4000000 in
theorem wX11_layLeft_37 {a1 : Int32} {a2 : Int32} (hC : CallFix p m c cX11_layLeft 7 s args lw_good RX11) (hret : meth.sig.returnType = none) (hlk : meth.locks = false) (hU : gU 1 D cA ad s)  {st' : gS}  : ∀ (n : Nat) {l3 : Int32} {st : gS} {H : Heap} {locs : List Loc} {ls : Array Slot}, hX11_layLeft_37 a1 a2 n l3 st = some st' → gP0 1 D cA ad st H → va_S (gA 1 ad) s.heap H locs → lv_has ls 7 [(0, .ref (ad 0)), (1, .int a1), (2, .int a2), (3, .int l3)] → W p l e (gRm 4) s m args below meth c H locs 0 0 (MQ below (gQc 1 D cA ad st' none) args s 0 0 (gA 1 ad)) (F0 m 37 ls []) := by
  intro n
  induction n with
  | zero => intro l3 st H locs ls hf hH hS hl; cases hf
  | succ n ih =>
    intro l3 st H locs ls hf hH hS hl
    exact bX11_layLeft_37 (a1 := a1) (a2 := a2) hC hret hlk hU (fun hf hH hS hl => ih hf hH hS hl) hf hH hS hl
def fX11_layLeft_28 (a1 : Int32) (a2 : Int32) (k2 : Int32 → gS → Option (gS)) (l3 : Int32) (s0 : Int32) (s1 : Int32) (st : gS) : Option (gS) :=
  gc (gI s1 16) (k2 (l3 + 1) (wi st 31 s1.toNatClampNeg s0))
set_option maxRecDepth 100000 in
set_option maxHeartbeats 4000000 in
theorem bX11_layLeft_28 {a1 : Int32} {a2 : Int32} (hC : CallFix p m c cX11_layLeft 7 s args lw_good RX11) (hret : meth.sig.returnType = none) (hlk : meth.locks = false) (hU : gU 1 D cA ad s)  {st' : gS} {k2 : Int32 → gS → Option (gS)} (hk2 : ∀ {l3 : Int32} {st : gS} {H : Heap} {locs : List Loc} {ls : Array Slot}, k2 l3 st = some st' → gP0 1 D cA ad st H → va_S (gA 1 ad) s.heap H locs → lv_has ls 7 [(0, .ref (ad 0)), (1, .int a1), (2, .int a2), (3, .int l3)] → W p l e (gRm 4) s m args below meth c H locs 0 0 (MQ below (gQc 1 D cA ad st' none) args s 0 0 (gA 1 ad)) (F0 m 2 ls [])) {l3 : Int32} {s0 : Int32} {s1 : Int32} {st : gS} {H : Heap} {locs : List Loc} {ls : Array Slot} (hf : fX11_layLeft_28 a1 a2 k2 l3 s0 s1 st = some st') (hH : gP0 1 D cA ad st H) (hS : va_S (gA 1 ad) s.heap H locs) (hl : lv_has ls 7 [(0, .ref (ad 0)), (1, .int a1), (2, .int a2), (3, .int l3)]) : W p l e (gRm 4) s m args below meth c H locs 0 0 (MQ below (gQc 1 D cA ad st' none) args s 0 0 (gA 1 ad)) (F0 m 28 ls [.int s0, .int s1, .ref (ad 31)]) := by
  obtain ⟨hx, hb, hml, hown, hts⟩ := id hC
  unfold fX11_layLeft_28 at hf
  obtain ⟨h28_1, hf⟩ := gc_s hf
  refine g_iast (pc := 28) hC hU hH hS gk1_31 gn1_31 h28_1 dX11_layLeft_28 (fun H locs hH hS => ?_)
  refine lv_iinc (v := l3 + 1) (lv' := [(3, .int (l3 + 1)), (0, .ref (ad 0)), (1, .int a1), (2, .int a2)]) (k := 3) (pc := 29) hx hb dX11_layLeft_29 hl rfl rfl (by decide) rfl (fun ls hl => ?_)
  refine lv_goto (tgt := 2) (pc := 32) hx hb dX11_layLeft_32 (by decide) ?_
  exact hk2 hf hH hS (lv_sub hl [1, 2, 3, 0] rfl)
def fX11_layLeft_2 (a1 : Int32) (a2 : Int32) (k2 : Int32 → gS → Option (gS)) (l3 : Int32) (st : gS) : Option (gS) :=
  if 16 ≤ l3 then (hX11_layLeft_37 a1 a2 FU 1 st) else (if (l3 - l3 / 8 * 8) = a2 then (fX11_layLeft_28 a1 a2 k2 l3 0 l3 st) else (fX11_layLeft_28 a1 a2 k2 l3 1000000 l3 st))
set_option maxRecDepth 100000 in
set_option maxHeartbeats 4000000 in
theorem bX11_layLeft_2 {a1 : Int32} {a2 : Int32} (hC : CallFix p m c cX11_layLeft 7 s args lw_good RX11) (hret : meth.sig.returnType = none) (hlk : meth.locks = false) (hU : gU 1 D cA ad s)  {st' : gS} {k2 : Int32 → gS → Option (gS)} (hk2 : ∀ {l3 : Int32} {st : gS} {H : Heap} {locs : List Loc} {ls : Array Slot}, k2 l3 st = some st' → gP0 1 D cA ad st H → va_S (gA 1 ad) s.heap H locs → lv_has ls 7 [(0, .ref (ad 0)), (1, .int a1), (2, .int a2), (3, .int l3)] → W p l e (gRm 4) s m args below meth c H locs 0 0 (MQ below (gQc 1 D cA ad st' none) args s 0 0 (gA 1 ad)) (F0 m 2 ls [])) {l3 : Int32} {st : gS} {H : Heap} {locs : List Loc} {ls : Array Slot} (hf : fX11_layLeft_2 a1 a2 k2 l3 st = some st') (hH : gP0 1 D cA ad st H) (hS : va_S (gA 1 ad) s.heap H locs) (hl : lv_has ls 7 [(0, .ref (ad 0)), (1, .int a1), (2, .int a2), (3, .int l3)]) : W p l e (gRm 4) s m args below meth c H locs 0 0 (MQ below (gQc 1 D cA ad st' none) args s 0 0 (gA 1 ad)) (F0 m 2 ls []) := by
  obtain ⟨hx, hb, hml, hown, hts⟩ := id hC
  unfold fX11_layLeft_2 at hf
  refine lv_iload_n (pc := 2) hx hb dX11_layLeft_2 rfl (lv_at hl 3 rfl) ?_
  refine lv_bipush (v := 16) (pc := 3) hx hb dX11_layLeft_3 (by decide) ?_
  refine lv_icmp_ge (tgt := 35) (pc := 5) hx hb dX11_layLeft_5 (by decide) (fun hc => ?_) (fun hc => ?_)
  · have hf := gif_p hc hf
    refine lv_iconst (v := 1) (pc := 35) hx hb dX11_layLeft_35 (by decide) ?_
    refine lv_istore_n (lv' := [(3, .int 1), (0, .ref (ad 0)), (1, .int a1), (2, .int a2)]) (pc := 36) hx hb dX11_layLeft_36 rfl hl (by decide) rfl (fun ls hl => ?_)
    exact wX11_layLeft_37 hC hret hlk hU FU hf hH hS (lv_sub hl [1, 2, 3, 0] rfl)
  · have hf := gif_n hc hf
    refine lv_aload_n (pc := 8) hx hb dX11_layLeft_8 rfl (lv_at hl 0 rfl) ?_
    refine g_get (pc := 9) (v := .ref (ad 31)) hC hU hH gk1_0 g_cl11 60 (by decide) kf_X11_109 rfl dX11_layLeft_9 ?_
    refine lv_iload_n (pc := 12) hx hb dX11_layLeft_12 rfl (lv_at hl 3 rfl) ?_
    refine lv_iload_n (pc := 13) hx hb dX11_layLeft_13 rfl (lv_at hl 3 rfl) ?_
    refine lv_bipush (v := 8) (pc := 14) hx hb dX11_layLeft_14 (by decide) ?_
    refine lv_irem (pc := 16) hx hb dX11_layLeft_16 (by decide) ?_
    refine lv_iload_n (pc := 17) hx hb dX11_layLeft_17 rfl (lv_at hl 2 rfl) ?_
    refine lv_icmp_ne (tgt := 25) (pc := 18) hx hb dX11_layLeft_18 (by decide) (fun hc => ?_) (fun hc => ?_)
    · have hf := gif_n hc hf
      refine lv_ldcw (pc := 25) hx hb hown (hts _ kc_X11_464) dX11_layLeft_25 ?_
      exact bX11_layLeft_28 hC hret hlk hU hk2 hf hH hS (lv_sub hl [0, 1, 2, 3] rfl)
    · have hf := gif_p hc hf
      refine lv_iconst (v := 0) (pc := 21) hx hb dX11_layLeft_21 (by decide) ?_
      refine lv_goto (tgt := 28) (pc := 22) hx hb dX11_layLeft_22 (by decide) ?_
      exact bX11_layLeft_28 hC hret hlk hU hk2 hf hH hS (lv_sub hl [0, 1, 2, 3] rfl)
def hX11_layLeft_2 (a1 : Int32) (a2 : Int32)  : Nat → Int32 → gS → Option (gS)
  | 0 => fun _ _ => none
  | n + 1 => fun l3 st => fX11_layLeft_2 a1 a2 (hX11_layLeft_2 a1 a2 n) l3 st
set_option maxRecDepth 100000 in
set_option maxHeartbeats 4000000 in
theorem wX11_layLeft_2 {a1 : Int32} {a2 : Int32} (hC : CallFix p m c cX11_layLeft 7 s args lw_good RX11) (hret : meth.sig.returnType = none) (hlk : meth.locks = false) (hU : gU 1 D cA ad s)  {st' : gS}  : ∀ (n : Nat) {l3 : Int32} {st : gS} {H : Heap} {locs : List Loc} {ls : Array Slot}, hX11_layLeft_2 a1 a2 n l3 st = some st' → gP0 1 D cA ad st H → va_S (gA 1 ad) s.heap H locs → lv_has ls 7 [(0, .ref (ad 0)), (1, .int a1), (2, .int a2), (3, .int l3)] → W p l e (gRm 4) s m args below meth c H locs 0 0 (MQ below (gQc 1 D cA ad st' none) args s 0 0 (gA 1 ad)) (F0 m 2 ls []) := by
  intro n
  induction n with
  | zero => intro l3 st H locs ls hf hH hS hl; cases hf
  | succ n ih =>
    intro l3 st H locs ls hf hH hS hl
    exact bX11_layLeft_2 (a1 := a1) (a2 := a2) hC hret hlk hU (fun hf hH hS hl => ih hf hH hS hl) hf hH hS hl
def fX11_layLeft (a1 : Int32) (a2 : Int32)   (st : gS) : Option (gS) :=
  hX11_layLeft_2 a1 a2 FU 0 st
set_option maxRecDepth 100000 in
set_option maxHeartbeats 4000000 in
theorem bX11_layLeft_0 {a1 : Int32} {a2 : Int32} (hC : CallFix p m c cX11_layLeft 7 s args lw_good RX11) (hret : meth.sig.returnType = none) (hlk : meth.locks = false) (hU : gU 1 D cA ad s)  {st' : gS}   {st : gS} {H : Heap} {locs : List Loc} {ls : Array Slot} (hf : fX11_layLeft a1 a2 st = some st') (hH : gP0 1 D cA ad st H) (hS : va_S (gA 1 ad) s.heap H locs) (hl : lv_has ls 7 [(0, .ref (ad 0)), (1, .int a1), (2, .int a2)]) : W p l e (gRm 4) s m args below meth c H locs 0 0 (MQ below (gQc 1 D cA ad st' none) args s 0 0 (gA 1 ad)) (F0 m 0 ls []) := by
  obtain ⟨hx, hb, hml, hown, hts⟩ := id hC
  unfold fX11_layLeft at hf
  refine lv_iconst (v := 0) (pc := 0) hx hb dX11_layLeft_0 (by decide) ?_
  refine lv_istore_n (lv' := [(3, .int 0), (0, .ref (ad 0)), (1, .int a1), (2, .int a2)]) (pc := 1) hx hb dX11_layLeft_1 rfl hl (by decide) rfl (fun ls hl => ?_)
  exact wX11_layLeft_2 hC hret hlk hU FU hf hH hS (lv_sub hl [1, 2, 3, 0] rfl)
set_option maxRecDepth 100000 in
set_option maxHeartbeats 4000000 in
theorem mX11_layLeft {l : Launch} {D : va_G} {cA : Nat → ClassId} {ad : Nat → Nat} {a1 : Int32} {a2 : Int32}  {st st' : gS} (hf : fX11_layLeft a1 a2 st = some st') : gM l yX11_layLeft cX11_layLeft 7 none 4 1 D cA ad st [.ref (ad 0), .int a1, .int a2] none st' := by
  refine g_met (by decide) (Nat.le_of_ble_eq_true rfl) ?_
  intro p e s m args below meth c ls hC hret hlk hU hH hl
  exact bX11_layLeft_0 hC hret hlk hU hf hH va_S.rf hl
def fX11_way_76 (a1 : Int32) (a2 : Int32) (k61 : Int32 → Int32 → Int32 → gS → Option (Int32 × gS)) (k76 : Int32 → Int32 → Int32 → Int32 → Int32 → gS → Option (Int32 × gS)) (l3 : Int32) (l4 : Int32) (l5 : Int32) (l6 : Int32) (l7 : Int32) (st : gS) : Option (Int32 × gS) :=
  gc (gI l7 16) (if (st.1 21 l7.toNatClampNeg) = l4 then ((fX11_takerAt l6 a1 st).bind fun q76_1 => ((fX11_can q76_1.1 l7 q76_1.2).bind fun q76_2 => (if q76_2.1 = 0 then (k76 l3 l4 l5 l6 (l7 + 1) q76_2.2) else (gc (gI l7 16) (gc (gI ((8 * (1 - l6)) + (q76_2.2.1 22 l7.toNatClampNeg)) 16) (gc (gI ((8 * l6) + l4) 16) (if ((q76_2.2.1 31 ((8 * (1 - l6)) + (q76_2.2.1 22 l7.toNatClampNeg)).toNatClampNeg) + 1) = (q76_2.2.1 31 ((8 * l6) + l4).toNatClampNeg) then (gc (gI l5 16) (gc (gI l7 16) (gl ((wi q76_2.2 32 l5.toNatClampNeg l7).1 22 l7.toNatClampNeg) fun x164 => (k61 l3 x164 (l5 + 1) (wi q76_2.2 32 l5.toNatClampNeg l7))))) else (k76 l3 l4 l5 l6 (l7 + 1) q76_2.2)))))))) else (k76 l3 l4 l5 l6 (l7 + 1) st))
set_option maxRecDepth 100000 in
set_option maxHeartbeats 4000000 in
theorem bX11_way_76 {a1 : Int32} {a2 : Int32} (hC : CallFix p m c cX11_way 8 s args lw_good RX11) (hret : meth.sig.returnType = (some .int)) (hlk : meth.locks = false) (hU : gU 1 D cA ad s)  {r : Int32} {st' : gS} {k61 : Int32 → Int32 → Int32 → gS → Option (Int32 × gS)} (hk61 : ∀ {l3 : Int32} {l4 : Int32} {l5 : Int32} {st : gS} {H : Heap} {locs : List Loc} {ls : Array Slot}, k61 l3 l4 l5 st = some (r, st') → gP0 1 D cA ad st H → va_S (gA 1 ad) s.heap H locs → lv_has ls 8 [(0, .ref (ad 0)), (1, .int a1), (3, .int l3), (4, .int l4), (5, .int l5)] → W p l e (gRm 5) s m args below meth c H locs 0 0 (MQ below (gQc 1 D cA ad st' (some (.int r))) args s 0 0 (gA 1 ad)) (F0 m 61 ls [])) {k76 : Int32 → Int32 → Int32 → Int32 → Int32 → gS → Option (Int32 × gS)} (hk76 : ∀ {l3 : Int32} {l4 : Int32} {l5 : Int32} {l6 : Int32} {l7 : Int32} {st : gS} {H : Heap} {locs : List Loc} {ls : Array Slot}, k76 l3 l4 l5 l6 l7 st = some (r, st') → gP0 1 D cA ad st H → va_S (gA 1 ad) s.heap H locs → lv_has ls 8 [(0, .ref (ad 0)), (1, .int a1), (3, .int l3), (4, .int l4), (5, .int l5), (6, .int l6), (7, .int l7)] → W p l e (gRm 5) s m args below meth c H locs 0 0 (MQ below (gQc 1 D cA ad st' (some (.int r))) args s 0 0 (gA 1 ad)) (F0 m 76 ls [])) {l3 : Int32} {l4 : Int32} {l5 : Int32} {l6 : Int32} {l7 : Int32} {st : gS} {H : Heap} {locs : List Loc} {ls : Array Slot} (hf : fX11_way_76 a1 a2 k61 k76 l3 l4 l5 l6 l7 st = some (r, st')) (hH : gP0 1 D cA ad st H) (hS : va_S (gA 1 ad) s.heap H locs) (hl : lv_has ls 8 [(0, .ref (ad 0)), (1, .int a1), (3, .int l3), (4, .int l4), (5, .int l5), (6, .int l6), (7, .int l7)]) : W p l e (gRm 5) s m args below meth c H locs 0 0 (MQ below (gQc 1 D cA ad st' (some (.int r))) args s 0 0 (gA 1 ad)) (F0 m 76 ls []) := by
  obtain ⟨hx, hb, hml, hown, hts⟩ := id hC
  unfold fX11_way_76 at hf
  refine lv_aload_n (pc := 76) hx hb dX11_way_76 rfl (lv_at hl 0 rfl) ?_
  refine g_get (pc := 77) (v := .ref (ad 21)) hC hU hH gk1_0 g_cl11 36 (by decide) kf_X11_75 rfl dX11_way_77 ?_
  refine lv_iload (pc := 80) hx hb dX11_way_80 (lv_at hl 6 rfl) ?_
  obtain ⟨h76_1, hf⟩ := gc_s hf
  refine g_iald (pc := 82) hC hU hH gk1_21 gn1_21 h76_1 dX11_way_82 ?_
  refine lv_iload (pc := 83) hx hb dX11_way_83 (lv_at hl 3 rfl) ?_
  refine lv_icmp_ne (tgt := 142) (pc := 85) hx hb dX11_way_85 (by decide) (fun hc => ?_) (fun hc => ?_)
  · have hf := gif_n hc hf
    refine lv_iinc (v := l7 + 1) (lv' := [(7, .int (l7 + 1)), (0, .ref (ad 0)), (1, .int a1), (3, .int l3), (4, .int l4), (5, .int l5), (6, .int l6)]) (k := 6) (pc := 142) hx hb dX11_way_142 hl rfl rfl (by decide) rfl (fun ls hl => ?_)
    refine lv_goto (tgt := 76) (pc := 145) hx hb dX11_way_145 (by decide) ?_
    exact hk76 hf hH hS (lv_sub hl [1, 2, 3, 4, 5, 6, 0] rfl)
  · have hf := gif_p hc hf
    refine lv_aload_n (pc := 88) hx hb dX11_way_88 rfl (lv_at hl 0 rfl) ?_
    refine lv_aload_n (pc := 89) hx hb dX11_way_89 rfl (lv_at hl 0 rfl) ?_
    refine lv_iload (pc := 90) hx hb dX11_way_90 (lv_at hl 5 rfl) ?_
    refine lv_iload_n (pc := 92) hx hb dX11_way_92 rfl (lv_at hl 1 rfl) ?_
    obtain ⟨q76_1, hq76_1, hf⟩ := gbd hf
    refine g_callVi (pc := 93) (rest := [.ref (ad 0)]) hC hU hH hS hl.1 gk1_0 rfl (by decide) (mX11_takerAt  hq76_1) ky_X11_takerAt km_X11_465 ⟨Nat.le_of_ble_eq_true rfl, Nat.le_of_ble_eq_true rfl⟩ ⟨Nat.zero_le _, Nat.zero_le _⟩ rfl (Nat.le_of_ble_eq_true rfl) dX11_way_93 rfl (fun H locs hH hS => ?_)
    refine lv_iload (pc := 96) hx hb dX11_way_96 (lv_at hl 6 rfl) ?_
    obtain ⟨q76_2, hq76_2, hf⟩ := gbd hf
    refine g_callVi (pc := 98) (rest := []) hC hU hH hS hl.1 gk1_0 rfl (by decide) (mX11_can  hq76_2) ky_X11_can km_X11_427 ⟨Nat.le_of_ble_eq_true rfl, Nat.le_of_ble_eq_true rfl⟩ ⟨Nat.zero_le _, Nat.zero_le _⟩ rfl (Nat.le_of_ble_eq_true rfl) dX11_way_98 rfl (fun H locs hH hS => ?_)
    refine lv_if_eq (tgt := 142) (pc := 101) hx hb dX11_way_101 (by decide) (fun hc => ?_) (fun hc => ?_)
    · have hf := gif_p hc hf
      refine lv_iinc (v := l7 + 1) (lv' := [(7, .int (l7 + 1)), (0, .ref (ad 0)), (1, .int a1), (3, .int l3), (4, .int l4), (5, .int l5), (6, .int l6)]) (k := 6) (pc := 142) hx hb dX11_way_142 hl rfl rfl (by decide) rfl (fun ls hl => ?_)
      refine lv_goto (tgt := 76) (pc := 145) hx hb dX11_way_145 (by decide) ?_
      exact hk76 hf hH hS (lv_sub hl [1, 2, 3, 4, 5, 6, 0] rfl)
    · have hf := gif_n hc hf
      refine lv_aload_n (pc := 104) hx hb dX11_way_104 rfl (lv_at hl 0 rfl) ?_
      refine g_get (pc := 105) (v := .ref (ad 31)) hC hU hH gk1_0 g_cl11 60 (by decide) kf_X11_109 rfl dX11_way_105 ?_
      refine lv_bipush (v := 8) (pc := 108) hx hb dX11_way_108 (by decide) ?_
      refine lv_iconst (v := 1) (pc := 110) hx hb dX11_way_110 (by decide) ?_
      refine lv_iload (pc := 111) hx hb dX11_way_111 (lv_at hl 5 rfl) ?_
      refine lv_isub (pc := 113) hx hb dX11_way_113 ?_
      refine lv_imul (pc := 114) hx hb dX11_way_114 ?_
      refine lv_aload_n (pc := 115) hx hb dX11_way_115 rfl (lv_at hl 0 rfl) ?_
      refine g_get (pc := 116) (v := .ref (ad 22)) hC hU hH gk1_0 g_cl11 37 (by decide) kf_X11_78 rfl dX11_way_116 ?_
      refine lv_iload (pc := 119) hx hb dX11_way_119 (lv_at hl 6 rfl) ?_
      obtain ⟨h76_2, hf⟩ := gc_s hf
      refine g_iald (pc := 121) hC hU hH gk1_22 gn1_22 h76_2 dX11_way_121 ?_
      refine lv_iadd (pc := 122) hx hb dX11_way_122 ?_
      obtain ⟨h76_3, hf⟩ := gc_s hf
      refine g_iald (pc := 123) hC hU hH gk1_31 gn1_31 h76_3 dX11_way_123 ?_
      refine lv_iconst (v := 1) (pc := 124) hx hb dX11_way_124 (by decide) ?_
      refine lv_iadd (pc := 125) hx hb dX11_way_125 ?_
      refine lv_aload_n (pc := 126) hx hb dX11_way_126 rfl (lv_at hl 0 rfl) ?_
      refine g_get (pc := 127) (v := .ref (ad 31)) hC hU hH gk1_0 g_cl11 60 (by decide) kf_X11_109 rfl dX11_way_127 ?_
      refine lv_bipush (v := 8) (pc := 130) hx hb dX11_way_130 (by decide) ?_
      refine lv_iload (pc := 132) hx hb dX11_way_132 (lv_at hl 5 rfl) ?_
      refine lv_imul (pc := 134) hx hb dX11_way_134 ?_
      refine lv_iload (pc := 135) hx hb dX11_way_135 (lv_at hl 3 rfl) ?_
      refine lv_iadd (pc := 137) hx hb dX11_way_137 ?_
      obtain ⟨h76_4, hf⟩ := gc_s hf
      refine g_iald (pc := 138) hC hU hH gk1_31 gn1_31 h76_4 dX11_way_138 ?_
      refine lv_icmp_eq (tgt := 148) (pc := 139) hx hb dX11_way_139 (by decide) (fun hc => ?_) (fun hc => ?_)
      · have hf := gif_p hc hf
        refine lv_aload_n (pc := 148) hx hb dX11_way_148 rfl (lv_at hl 0 rfl) ?_
        refine g_get (pc := 149) (v := .ref (ad 32)) hC hU hH gk1_0 g_cl11 61 (by decide) kf_X11_112 rfl dX11_way_149 ?_
        refine lv_iload (pc := 152) hx hb dX11_way_152 (lv_at hl 4 rfl) ?_
        refine lv_iload (pc := 154) hx hb dX11_way_154 (lv_at hl 6 rfl) ?_
        obtain ⟨h76_5, hf⟩ := gc_s hf
        refine g_iast (pc := 156) hC hU hH hS gk1_32 gn1_32 h76_5 dX11_way_156 (fun H locs hH hS => ?_)
        refine lv_aload_n (pc := 157) hx hb dX11_way_157 rfl (lv_at hl 0 rfl) ?_
        refine g_get (pc := 158) (v := .ref (ad 22)) hC hU hH gk1_0 g_cl11 37 (by decide) kf_X11_78 rfl dX11_way_158 ?_
        refine lv_iload (pc := 161) hx hb dX11_way_161 (lv_at hl 6 rfl) ?_
        obtain ⟨h76_6, hf⟩ := gc_s hf
        refine g_iald (pc := 163) hC hU hH gk1_22 gn1_22 h76_6 dX11_way_163 ?_
        refine lv_topi (pc := 164) (fun x164 ex164 => ?_)
        have hf := gl_s ex164 hf
        refine lv_istore (lv' := [(4, .int x164), (0, .ref (ad 0)), (1, .int a1), (3, .int l3), (5, .int l5), (6, .int l6), (7, .int l7)]) (pc := 164) hx hb dX11_way_164 hl (by decide) rfl (fun ls hl => ?_)
        refine lv_iinc (v := l5 + 1) (lv' := [(5, .int (l5 + 1)), (4, .int x164), (0, .ref (ad 0)), (1, .int a1), (3, .int l3), (6, .int l6), (7, .int l7)]) (k := 4) (pc := 166) hx hb dX11_way_166 hl rfl rfl (by decide) rfl (fun ls hl => ?_)
        refine lv_goto (tgt := 61) (pc := 169) hx hb dX11_way_169 (by decide) ?_
        exact hk61 hf hH hS (lv_sub hl [2, 3, 4, 1, 0] rfl)
      · have hf := gif_n hc hf
        refine lv_iinc (v := l7 + 1) (lv' := [(7, .int (l7 + 1)), (0, .ref (ad 0)), (1, .int a1), (3, .int l3), (4, .int l4), (5, .int l5), (6, .int l6)]) (k := 6) (pc := 142) hx hb dX11_way_142 hl rfl rfl (by decide) rfl (fun ls hl => ?_)
        refine lv_goto (tgt := 76) (pc := 145) hx hb dX11_way_145 (by decide) ?_
        exact hk76 hf hH hS (lv_sub hl [1, 2, 3, 4, 5, 6, 0] rfl)
def hX11_way_76 (a1 : Int32) (a2 : Int32) (k61 : Int32 → Int32 → Int32 → gS → Option (Int32 × gS)) : Nat → Int32 → Int32 → Int32 → Int32 → Int32 → gS → Option (Int32 × gS)
  | 0 => fun _ _ _ _ _ _ => none
  | n + 1 => fun l3 l4 l5 l6 l7 st => fX11_way_76 a1 a2 k61 (hX11_way_76 a1 a2 k61 n) l3 l4 l5 l6 l7 st
set_option maxRecDepth 100000 in
set_option maxHeartbeats 4000000 in
theorem wX11_way_76 {a1 : Int32} {a2 : Int32} (hC : CallFix p m c cX11_way 8 s args lw_good RX11) (hret : meth.sig.returnType = (some .int)) (hlk : meth.locks = false) (hU : gU 1 D cA ad s)  {r : Int32} {st' : gS} {k61 : Int32 → Int32 → Int32 → gS → Option (Int32 × gS)} (hk61 : ∀ {l3 : Int32} {l4 : Int32} {l5 : Int32} {st : gS} {H : Heap} {locs : List Loc} {ls : Array Slot}, k61 l3 l4 l5 st = some (r, st') → gP0 1 D cA ad st H → va_S (gA 1 ad) s.heap H locs → lv_has ls 8 [(0, .ref (ad 0)), (1, .int a1), (3, .int l3), (4, .int l4), (5, .int l5)] → W p l e (gRm 5) s m args below meth c H locs 0 0 (MQ below (gQc 1 D cA ad st' (some (.int r))) args s 0 0 (gA 1 ad)) (F0 m 61 ls [])) : ∀ (n : Nat) {l3 : Int32} {l4 : Int32} {l5 : Int32} {l6 : Int32} {l7 : Int32} {st : gS} {H : Heap} {locs : List Loc} {ls : Array Slot}, hX11_way_76 a1 a2 k61 n l3 l4 l5 l6 l7 st = some (r, st') → gP0 1 D cA ad st H → va_S (gA 1 ad) s.heap H locs → lv_has ls 8 [(0, .ref (ad 0)), (1, .int a1), (3, .int l3), (4, .int l4), (5, .int l5), (6, .int l6), (7, .int l7)] → W p l e (gRm 5) s m args below meth c H locs 0 0 (MQ below (gQc 1 D cA ad st' (some (.int r))) args s 0 0 (gA 1 ad)) (F0 m 76 ls []) := by
  intro n
  induction n with
  | zero => intro l3 l4 l5 l6 l7 st H locs ls hf hH hS hl; cases hf
  | succ n ih =>
    intro l3 l4 l5 l6 l7 st H locs ls hf hH hS hl
    exact bX11_way_76 (a1 := a1) (a2 := a2) hC hret hlk hU hk61 (fun hf hH hS hl => ih hf hH hS hl) hf hH hS hl
def fX11_way_61 (a1 : Int32) (a2 : Int32) (k61 : Int32 → Int32 → Int32 → gS → Option (Int32 × gS)) (l3 : Int32) (l4 : Int32) (l5 : Int32) (st : gS) : Option (Int32 × gS) :=
  if l3 ≤ l5 then (some (l3, wi st 0 62 l3)) else (gl (l5 - l5 / 2 * 2) fun x71 => (hX11_way_76 a1 a2 k61 FU l3 l4 l5 x71 0 st))
set_option maxRecDepth 100000 in
set_option maxHeartbeats 4000000 in
theorem bX11_way_61 {a1 : Int32} {a2 : Int32} (hC : CallFix p m c cX11_way 8 s args lw_good RX11) (hret : meth.sig.returnType = (some .int)) (hlk : meth.locks = false) (hU : gU 1 D cA ad s)  {r : Int32} {st' : gS} {k61 : Int32 → Int32 → Int32 → gS → Option (Int32 × gS)} (hk61 : ∀ {l3 : Int32} {l4 : Int32} {l5 : Int32} {st : gS} {H : Heap} {locs : List Loc} {ls : Array Slot}, k61 l3 l4 l5 st = some (r, st') → gP0 1 D cA ad st H → va_S (gA 1 ad) s.heap H locs → lv_has ls 8 [(0, .ref (ad 0)), (1, .int a1), (3, .int l3), (4, .int l4), (5, .int l5)] → W p l e (gRm 5) s m args below meth c H locs 0 0 (MQ below (gQc 1 D cA ad st' (some (.int r))) args s 0 0 (gA 1 ad)) (F0 m 61 ls [])) {l3 : Int32} {l4 : Int32} {l5 : Int32} {st : gS} {H : Heap} {locs : List Loc} {ls : Array Slot} (hf : fX11_way_61 a1 a2 k61 l3 l4 l5 st = some (r, st')) (hH : gP0 1 D cA ad st H) (hS : va_S (gA 1 ad) s.heap H locs) (hl : lv_has ls 8 [(0, .ref (ad 0)), (1, .int a1), (3, .int l3), (4, .int l4), (5, .int l5)]) : W p l e (gRm 5) s m args below meth c H locs 0 0 (MQ below (gQc 1 D cA ad st' (some (.int r))) args s 0 0 (gA 1 ad)) (F0 m 61 ls []) := by
  obtain ⟨hx, hb, hml, hown, hts⟩ := id hC
  unfold fX11_way_61 at hf
  refine lv_iload (pc := 61) hx hb dX11_way_61 (lv_at hl 4 rfl) ?_
  refine lv_iload_n (pc := 63) hx hb dX11_way_63 rfl (lv_at hl 2 rfl) ?_
  refine lv_icmp_ge (tgt := 172) (pc := 64) hx hb dX11_way_64 (by decide) (fun hc => ?_) (fun hc => ?_)
  · have hf := gif_p hc hf
    refine lv_aload_n (pc := 172) hx hb dX11_way_172 rfl (lv_at hl 0 rfl) ?_
    refine lv_iload_n (pc := 173) hx hb dX11_way_173 rfl (lv_at hl 2 rfl) ?_
    refine g_puti (pc := 174) hC hU hH hS gk1_0 g_cl11 62 (by decide) kf_X11_413 rfl rfl rfl rfl dX11_way_174 (fun H locs hH hS => ?_)
    refine lv_iload_n (pc := 177) hx hb dX11_way_177 rfl (lv_at hl 2 rfl) ?_
    exact g_iret (pc := 178) hC hret hlk hH hS hf dX11_way_178
  · have hf := gif_n hc hf
    refine lv_iload (pc := 67) hx hb dX11_way_67 (lv_at hl 4 rfl) ?_
    refine lv_iconst (v := 2) (pc := 69) hx hb dX11_way_69 (by decide) ?_
    refine lv_irem (pc := 70) hx hb dX11_way_70 (by decide) ?_
    refine lv_topi (pc := 71) (fun x71 ex71 => ?_)
    have hf := gl_s ex71 hf
    refine lv_istore (lv' := [(6, .int x71), (0, .ref (ad 0)), (1, .int a1), (3, .int l3), (4, .int l4), (5, .int l5)]) (pc := 71) hx hb dX11_way_71 hl (by decide) rfl (fun ls hl => ?_)
    refine lv_iconst (v := 0) (pc := 73) hx hb dX11_way_73 (by decide) ?_
    refine lv_istore (lv' := [(7, .int 0), (6, .int x71), (0, .ref (ad 0)), (1, .int a1), (3, .int l3), (4, .int l4), (5, .int l5)]) (pc := 74) hx hb dX11_way_74 hl (by decide) rfl (fun ls hl => ?_)
    exact wX11_way_76 hC hret hlk hU hk61 FU hf hH hS (lv_sub hl [2, 3, 4, 5, 6, 1, 0] rfl)
def hX11_way_61 (a1 : Int32) (a2 : Int32)  : Nat → Int32 → Int32 → Int32 → gS → Option (Int32 × gS)
  | 0 => fun _ _ _ _ => none
  | n + 1 => fun l3 l4 l5 st => fX11_way_61 a1 a2 (hX11_way_61 a1 a2 n) l3 l4 l5 st
set_option maxRecDepth 100000 in
set_option maxHeartbeats 4000000 in
theorem wX11_way_61 {a1 : Int32} {a2 : Int32} (hC : CallFix p m c cX11_way 8 s args lw_good RX11) (hret : meth.sig.returnType = (some .int)) (hlk : meth.locks = false) (hU : gU 1 D cA ad s)  {r : Int32} {st' : gS}  : ∀ (n : Nat) {l3 : Int32} {l4 : Int32} {l5 : Int32} {st : gS} {H : Heap} {locs : List Loc} {ls : Array Slot}, hX11_way_61 a1 a2 n l3 l4 l5 st = some (r, st') → gP0 1 D cA ad st H → va_S (gA 1 ad) s.heap H locs → lv_has ls 8 [(0, .ref (ad 0)), (1, .int a1), (3, .int l3), (4, .int l4), (5, .int l5)] → W p l e (gRm 5) s m args below meth c H locs 0 0 (MQ below (gQc 1 D cA ad st' (some (.int r))) args s 0 0 (gA 1 ad)) (F0 m 61 ls []) := by
  intro n
  induction n with
  | zero => intro l3 l4 l5 st H locs ls hf hH hS hl; cases hf
  | succ n ih =>
    intro l3 l4 l5 st H locs ls hf hH hS hl
    exact bX11_way_61 (a1 := a1) (a2 := a2) hC hret hlk hU (fun hf hH hS hl => ih hf hH hS hl) hf hH hS hl
def fX11_way (a1 : Int32) (a2 : Int32)   (st : gS) : Option (Int32 × gS) :=
  (fX11_isOther a1 (wi st 0 62 0)).bind fun q0_1 => (if q0_1.1 = 0 then (some ((-1), q0_1.2)) else ((fX11_isFigure a2 q0_1.2).bind fun q0_2 => (if q0_2.1 = 0 then (some ((-1), q0_2.2)) else ((fX11_layLeft a1 a2 q0_2.2).bind fun q0_3 => (gc (gI 0 18) (gc (gI (q0_3.1 28 (0 : Int32).toNatClampNeg) 16) (gl (q0_3.1 31 (q0_3.1 28 (0 : Int32).toNatClampNeg).toNatClampNeg) fun x40 => (if x40 < 1000000 then (gc (gI 0 18) (gl (q0_3.1 28 (0 : Int32).toNatClampNeg) fun x56 => (hX11_way_61 a1 a2 FU x40 x56 0 q0_3))) else (some ((-1), q0_3))))))))))
set_option maxRecDepth 100000 in
set_option maxHeartbeats 4000000 in
theorem bX11_way_0 {a1 : Int32} {a2 : Int32} (hC : CallFix p m c cX11_way 8 s args lw_good RX11) (hret : meth.sig.returnType = (some .int)) (hlk : meth.locks = false) (hU : gU 1 D cA ad s)  {r : Int32} {st' : gS}   {st : gS} {H : Heap} {locs : List Loc} {ls : Array Slot} (hf : fX11_way a1 a2 st = some (r, st')) (hH : gP0 1 D cA ad st H) (hS : va_S (gA 1 ad) s.heap H locs) (hl : lv_has ls 8 [(0, .ref (ad 0)), (1, .int a1), (2, .int a2)]) : W p l e (gRm 5) s m args below meth c H locs 0 0 (MQ below (gQc 1 D cA ad st' (some (.int r))) args s 0 0 (gA 1 ad)) (F0 m 0 ls []) := by
  obtain ⟨hx, hb, hml, hown, hts⟩ := id hC
  unfold fX11_way at hf
  refine lv_aload_n (pc := 0) hx hb dX11_way_0 rfl (lv_at hl 0 rfl) ?_
  refine lv_iconst (v := 0) (pc := 1) hx hb dX11_way_1 (by decide) ?_
  refine g_puti (pc := 2) hC hU hH hS gk1_0 g_cl11 62 (by decide) kf_X11_413 rfl rfl rfl rfl dX11_way_2 (fun H locs hH hS => ?_)
  refine lv_aload_n (pc := 5) hx hb dX11_way_5 rfl (lv_at hl 0 rfl) ?_
  refine lv_iload_n (pc := 6) hx hb dX11_way_6 rfl (lv_at hl 1 rfl) ?_
  obtain ⟨q0_1, hq0_1, hf⟩ := gbd hf
  refine g_callVi (pc := 7) (rest := []) hC hU hH hS hl.1 gk1_0 rfl (by decide) (mX11_isOther  hq0_1) ky_X11_isOther km_X11_471 ⟨Nat.le_of_ble_eq_true rfl, Nat.le_of_ble_eq_true rfl⟩ ⟨Nat.zero_le _, Nat.zero_le _⟩ rfl (Nat.le_of_ble_eq_true rfl) dX11_way_7 rfl (fun H locs hH hS => ?_)
  refine lv_if_eq (tgt := 21) (pc := 10) hx hb dX11_way_10 (by decide) (fun hc => ?_) (fun hc => ?_)
  · have hf := gif_p hc hf
    refine lv_iconst (v := (-1)) (pc := 21) hx hb dX11_way_21 (by decide) ?_
    exact g_iret (pc := 22) hC hret hlk hH hS hf dX11_way_22
  · have hf := gif_n hc hf
    refine lv_aload_n (pc := 13) hx hb dX11_way_13 rfl (lv_at hl 0 rfl) ?_
    refine lv_iload_n (pc := 14) hx hb dX11_way_14 rfl (lv_at hl 2 rfl) ?_
    obtain ⟨q0_2, hq0_2, hf⟩ := gbd hf
    refine g_callVi (pc := 15) (rest := []) hC hU hH hS hl.1 gk1_0 rfl (by decide) (mX11_isFigure  hq0_2) ky_X11_isFigure km_X11_443 ⟨Nat.le_of_ble_eq_true rfl, Nat.le_of_ble_eq_true rfl⟩ ⟨Nat.zero_le _, Nat.zero_le _⟩ rfl (Nat.le_of_ble_eq_true rfl) dX11_way_15 rfl (fun H locs hH hS => ?_)
    refine lv_if_ne (tgt := 23) (pc := 18) hx hb dX11_way_18 (by decide) (fun hc => ?_) (fun hc => ?_)
    · have hf := gif_n hc hf
      refine lv_aload_n (pc := 23) hx hb dX11_way_23 rfl (lv_at hl 0 rfl) ?_
      refine lv_iload_n (pc := 24) hx hb dX11_way_24 rfl (lv_at hl 1 rfl) ?_
      refine lv_iload_n (pc := 25) hx hb dX11_way_25 rfl (lv_at hl 2 rfl) ?_
      obtain ⟨q0_3, hq0_3, hf⟩ := gbd hf
      refine g_callVv (pc := 26) (rest := []) hC hU hH hS hl.1 gk1_0 rfl (by decide) (mX11_layLeft  hq0_3) ky_X11_layLeft km_X11_474 ⟨Nat.le_of_ble_eq_true rfl, Nat.le_of_ble_eq_true rfl⟩ ⟨Nat.zero_le _, Nat.zero_le _⟩ rfl (Nat.le_of_ble_eq_true rfl) dX11_way_26 rfl (fun H locs hH hS => ?_)
      refine lv_aload_n (pc := 29) hx hb dX11_way_29 rfl (lv_at hl 0 rfl) ?_
      refine g_get (pc := 30) (v := .ref (ad 31)) hC hU hH gk1_0 g_cl11 60 (by decide) kf_X11_109 rfl dX11_way_30 ?_
      refine lv_aload_n (pc := 33) hx hb dX11_way_33 rfl (lv_at hl 0 rfl) ?_
      refine g_get (pc := 34) (v := .ref (ad 28)) hC hU hH gk1_0 g_cl11 55 (by decide) kf_X11_100 rfl dX11_way_34 ?_
      refine lv_iconst (v := 0) (pc := 37) hx hb dX11_way_37 (by decide) ?_
      obtain ⟨h0_1, hf⟩ := gc_s hf
      refine g_iald (pc := 38) hC hU hH gk1_28 gn1_28 h0_1 dX11_way_38 ?_
      obtain ⟨h0_2, hf⟩ := gc_s hf
      refine g_iald (pc := 39) hC hU hH gk1_31 gn1_31 h0_2 dX11_way_39 ?_
      refine lv_topi (pc := 40) (fun x40 ex40 => ?_)
      have hf := gl_s ex40 hf
      refine lv_istore_n (lv' := [(3, .int x40), (0, .ref (ad 0)), (1, .int a1), (2, .int a2)]) (pc := 40) hx hb dX11_way_40 rfl hl (by decide) rfl (fun ls hl => ?_)
      refine lv_iload_n (pc := 41) hx hb dX11_way_41 rfl (lv_at hl 0 rfl) ?_
      refine lv_ldcw (pc := 42) hx hb hown (hts _ kc_X11_464) dX11_way_42 ?_
      refine lv_icmp_lt (tgt := 50) (pc := 45) hx hb dX11_way_45 (by decide) (fun hc => ?_) (fun hc => ?_)
      · have hf := gif_p hc hf
        refine lv_aload_n (pc := 50) hx hb dX11_way_50 rfl (lv_at hl 1 rfl) ?_
        refine g_get (pc := 51) (v := .ref (ad 28)) hC hU hH gk1_0 g_cl11 55 (by decide) kf_X11_100 rfl dX11_way_51 ?_
        refine lv_iconst (v := 0) (pc := 54) hx hb dX11_way_54 (by decide) ?_
        obtain ⟨h0_3, hf⟩ := gc_s hf
        refine g_iald (pc := 55) hC hU hH gk1_28 gn1_28 h0_3 dX11_way_55 ?_
        refine lv_topi (pc := 56) (fun x56 ex56 => ?_)
        have hf := gl_s ex56 hf
        refine lv_istore (lv' := [(4, .int x56), (3, .int x40), (0, .ref (ad 0)), (1, .int a1), (2, .int a2)]) (pc := 56) hx hb dX11_way_56 hl (by decide) rfl (fun ls hl => ?_)
        refine lv_iconst (v := 0) (pc := 58) hx hb dX11_way_58 (by decide) ?_
        refine lv_istore (lv' := [(5, .int 0), (4, .int x56), (3, .int x40), (0, .ref (ad 0)), (1, .int a1), (2, .int a2)]) (pc := 59) hx hb dX11_way_59 hl (by decide) rfl (fun ls hl => ?_)
        exact wX11_way_61 hC hret hlk hU FU hf hH hS (lv_sub hl [3, 4, 2, 1, 0] rfl)
      · have hf := gif_n hc hf
        refine lv_iconst (v := (-1)) (pc := 48) hx hb dX11_way_48 (by decide) ?_
        exact g_iret (pc := 49) hC hret hlk hH hS hf dX11_way_49
    · have hf := gif_p hc hf
      refine lv_iconst (v := (-1)) (pc := 21) hx hb dX11_way_21 (by decide) ?_
      exact g_iret (pc := 22) hC hret hlk hH hS hf dX11_way_22
set_option maxRecDepth 100000 in
set_option maxHeartbeats 4000000 in
theorem mX11_way {l : Launch} {D : va_G} {cA : Nat → ClassId} {ad : Nat → Nat} {a1 : Int32} {a2 : Int32}  {r : Int32} {st st' : gS} (hf : fX11_way a1 a2 st = some (r, st')) : gM l yX11_way cX11_way 8 (some .int) 5 1 D cA ad st [.ref (ad 0), .int a1, .int a2] (some (.int r)) st' := by
  refine g_met (by decide) (Nat.le_of_ble_eq_true rfl) ?_
  intro p e s m args below meth c ls hC hret hlk hU hH hl
  exact bX11_way_0 hC hret hlk hU hf hH va_S.rf hl
def fX11_power_4 (a0 : Int32) (a1 : Int32) (k4 : Int32 → Int32 → gS → Option (Int32 × gS)) (l2 : Int32) (l3 : Int32) (st : gS) : Option (Int32 × gS) :=
  if a1 ≤ l3 then (some (l2, st)) else (k4 (l2 * a0) (l3 + 1) st)
set_option maxRecDepth 100000 in
set_option maxHeartbeats 4000000 in
theorem bX11_power_4 {a0 : Int32} {a1 : Int32} (hC : CallFix p m c cX11_power 4 s args lw_good RX11) (hret : meth.sig.returnType = (some .int)) (hlk : meth.locks = false) (hU : gU 1 D cA ad s)  {r : Int32} {st' : gS} {k4 : Int32 → Int32 → gS → Option (Int32 × gS)} (hk4 : ∀ {l2 : Int32} {l3 : Int32} {st : gS} {H : Heap} {locs : List Loc} {ls : Array Slot}, k4 l2 l3 st = some (r, st') → gP0 1 D cA ad st H → va_S (gA 1 ad) s.heap H locs → lv_has ls 4 [(0, .int a0), (1, .int a1), (2, .int l2), (3, .int l3)] → W p l e (gRm 1) s m args below meth c H locs 0 0 (MQ below (gQc 1 D cA ad st' (some (.int r))) args s 0 0 (gA 1 ad)) (F0 m 4 ls [])) {l2 : Int32} {l3 : Int32} {st : gS} {H : Heap} {locs : List Loc} {ls : Array Slot} (hf : fX11_power_4 a0 a1 k4 l2 l3 st = some (r, st')) (hH : gP0 1 D cA ad st H) (hS : va_S (gA 1 ad) s.heap H locs) (hl : lv_has ls 4 [(0, .int a0), (1, .int a1), (2, .int l2), (3, .int l3)]) : W p l e (gRm 1) s m args below meth c H locs 0 0 (MQ below (gQc 1 D cA ad st' (some (.int r))) args s 0 0 (gA 1 ad)) (F0 m 4 ls []) := by
  obtain ⟨hx, hb, hml, hown, hts⟩ := id hC
  unfold fX11_power_4 at hf
  refine lv_iload_n (pc := 4) hx hb dX11_power_4 rfl (lv_at hl 3 rfl) ?_
  refine lv_iload_n (pc := 5) hx hb dX11_power_5 rfl (lv_at hl 1 rfl) ?_
  refine lv_icmp_ge (tgt := 19) (pc := 6) hx hb dX11_power_6 (by decide) (fun hc => ?_) (fun hc => ?_)
  · have hf := gif_p hc hf
    refine lv_iload_n (pc := 19) hx hb dX11_power_19 rfl (lv_at hl 2 rfl) ?_
    exact g_iret (pc := 20) hC hret hlk hH hS hf dX11_power_20
  · have hf := gif_n hc hf
    refine lv_iload_n (pc := 9) hx hb dX11_power_9 rfl (lv_at hl 2 rfl) ?_
    refine lv_iload_n (pc := 10) hx hb dX11_power_10 rfl (lv_at hl 0 rfl) ?_
    refine lv_imul (pc := 11) hx hb dX11_power_11 ?_
    refine lv_istore_n (lv' := [(2, .int (l2 * a0)), (0, .int a0), (1, .int a1), (3, .int l3)]) (pc := 12) hx hb dX11_power_12 rfl hl (by decide) rfl (fun ls hl => ?_)
    refine lv_iinc (v := l3 + 1) (lv' := [(3, .int (l3 + 1)), (2, .int (l2 * a0)), (0, .int a0), (1, .int a1)]) (k := 3) (pc := 13) hx hb dX11_power_13 hl rfl rfl (by decide) rfl (fun ls hl => ?_)
    refine lv_goto (tgt := 4) (pc := 16) hx hb dX11_power_16 (by decide) ?_
    exact hk4 hf hH hS (lv_sub hl [2, 3, 1, 0] rfl)
def hX11_power_4 (a0 : Int32) (a1 : Int32)  : Nat → Int32 → Int32 → gS → Option (Int32 × gS)
  | 0 => fun _ _ _ => none
  | n + 1 => fun l2 l3 st => fX11_power_4 a0 a1 (hX11_power_4 a0 a1 n) l2 l3 st
set_option maxRecDepth 100000 in
set_option maxHeartbeats 4000000 in
theorem wX11_power_4 {a0 : Int32} {a1 : Int32} (hC : CallFix p m c cX11_power 4 s args lw_good RX11) (hret : meth.sig.returnType = (some .int)) (hlk : meth.locks = false) (hU : gU 1 D cA ad s)  {r : Int32} {st' : gS}  : ∀ (n : Nat) {l2 : Int32} {l3 : Int32} {st : gS} {H : Heap} {locs : List Loc} {ls : Array Slot}, hX11_power_4 a0 a1 n l2 l3 st = some (r, st') → gP0 1 D cA ad st H → va_S (gA 1 ad) s.heap H locs → lv_has ls 4 [(0, .int a0), (1, .int a1), (2, .int l2), (3, .int l3)] → W p l e (gRm 1) s m args below meth c H locs 0 0 (MQ below (gQc 1 D cA ad st' (some (.int r))) args s 0 0 (gA 1 ad)) (F0 m 4 ls []) := by
  intro n
  induction n with
  | zero => intro l2 l3 st H locs ls hf hH hS hl; cases hf
  | succ n ih =>
    intro l2 l3 st H locs ls hf hH hS hl
    exact bX11_power_4 (a0 := a0) (a1 := a1) hC hret hlk hU (fun hf hH hS hl => ih hf hH hS hl) hf hH hS hl
def fX11_power (a0 : Int32) (a1 : Int32)   (st : gS) : Option (Int32 × gS) :=
  hX11_power_4 a0 a1 FU 1 0 st
set_option maxRecDepth 100000 in
set_option maxHeartbeats 4000000 in
theorem bX11_power_0 {a0 : Int32} {a1 : Int32} (hC : CallFix p m c cX11_power 4 s args lw_good RX11) (hret : meth.sig.returnType = (some .int)) (hlk : meth.locks = false) (hU : gU 1 D cA ad s)  {r : Int32} {st' : gS}   {st : gS} {H : Heap} {locs : List Loc} {ls : Array Slot} (hf : fX11_power a0 a1 st = some (r, st')) (hH : gP0 1 D cA ad st H) (hS : va_S (gA 1 ad) s.heap H locs) (hl : lv_has ls 4 [(0, .int a0), (1, .int a1)]) : W p l e (gRm 1) s m args below meth c H locs 0 0 (MQ below (gQc 1 D cA ad st' (some (.int r))) args s 0 0 (gA 1 ad)) (F0 m 0 ls []) := by
  obtain ⟨hx, hb, hml, hown, hts⟩ := id hC
  unfold fX11_power at hf
  refine lv_iconst (v := 1) (pc := 0) hx hb dX11_power_0 (by decide) ?_
  refine lv_istore_n (lv' := [(2, .int 1), (0, .int a0), (1, .int a1)]) (pc := 1) hx hb dX11_power_1 rfl hl (by decide) rfl (fun ls hl => ?_)
  refine lv_iconst (v := 0) (pc := 2) hx hb dX11_power_2 (by decide) ?_
  refine lv_istore_n (lv' := [(3, .int 0), (2, .int 1), (0, .int a0), (1, .int a1)]) (pc := 3) hx hb dX11_power_3 rfl hl (by decide) rfl (fun ls hl => ?_)
  exact wX11_power_4 hC hret hlk hU FU hf hH hS (lv_sub hl [2, 3, 1, 0] rfl)
set_option maxRecDepth 100000 in
set_option maxHeartbeats 4000000 in
theorem mX11_power {l : Launch} {D : va_G} {cA : Nat → ClassId} {ad : Nat → Nat} {a0 : Int32} {a1 : Int32}  {r : Int32} {st st' : gS} (hf : fX11_power a0 a1 st = some (r, st')) : gM l yX11_power cX11_power 4 (some .int) 1 1 D cA ad st [.int a0, .int a1] (some (.int r)) st' := by
  refine g_met (by decide) (Nat.le_of_ble_eq_true rfl) ?_
  intro p e s m args below meth c ls hC hret hlk hU hH hl
  exact bX11_power_0 hC hret hlk hU hf hH va_S.rf hl
def fX11_surely_57 (a1 : Int32) (a2 : Int32) (a3 : Int32) (a4 : Int32) (k57 : Int32 → Int32 → Int32 → gS → Option (Int32 × gS)) (l6 : Int32) (l7 : Int32) (l8 : Int32) (st : gS) : Option (Int32 × gS) :=
  if a3 ≤ l8 then (if l6 = a2 then (some (l7, st)) else (some ((-1), st))) else (gc (gI l8 4) (gl (st.1 33 l8.toNatClampNeg) fun x70 => ((fX11_takerAt (l8 - l8 / 2 * 2) a1 st).bind fun q57_1 => (gc (gI x70 16) (if (q57_1.2.1 21 x70.toNatClampNeg) = l6 then ((fX11_can q57_1.1 x70 q57_1.2).bind fun q57_2 => (if q57_2.1 = 0 then (some ((-1), q57_2.2)) else ((fX11_slipOf q57_1.1 x70 q57_2.2).bind fun q57_3 => (gl (l7 * (100 - q57_3.1)) fun x122 => (gc (gI x70 16) (gl (q57_3.2.1 22 x70.toNatClampNeg) fun x131 => (k57 x131 x122 (l8 + 1) q57_3.2))))))) else (some ((-1), q57_1.2)))))))
set_option maxRecDepth 100000 in
set_option maxHeartbeats 4000000 in
theorem bX11_surely_57 {a1 : Int32} {a2 : Int32} {a3 : Int32} {a4 : Int32} (hC : CallFix p m c cX11_surely 11 s args lw_good RX11) (hret : meth.sig.returnType = (some .int)) (hlk : meth.locks = false) (hU : gU 1 D cA ad s)  {r : Int32} {st' : gS} {k57 : Int32 → Int32 → Int32 → gS → Option (Int32 × gS)} (hk57 : ∀ {l6 : Int32} {l7 : Int32} {l8 : Int32} {st : gS} {H : Heap} {locs : List Loc} {ls : Array Slot}, k57 l6 l7 l8 st = some (r, st') → gP0 1 D cA ad st H → va_S (gA 1 ad) s.heap H locs → lv_has ls 11 [(0, .ref (ad 0)), (1, .int a1), (2, .int a2), (3, .int a3), (6, .int l6), (7, .int l7), (8, .int l8)] → W p l e (gRm 5) s m args below meth c H locs 0 0 (MQ below (gQc 1 D cA ad st' (some (.int r))) args s 0 0 (gA 1 ad)) (F0 m 57 ls [])) {l6 : Int32} {l7 : Int32} {l8 : Int32} {st : gS} {H : Heap} {locs : List Loc} {ls : Array Slot} (hf : fX11_surely_57 a1 a2 a3 a4 k57 l6 l7 l8 st = some (r, st')) (hH : gP0 1 D cA ad st H) (hS : va_S (gA 1 ad) s.heap H locs) (hl : lv_has ls 11 [(0, .ref (ad 0)), (1, .int a1), (2, .int a2), (3, .int a3), (6, .int l6), (7, .int l7), (8, .int l8)]) : W p l e (gRm 5) s m args below meth c H locs 0 0 (MQ below (gQc 1 D cA ad st' (some (.int r))) args s 0 0 (gA 1 ad)) (F0 m 57 ls []) := by
  obtain ⟨hx, hb, hml, hown, hts⟩ := id hC
  unfold fX11_surely_57 at hf
  refine lv_iload (pc := 57) hx hb dX11_surely_57 (lv_at hl 6 rfl) ?_
  refine lv_iload_n (pc := 59) hx hb dX11_surely_59 rfl (lv_at hl 3 rfl) ?_
  refine lv_icmp_ge (tgt := 139) (pc := 60) hx hb dX11_surely_60 (by decide) (fun hc => ?_) (fun hc => ?_)
  · have hf := gif_p hc hf
    refine lv_iload (pc := 139) hx hb dX11_surely_139 (lv_at hl 4 rfl) ?_
    refine lv_iload_n (pc := 141) hx hb dX11_surely_141 rfl (lv_at hl 2 rfl) ?_
    refine lv_icmp_ne (tgt := 150) (pc := 142) hx hb dX11_surely_142 (by decide) (fun hc => ?_) (fun hc => ?_)
    · have hf := gif_n hc hf
      refine lv_iconst (v := (-1)) (pc := 150) hx hb dX11_surely_150 (by decide) ?_
      exact g_iret (pc := 151) hC hret hlk hH hS hf dX11_surely_151
    · have hf := gif_p hc hf
      refine lv_iload (pc := 145) hx hb dX11_surely_145 (lv_at hl 5 rfl) ?_
      refine lv_goto (tgt := 151) (pc := 147) hx hb dX11_surely_147 (by decide) ?_
      exact g_iret (pc := 151) hC hret hlk hH hS hf dX11_surely_151
  · have hf := gif_n hc hf
    refine lv_aload_n (pc := 63) hx hb dX11_surely_63 rfl (lv_at hl 0 rfl) ?_
    refine g_get (pc := 64) (v := .ref (ad 33)) hC hU hH gk1_0 g_cl11 63 (by decide) kf_X11_115 rfl dX11_surely_64 ?_
    refine lv_iload (pc := 67) hx hb dX11_surely_67 (lv_at hl 6 rfl) ?_
    obtain ⟨h57_1, hf⟩ := gc_s hf
    refine g_iald (pc := 69) hC hU hH gk1_33 gn1_33 h57_1 dX11_surely_69 ?_
    refine lv_topi (pc := 70) (fun x70 ex70 => ?_)
    have hf := gl_s ex70 hf
    refine lv_istore (lv' := [(9, .int x70), (0, .ref (ad 0)), (1, .int a1), (2, .int a2), (3, .int a3), (6, .int l6), (7, .int l7), (8, .int l8)]) (pc := 70) hx hb dX11_surely_70 hl (by decide) rfl (fun ls hl => ?_)
    refine lv_aload_n (pc := 72) hx hb dX11_surely_72 rfl (lv_at hl 1 rfl) ?_
    refine lv_iload (pc := 73) hx hb dX11_surely_73 (lv_at hl 7 rfl) ?_
    refine lv_iconst (v := 2) (pc := 75) hx hb dX11_surely_75 (by decide) ?_
    refine lv_irem (pc := 76) hx hb dX11_surely_76 (by decide) ?_
    refine lv_iload_n (pc := 77) hx hb dX11_surely_77 rfl (lv_at hl 2 rfl) ?_
    obtain ⟨q57_1, hq57_1, hf⟩ := gbd hf
    refine g_callVi (pc := 78) (rest := []) hC hU hH hS hl.1 gk1_0 rfl (by decide) (mX11_takerAt  hq57_1) ky_X11_takerAt km_X11_465 ⟨Nat.le_of_ble_eq_true rfl, Nat.le_of_ble_eq_true rfl⟩ ⟨Nat.zero_le _, Nat.zero_le _⟩ rfl (Nat.le_of_ble_eq_true rfl) dX11_surely_78 rfl (fun H locs hH hS => ?_)
    refine lv_istore (lv' := [(10, .int q57_1.1), (9, .int x70), (0, .ref (ad 0)), (1, .int a1), (2, .int a2), (3, .int a3), (6, .int l6), (7, .int l7), (8, .int l8)]) (pc := 81) hx hb dX11_surely_81 hl (by decide) rfl (fun ls hl => ?_)
    refine lv_aload_n (pc := 83) hx hb dX11_surely_83 rfl (lv_at hl 2 rfl) ?_
    refine g_get (pc := 84) (v := .ref (ad 21)) hC hU hH gk1_0 g_cl11 36 (by decide) kf_X11_75 rfl dX11_surely_84 ?_
    refine lv_iload (pc := 87) hx hb dX11_surely_87 (lv_at hl 1 rfl) ?_
    obtain ⟨h57_2, hf⟩ := gc_s hf
    refine g_iald (pc := 89) hC hU hH gk1_21 gn1_21 h57_2 dX11_surely_89 ?_
    refine lv_iload (pc := 90) hx hb dX11_surely_90 (lv_at hl 6 rfl) ?_
    refine lv_icmp_ne (tgt := 106) (pc := 92) hx hb dX11_surely_92 (by decide) (fun hc => ?_) (fun hc => ?_)
    · have hf := gif_n hc hf
      refine lv_iconst (v := (-1)) (pc := 106) hx hb dX11_surely_106 (by decide) ?_
      exact g_iret (pc := 107) hC hret hlk hH hS hf dX11_surely_107
    · have hf := gif_p hc hf
      refine lv_aload_n (pc := 95) hx hb dX11_surely_95 rfl (lv_at hl 2 rfl) ?_
      refine lv_iload (pc := 96) hx hb dX11_surely_96 (lv_at hl 0 rfl) ?_
      refine lv_iload (pc := 98) hx hb dX11_surely_98 (lv_at hl 1 rfl) ?_
      obtain ⟨q57_2, hq57_2, hf⟩ := gbd hf
      refine g_callVi (pc := 100) (rest := []) hC hU hH hS hl.1 gk1_0 rfl (by decide) (mX11_can  hq57_2) ky_X11_can km_X11_427 ⟨Nat.le_of_ble_eq_true rfl, Nat.le_of_ble_eq_true rfl⟩ ⟨Nat.zero_le _, Nat.zero_le _⟩ rfl (Nat.le_of_ble_eq_true rfl) dX11_surely_100 rfl (fun H locs hH hS => ?_)
      refine lv_if_ne (tgt := 108) (pc := 103) hx hb dX11_surely_103 (by decide) (fun hc => ?_) (fun hc => ?_)
      · have hf := gif_n hc hf
        refine lv_iload (pc := 108) hx hb dX11_surely_108 (lv_at hl 7 rfl) ?_
        refine lv_bipush (v := 100) (pc := 110) hx hb dX11_surely_110 (by decide) ?_
        refine lv_aload_n (pc := 112) hx hb dX11_surely_112 rfl (lv_at hl 2 rfl) ?_
        refine lv_iload (pc := 113) hx hb dX11_surely_113 (lv_at hl 0 rfl) ?_
        refine lv_iload (pc := 115) hx hb dX11_surely_115 (lv_at hl 1 rfl) ?_
        obtain ⟨q57_3, hq57_3, hf⟩ := gbd hf
        refine g_callVi (pc := 117) (rest := [.int 100, .int l7]) hC hU hH hS hl.1 gk1_0 rfl (by decide) (mX11_slipOf  hq57_3) ky_X11_slipOf km_X11_449 ⟨Nat.le_of_ble_eq_true rfl, Nat.le_of_ble_eq_true rfl⟩ ⟨Nat.zero_le _, Nat.zero_le _⟩ rfl (Nat.le_of_ble_eq_true rfl) dX11_surely_117 rfl (fun H locs hH hS => ?_)
        refine lv_isub (pc := 120) hx hb dX11_surely_120 ?_
        refine lv_imul (pc := 121) hx hb dX11_surely_121 ?_
        refine lv_topi (pc := 122) (fun x122 ex122 => ?_)
        have hf := gl_s ex122 hf
        refine lv_istore (lv' := [(7, .int x122), (10, .int q57_1.1), (9, .int x70), (0, .ref (ad 0)), (1, .int a1), (2, .int a2), (3, .int a3), (6, .int l6), (8, .int l8)]) (pc := 122) hx hb dX11_surely_122 hl (by decide) rfl (fun ls hl => ?_)
        refine lv_aload_n (pc := 124) hx hb dX11_surely_124 rfl (lv_at hl 3 rfl) ?_
        refine g_get (pc := 125) (v := .ref (ad 22)) hC hU hH gk1_0 g_cl11 37 (by decide) kf_X11_78 rfl dX11_surely_125 ?_
        refine lv_iload (pc := 128) hx hb dX11_surely_128 (lv_at hl 2 rfl) ?_
        obtain ⟨h57_3, hf⟩ := gc_s hf
        refine g_iald (pc := 130) hC hU hH gk1_22 gn1_22 h57_3 dX11_surely_130 ?_
        refine lv_topi (pc := 131) (fun x131 ex131 => ?_)
        have hf := gl_s ex131 hf
        refine lv_istore (lv' := [(6, .int x131), (7, .int x122), (10, .int q57_1.1), (9, .int x70), (0, .ref (ad 0)), (1, .int a1), (2, .int a2), (3, .int a3), (8, .int l8)]) (pc := 131) hx hb dX11_surely_131 hl (by decide) rfl (fun ls hl => ?_)
        refine lv_iinc (v := l8 + 1) (lv' := [(8, .int (l8 + 1)), (6, .int x131), (7, .int x122), (10, .int q57_1.1), (9, .int x70), (0, .ref (ad 0)), (1, .int a1), (2, .int a2), (3, .int a3)]) (k := 8) (pc := 133) hx hb dX11_surely_133 hl rfl rfl (by decide) rfl (fun ls hl => ?_)
        refine lv_goto (tgt := 57) (pc := 136) hx hb dX11_surely_136 (by decide) ?_
        exact hk57 hf hH hS (lv_sub hl [5, 6, 7, 8, 1, 2, 0] rfl)
      · have hf := gif_p hc hf
        refine lv_iconst (v := (-1)) (pc := 106) hx hb dX11_surely_106 (by decide) ?_
        exact g_iret (pc := 107) hC hret hlk hH hS hf dX11_surely_107
def hX11_surely_57 (a1 : Int32) (a2 : Int32) (a3 : Int32) (a4 : Int32)  : Nat → Int32 → Int32 → Int32 → gS → Option (Int32 × gS)
  | 0 => fun _ _ _ _ => none
  | n + 1 => fun l6 l7 l8 st => fX11_surely_57 a1 a2 a3 a4 (hX11_surely_57 a1 a2 a3 a4 n) l6 l7 l8 st
set_option maxRecDepth 100000 in
set_option maxHeartbeats 4000000 in
theorem wX11_surely_57 {a1 : Int32} {a2 : Int32} {a3 : Int32} {a4 : Int32} (hC : CallFix p m c cX11_surely 11 s args lw_good RX11) (hret : meth.sig.returnType = (some .int)) (hlk : meth.locks = false) (hU : gU 1 D cA ad s)  {r : Int32} {st' : gS}  : ∀ (n : Nat) {l6 : Int32} {l7 : Int32} {l8 : Int32} {st : gS} {H : Heap} {locs : List Loc} {ls : Array Slot}, hX11_surely_57 a1 a2 a3 a4 n l6 l7 l8 st = some (r, st') → gP0 1 D cA ad st H → va_S (gA 1 ad) s.heap H locs → lv_has ls 11 [(0, .ref (ad 0)), (1, .int a1), (2, .int a2), (3, .int a3), (6, .int l6), (7, .int l7), (8, .int l8)] → W p l e (gRm 5) s m args below meth c H locs 0 0 (MQ below (gQc 1 D cA ad st' (some (.int r))) args s 0 0 (gA 1 ad)) (F0 m 57 ls []) := by
  intro n
  induction n with
  | zero => intro l6 l7 l8 st H locs ls hf hH hS hl; cases hf
  | succ n ih =>
    intro l6 l7 l8 st H locs ls hf hH hS hl
    exact bX11_surely_57 (a1 := a1) (a2 := a2) (a3 := a3) (a4 := a4) hC hret hlk hU (fun hf hH hS hl => ih hf hH hS hl) hf hH hS hl
def fX11_surely_9 (a1 : Int32) (a2 : Int32) (a3 : Int32) (a4 : Int32) (k9 : Int32 → Int32 → gS → Option (Int32 × gS)) (l5 : Int32) (l6 : Int32) (st : gS) : Option (Int32 × gS) :=
  if l6 < 0 then (gc (gI 0 18) (gl (st.1 28 (0 : Int32).toNatClampNeg) fun x49 => (hX11_surely_57 a1 a2 a3 a4 FU x49 1 0 st))) else (gc (¬ (st.1 0 50) = 0) (gc (gI l6 4) (gc (¬ ((wi st 33 l6.toNatClampNeg (l5 - l5 / (st.1 0 50) * (st.1 0 50))).1 0 50) = 0) (gl (l5 / ((wi st 33 l6.toNatClampNeg (l5 - l5 / (st.1 0 50) * (st.1 0 50))).1 0 50)) fun x35 => (k9 x35 (l6 + (-1)) (wi st 33 l6.toNatClampNeg (l5 - l5 / (st.1 0 50) * (st.1 0 50))))))))
set_option maxRecDepth 100000 in
set_option maxHeartbeats 4000000 in
theorem bX11_surely_9 {a1 : Int32} {a2 : Int32} {a3 : Int32} {a4 : Int32} (hC : CallFix p m c cX11_surely 11 s args lw_good RX11) (hret : meth.sig.returnType = (some .int)) (hlk : meth.locks = false) (hU : gU 1 D cA ad s)  {r : Int32} {st' : gS} {k9 : Int32 → Int32 → gS → Option (Int32 × gS)} (hk9 : ∀ {l5 : Int32} {l6 : Int32} {st : gS} {H : Heap} {locs : List Loc} {ls : Array Slot}, k9 l5 l6 st = some (r, st') → gP0 1 D cA ad st H → va_S (gA 1 ad) s.heap H locs → lv_has ls 11 [(0, .ref (ad 0)), (1, .int a1), (2, .int a2), (3, .int a3), (5, .int l5), (6, .int l6)] → W p l e (gRm 5) s m args below meth c H locs 0 0 (MQ below (gQc 1 D cA ad st' (some (.int r))) args s 0 0 (gA 1 ad)) (F0 m 9 ls [])) {l5 : Int32} {l6 : Int32} {st : gS} {H : Heap} {locs : List Loc} {ls : Array Slot} (hf : fX11_surely_9 a1 a2 a3 a4 k9 l5 l6 st = some (r, st')) (hH : gP0 1 D cA ad st H) (hS : va_S (gA 1 ad) s.heap H locs) (hl : lv_has ls 11 [(0, .ref (ad 0)), (1, .int a1), (2, .int a2), (3, .int a3), (5, .int l5), (6, .int l6)]) : W p l e (gRm 5) s m args below meth c H locs 0 0 (MQ below (gQc 1 D cA ad st' (some (.int r))) args s 0 0 (gA 1 ad)) (F0 m 9 ls []) := by
  obtain ⟨hx, hb, hml, hown, hts⟩ := id hC
  unfold fX11_surely_9 at hf
  refine lv_iload (pc := 9) hx hb dX11_surely_9 (lv_at hl 5 rfl) ?_
  refine lv_if_lt (tgt := 43) (pc := 11) hx hb dX11_surely_11 (by decide) (fun hc => ?_) (fun hc => ?_)
  · have hf := gif_p hc hf
    refine lv_aload_n (pc := 43) hx hb dX11_surely_43 rfl (lv_at hl 0 rfl) ?_
    refine g_get (pc := 44) (v := .ref (ad 28)) hC hU hH gk1_0 g_cl11 55 (by decide) kf_X11_100 rfl dX11_surely_44 ?_
    refine lv_iconst (v := 0) (pc := 47) hx hb dX11_surely_47 (by decide) ?_
    obtain ⟨h9_1, hf⟩ := gc_s hf
    refine g_iald (pc := 48) hC hU hH gk1_28 gn1_28 h9_1 dX11_surely_48 ?_
    refine lv_topi (pc := 49) (fun x49 ex49 => ?_)
    have hf := gl_s ex49 hf
    refine lv_istore (lv' := [(6, .int x49), (0, .ref (ad 0)), (1, .int a1), (2, .int a2), (3, .int a3), (5, .int l5)]) (pc := 49) hx hb dX11_surely_49 hl (by decide) rfl (fun ls hl => ?_)
    refine lv_iconst (v := 1) (pc := 51) hx hb dX11_surely_51 (by decide) ?_
    refine lv_istore (lv' := [(7, .int 1), (6, .int x49), (0, .ref (ad 0)), (1, .int a1), (2, .int a2), (3, .int a3), (5, .int l5)]) (pc := 52) hx hb dX11_surely_52 hl (by decide) rfl (fun ls hl => ?_)
    refine lv_iconst (v := 0) (pc := 54) hx hb dX11_surely_54 (by decide) ?_
    refine lv_istore (lv' := [(8, .int 0), (7, .int 1), (6, .int x49), (0, .ref (ad 0)), (1, .int a1), (2, .int a2), (3, .int a3), (5, .int l5)]) (pc := 55) hx hb dX11_surely_55 hl (by decide) rfl (fun ls hl => ?_)
    exact wX11_surely_57 hC hret hlk hU FU hf hH hS (lv_sub hl [3, 4, 5, 6, 2, 1, 0] rfl)
  · have hf := gif_n hc hf
    refine lv_aload_n (pc := 14) hx hb dX11_surely_14 rfl (lv_at hl 0 rfl) ?_
    refine g_get (pc := 15) (v := .ref (ad 33)) hC hU hH gk1_0 g_cl11 63 (by decide) kf_X11_115 rfl dX11_surely_15 ?_
    refine lv_iload (pc := 18) hx hb dX11_surely_18 (lv_at hl 5 rfl) ?_
    refine lv_iload (pc := 20) hx hb dX11_surely_20 (lv_at hl 4 rfl) ?_
    refine lv_aload_n (pc := 22) hx hb dX11_surely_22 rfl (lv_at hl 0 rfl) ?_
    refine g_get (pc := 23) (v := .int (st.1 0 50)) hC hU hH gk1_0 g_cl11 50 (by decide) kf_X11_398 rfl dX11_surely_23 ?_
    obtain ⟨h9_2, hf⟩ := gc_s hf
    refine lv_irem (pc := 26) hx hb dX11_surely_26 h9_2 ?_
    obtain ⟨h9_3, hf⟩ := gc_s hf
    refine g_iast (pc := 27) hC hU hH hS gk1_33 gn1_33 h9_3 dX11_surely_27 (fun H locs hH hS => ?_)
    refine lv_iload (pc := 28) hx hb dX11_surely_28 (lv_at hl 4 rfl) ?_
    refine lv_aload_n (pc := 30) hx hb dX11_surely_30 rfl (lv_at hl 0 rfl) ?_
    refine g_get (pc := 31) (v := .int ((wi st 33 l6.toNatClampNeg (l5 - l5 / (st.1 0 50) * (st.1 0 50))).1 0 50)) hC hU hH gk1_0 g_cl11 50 (by decide) kf_X11_398 rfl dX11_surely_31 ?_
    obtain ⟨h9_4, hf⟩ := gc_s hf
    refine lv_idiv (pc := 34) hx hb dX11_surely_34 h9_4 ?_
    refine lv_topi (pc := 35) (fun x35 ex35 => ?_)
    have hf := gl_s ex35 hf
    refine lv_istore (lv' := [(5, .int x35), (0, .ref (ad 0)), (1, .int a1), (2, .int a2), (3, .int a3), (6, .int l6)]) (pc := 35) hx hb dX11_surely_35 hl (by decide) rfl (fun ls hl => ?_)
    refine lv_iinc (v := l6 + (-1)) (lv' := [(6, .int (l6 + (-1))), (5, .int x35), (0, .ref (ad 0)), (1, .int a1), (2, .int a2), (3, .int a3)]) (k := 5) (pc := 37) hx hb dX11_surely_37 hl rfl rfl (by decide) rfl (fun ls hl => ?_)
    refine lv_goto (tgt := 9) (pc := 40) hx hb dX11_surely_40 (by decide) ?_
    exact hk9 hf hH hS (lv_sub hl [2, 3, 4, 5, 1, 0] rfl)
def hX11_surely_9 (a1 : Int32) (a2 : Int32) (a3 : Int32) (a4 : Int32)  : Nat → Int32 → Int32 → gS → Option (Int32 × gS)
  | 0 => fun _ _ _ => none
  | n + 1 => fun l5 l6 st => fX11_surely_9 a1 a2 a3 a4 (hX11_surely_9 a1 a2 a3 a4 n) l5 l6 st
set_option maxRecDepth 100000 in
set_option maxHeartbeats 4000000 in
theorem wX11_surely_9 {a1 : Int32} {a2 : Int32} {a3 : Int32} {a4 : Int32} (hC : CallFix p m c cX11_surely 11 s args lw_good RX11) (hret : meth.sig.returnType = (some .int)) (hlk : meth.locks = false) (hU : gU 1 D cA ad s)  {r : Int32} {st' : gS}  : ∀ (n : Nat) {l5 : Int32} {l6 : Int32} {st : gS} {H : Heap} {locs : List Loc} {ls : Array Slot}, hX11_surely_9 a1 a2 a3 a4 n l5 l6 st = some (r, st') → gP0 1 D cA ad st H → va_S (gA 1 ad) s.heap H locs → lv_has ls 11 [(0, .ref (ad 0)), (1, .int a1), (2, .int a2), (3, .int a3), (5, .int l5), (6, .int l6)] → W p l e (gRm 5) s m args below meth c H locs 0 0 (MQ below (gQc 1 D cA ad st' (some (.int r))) args s 0 0 (gA 1 ad)) (F0 m 9 ls []) := by
  intro n
  induction n with
  | zero => intro l5 l6 st H locs ls hf hH hS hl; cases hf
  | succ n ih =>
    intro l5 l6 st H locs ls hf hH hS hl
    exact bX11_surely_9 (a1 := a1) (a2 := a2) (a3 := a3) (a4 := a4) hC hret hlk hU (fun hf hH hS hl => ih hf hH hS hl) hf hH hS hl
def fX11_surely (a1 : Int32) (a2 : Int32) (a3 : Int32) (a4 : Int32)   (st : gS) : Option (Int32 × gS) :=
  hX11_surely_9 a1 a2 a3 a4 FU a4 (a3 - 1) st
set_option maxRecDepth 100000 in
set_option maxHeartbeats 4000000 in
theorem bX11_surely_0 {a1 : Int32} {a2 : Int32} {a3 : Int32} {a4 : Int32} (hC : CallFix p m c cX11_surely 11 s args lw_good RX11) (hret : meth.sig.returnType = (some .int)) (hlk : meth.locks = false) (hU : gU 1 D cA ad s)  {r : Int32} {st' : gS}   {st : gS} {H : Heap} {locs : List Loc} {ls : Array Slot} (hf : fX11_surely a1 a2 a3 a4 st = some (r, st')) (hH : gP0 1 D cA ad st H) (hS : va_S (gA 1 ad) s.heap H locs) (hl : lv_has ls 11 [(0, .ref (ad 0)), (1, .int a1), (2, .int a2), (3, .int a3), (4, .int a4)]) : W p l e (gRm 5) s m args below meth c H locs 0 0 (MQ below (gQc 1 D cA ad st' (some (.int r))) args s 0 0 (gA 1 ad)) (F0 m 0 ls []) := by
  obtain ⟨hx, hb, hml, hown, hts⟩ := id hC
  unfold fX11_surely at hf
  refine lv_iload (pc := 0) hx hb dX11_surely_0 (lv_at hl 4 rfl) ?_
  refine lv_istore (lv' := [(5, .int a4), (0, .ref (ad 0)), (1, .int a1), (2, .int a2), (3, .int a3), (4, .int a4)]) (pc := 2) hx hb dX11_surely_2 hl (by decide) rfl (fun ls hl => ?_)
  refine lv_iload_n (pc := 4) hx hb dX11_surely_4 rfl (lv_at hl 4 rfl) ?_
  refine lv_iconst (v := 1) (pc := 5) hx hb dX11_surely_5 (by decide) ?_
  refine lv_isub (pc := 6) hx hb dX11_surely_6 ?_
  refine lv_istore (lv' := [(6, .int (a3 - 1)), (5, .int a4), (0, .ref (ad 0)), (1, .int a1), (2, .int a2), (3, .int a3), (4, .int a4)]) (pc := 7) hx hb dX11_surely_7 hl (by decide) rfl (fun ls hl => ?_)
  exact wX11_surely_9 hC hret hlk hU FU hf hH hS (lv_sub hl [2, 3, 4, 5, 1, 0] rfl)
set_option maxRecDepth 100000 in
set_option maxHeartbeats 4000000 in
theorem mX11_surely {l : Launch} {D : va_G} {cA : Nat → ClassId} {ad : Nat → Nat} {a1 : Int32} {a2 : Int32} {a3 : Int32} {a4 : Int32}  {r : Int32} {st st' : gS} (hf : fX11_surely a1 a2 a3 a4 st = some (r, st')) : gM l yX11_surely cX11_surely 11 (some .int) 5 1 D cA ad st [.ref (ad 0), .int a1, .int a2, .int a3, .int a4] (some (.int r)) st' := by
  refine g_met (by decide) (Nat.le_of_ble_eq_true rfl) ?_
  intro p e s m args below meth c ls hC hret hlk hU hH hl
  exact bX11_surely_0 hC hret hlk hU hf hH va_S.rf hl
def fX11_divisor_4 (a0 : Int32) (a1 : Int32) (k4 : Int32 → Int32 → gS → Option (Int32 × gS)) (l2 : Int32) (l3 : Int32) (st : gS) : Option (Int32 × gS) :=
  if l3 ≤ 0 then (some (l2, st)) else (gc (¬ l3 = 0) (gl (l2 - l2 / l3 * l3) fun x11 => (k4 l3 x11 st)))
set_option maxRecDepth 100000 in
set_option maxHeartbeats 4000000 in
theorem bX11_divisor_4 {a0 : Int32} {a1 : Int32} (hC : CallFix p m c cX11_divisor 5 s args lw_good RX11) (hret : meth.sig.returnType = (some .int)) (hlk : meth.locks = false) (hU : gU 1 D cA ad s)  {r : Int32} {st' : gS} {k4 : Int32 → Int32 → gS → Option (Int32 × gS)} (hk4 : ∀ {l2 : Int32} {l3 : Int32} {st : gS} {H : Heap} {locs : List Loc} {ls : Array Slot}, k4 l2 l3 st = some (r, st') → gP0 1 D cA ad st H → va_S (gA 1 ad) s.heap H locs → lv_has ls 5 [(2, .int l2), (3, .int l3)] → W p l e (gRm 1) s m args below meth c H locs 0 0 (MQ below (gQc 1 D cA ad st' (some (.int r))) args s 0 0 (gA 1 ad)) (F0 m 4 ls [])) {l2 : Int32} {l3 : Int32} {st : gS} {H : Heap} {locs : List Loc} {ls : Array Slot} (hf : fX11_divisor_4 a0 a1 k4 l2 l3 st = some (r, st')) (hH : gP0 1 D cA ad st H) (hS : va_S (gA 1 ad) s.heap H locs) (hl : lv_has ls 5 [(2, .int l2), (3, .int l3)]) : W p l e (gRm 1) s m args below meth c H locs 0 0 (MQ below (gQc 1 D cA ad st' (some (.int r))) args s 0 0 (gA 1 ad)) (F0 m 4 ls []) := by
  obtain ⟨hx, hb, hml, hown, hts⟩ := id hC
  unfold fX11_divisor_4 at hf
  refine lv_iload_n (pc := 4) hx hb dX11_divisor_4 rfl (lv_at hl 1 rfl) ?_
  refine lv_if_le (tgt := 21) (pc := 5) hx hb dX11_divisor_5 (by decide) (fun hc => ?_) (fun hc => ?_)
  · have hf := gif_p hc hf
    refine lv_iload_n (pc := 21) hx hb dX11_divisor_21 rfl (lv_at hl 0 rfl) ?_
    exact g_iret (pc := 22) hC hret hlk hH hS hf dX11_divisor_22
  · have hf := gif_n hc hf
    refine lv_iload_n (pc := 8) hx hb dX11_divisor_8 rfl (lv_at hl 0 rfl) ?_
    refine lv_iload_n (pc := 9) hx hb dX11_divisor_9 rfl (lv_at hl 1 rfl) ?_
    obtain ⟨h4_1, hf⟩ := gc_s hf
    refine lv_irem (pc := 10) hx hb dX11_divisor_10 h4_1 ?_
    refine lv_topi (pc := 11) (fun x11 ex11 => ?_)
    have hf := gl_s ex11 hf
    refine lv_istore (lv' := [(4, .int x11), (2, .int l2), (3, .int l3)]) (pc := 11) hx hb dX11_divisor_11 hl (by decide) rfl (fun ls hl => ?_)
    refine lv_iload_n (pc := 13) hx hb dX11_divisor_13 rfl (lv_at hl 2 rfl) ?_
    refine lv_istore_n (lv' := [(2, .int l3), (4, .int x11), (3, .int l3)]) (pc := 14) hx hb dX11_divisor_14 rfl hl (by decide) rfl (fun ls hl => ?_)
    refine lv_iload (pc := 15) hx hb dX11_divisor_15 (lv_at hl 1 rfl) ?_
    refine lv_istore_n (lv' := [(3, .int x11), (2, .int l3), (4, .int x11)]) (pc := 17) hx hb dX11_divisor_17 rfl hl (by decide) rfl (fun ls hl => ?_)
    refine lv_goto (tgt := 4) (pc := 18) hx hb dX11_divisor_18 (by decide) ?_
    exact hk4 hf hH hS (lv_sub hl [1, 0] rfl)
def hX11_divisor_4 (a0 : Int32) (a1 : Int32)  : Nat → Int32 → Int32 → gS → Option (Int32 × gS)
  | 0 => fun _ _ _ => none
  | n + 1 => fun l2 l3 st => fX11_divisor_4 a0 a1 (hX11_divisor_4 a0 a1 n) l2 l3 st
set_option maxRecDepth 100000 in
set_option maxHeartbeats 4000000 in
theorem wX11_divisor_4 {a0 : Int32} {a1 : Int32} (hC : CallFix p m c cX11_divisor 5 s args lw_good RX11) (hret : meth.sig.returnType = (some .int)) (hlk : meth.locks = false) (hU : gU 1 D cA ad s)  {r : Int32} {st' : gS}  : ∀ (n : Nat) {l2 : Int32} {l3 : Int32} {st : gS} {H : Heap} {locs : List Loc} {ls : Array Slot}, hX11_divisor_4 a0 a1 n l2 l3 st = some (r, st') → gP0 1 D cA ad st H → va_S (gA 1 ad) s.heap H locs → lv_has ls 5 [(2, .int l2), (3, .int l3)] → W p l e (gRm 1) s m args below meth c H locs 0 0 (MQ below (gQc 1 D cA ad st' (some (.int r))) args s 0 0 (gA 1 ad)) (F0 m 4 ls []) := by
  intro n
  induction n with
  | zero => intro l2 l3 st H locs ls hf hH hS hl; cases hf
  | succ n ih =>
    intro l2 l3 st H locs ls hf hH hS hl
    exact bX11_divisor_4 (a0 := a0) (a1 := a1) hC hret hlk hU (fun hf hH hS hl => ih hf hH hS hl) hf hH hS hl
def fX11_divisor (a0 : Int32) (a1 : Int32)   (st : gS) : Option (Int32 × gS) :=
  hX11_divisor_4 a0 a1 FU a0 a1 st
set_option maxRecDepth 100000 in
set_option maxHeartbeats 4000000 in
theorem bX11_divisor_0 {a0 : Int32} {a1 : Int32} (hC : CallFix p m c cX11_divisor 5 s args lw_good RX11) (hret : meth.sig.returnType = (some .int)) (hlk : meth.locks = false) (hU : gU 1 D cA ad s)  {r : Int32} {st' : gS}   {st : gS} {H : Heap} {locs : List Loc} {ls : Array Slot} (hf : fX11_divisor a0 a1 st = some (r, st')) (hH : gP0 1 D cA ad st H) (hS : va_S (gA 1 ad) s.heap H locs) (hl : lv_has ls 5 [(0, .int a0), (1, .int a1)]) : W p l e (gRm 1) s m args below meth c H locs 0 0 (MQ below (gQc 1 D cA ad st' (some (.int r))) args s 0 0 (gA 1 ad)) (F0 m 0 ls []) := by
  obtain ⟨hx, hb, hml, hown, hts⟩ := id hC
  unfold fX11_divisor at hf
  refine lv_iload_n (pc := 0) hx hb dX11_divisor_0 rfl (lv_at hl 0 rfl) ?_
  refine lv_istore_n (lv' := [(2, .int a0), (0, .int a0), (1, .int a1)]) (pc := 1) hx hb dX11_divisor_1 rfl hl (by decide) rfl (fun ls hl => ?_)
  refine lv_iload_n (pc := 2) hx hb dX11_divisor_2 rfl (lv_at hl 2 rfl) ?_
  refine lv_istore_n (lv' := [(3, .int a1), (2, .int a0), (0, .int a0), (1, .int a1)]) (pc := 3) hx hb dX11_divisor_3 rfl hl (by decide) rfl (fun ls hl => ?_)
  exact wX11_divisor_4 hC hret hlk hU FU hf hH hS (lv_sub hl [1, 0] rfl)
set_option maxRecDepth 100000 in
set_option maxHeartbeats 4000000 in
theorem mX11_divisor {l : Launch} {D : va_G} {cA : Nat → ClassId} {ad : Nat → Nat} {a0 : Int32} {a1 : Int32}  {r : Int32} {st st' : gS} (hf : fX11_divisor a0 a1 st = some (r, st')) : gM l yX11_divisor cX11_divisor 5 (some .int) 1 1 D cA ad st [.int a0, .int a1] (some (.int r)) st' := by
  refine g_met (by decide) (Nat.le_of_ble_eq_true rfl) ?_
  intro p e s m args below meth c ls hC hret hlk hU hH hl
  exact bX11_divisor_0 hC hret hlk hU hf hH va_S.rf hl
def fX11_surest_126 (a1 : Int32) (a2 : Int32) (a3 : Int32) (k41 : Int32 → Int32 → Int32 → gS → Option (Int32 × gS)) (k61 : Int32 → Int32 → Int32 → Int32 → Int32 → gS → Option (Int32 × gS)) (k126 : Int32 → Int32 → Int32 → Int32 → Int32 → Int32 → gS → Option (Int32 × gS)) (l4 : Int32) (l5 : Int32) (l6 : Int32) (l7 : Int32) (l8 : Int32) (l10 : Int32) (st : gS) : Option (Int32 × gS) :=
  if l6 ≤ l10 then (k61 l4 l5 l6 l7 (l8 + 1) st) else (gc (gI l10 4) (gc (gI l10 16) (k126 l4 l5 l6 l7 l8 (l10 + 1) (wi st 32 l10.toNatClampNeg (st.1 33 l10.toNatClampNeg)))))
set_option maxRecDepth 100000 in
set_option maxHeartbeats 4000000 in
theorem bX11_surest_126 {a1 : Int32} {a2 : Int32} {a3 : Int32} (hC : CallFix p m c cX11_surest 11 s args lw_good RX11) (hret : meth.sig.returnType = (some .int)) (hlk : meth.locks = false) (hU : gU 1 D cA ad s)  {r : Int32} {st' : gS} {k41 : Int32 → Int32 → Int32 → gS → Option (Int32 × gS)} (hk41 : ∀ {l4 : Int32} {l5 : Int32} {l6 : Int32} {st : gS} {H : Heap} {locs : List Loc} {ls : Array Slot}, k41 l4 l5 l6 st = some (r, st') → gP0 1 D cA ad st H → va_S (gA 1 ad) s.heap H locs → lv_has ls 11 [(0, .ref (ad 0)), (1, .int a1), (2, .int a2), (3, .int a3), (4, .int l4), (5, .int l5), (6, .int l6)] → W p l e (gRm 6) s m args below meth c H locs 0 0 (MQ below (gQc 1 D cA ad st' (some (.int r))) args s 0 0 (gA 1 ad)) (F0 m 41 ls [])) {k61 : Int32 → Int32 → Int32 → Int32 → Int32 → gS → Option (Int32 × gS)} (hk61 : ∀ {l4 : Int32} {l5 : Int32} {l6 : Int32} {l7 : Int32} {l8 : Int32} {st : gS} {H : Heap} {locs : List Loc} {ls : Array Slot}, k61 l4 l5 l6 l7 l8 st = some (r, st') → gP0 1 D cA ad st H → va_S (gA 1 ad) s.heap H locs → lv_has ls 11 [(0, .ref (ad 0)), (1, .int a1), (2, .int a2), (3, .int a3), (4, .int l4), (5, .int l5), (6, .int l6), (7, .int l7), (8, .int l8)] → W p l e (gRm 6) s m args below meth c H locs 0 0 (MQ below (gQc 1 D cA ad st' (some (.int r))) args s 0 0 (gA 1 ad)) (F0 m 61 ls [])) {k126 : Int32 → Int32 → Int32 → Int32 → Int32 → Int32 → gS → Option (Int32 × gS)} (hk126 : ∀ {l4 : Int32} {l5 : Int32} {l6 : Int32} {l7 : Int32} {l8 : Int32} {l10 : Int32} {st : gS} {H : Heap} {locs : List Loc} {ls : Array Slot}, k126 l4 l5 l6 l7 l8 l10 st = some (r, st') → gP0 1 D cA ad st H → va_S (gA 1 ad) s.heap H locs → lv_has ls 11 [(0, .ref (ad 0)), (1, .int a1), (2, .int a2), (3, .int a3), (4, .int l4), (5, .int l5), (6, .int l6), (7, .int l7), (8, .int l8), (10, .int l10)] → W p l e (gRm 6) s m args below meth c H locs 0 0 (MQ below (gQc 1 D cA ad st' (some (.int r))) args s 0 0 (gA 1 ad)) (F0 m 126 ls [])) {l4 : Int32} {l5 : Int32} {l6 : Int32} {l7 : Int32} {l8 : Int32} {l10 : Int32} {st : gS} {H : Heap} {locs : List Loc} {ls : Array Slot} (hf : fX11_surest_126 a1 a2 a3 k41 k61 k126 l4 l5 l6 l7 l8 l10 st = some (r, st')) (hH : gP0 1 D cA ad st H) (hS : va_S (gA 1 ad) s.heap H locs) (hl : lv_has ls 11 [(0, .ref (ad 0)), (1, .int a1), (2, .int a2), (3, .int a3), (4, .int l4), (5, .int l5), (6, .int l6), (7, .int l7), (8, .int l8), (10, .int l10)]) : W p l e (gRm 6) s m args below meth c H locs 0 0 (MQ below (gQc 1 D cA ad st' (some (.int r))) args s 0 0 (gA 1 ad)) (F0 m 126 ls []) := by
  obtain ⟨hx, hb, hml, hown, hts⟩ := id hC
  unfold fX11_surest_126 at hf
  refine lv_iload (pc := 126) hx hb dX11_surest_126 (lv_at hl 9 rfl) ?_
  refine lv_iload (pc := 128) hx hb dX11_surest_128 (lv_at hl 6 rfl) ?_
  refine lv_icmp_ge (tgt := 153) (pc := 130) hx hb dX11_surest_130 (by decide) (fun hc => ?_) (fun hc => ?_)
  · have hf := gif_p hc hf
    refine lv_iinc (v := l8 + 1) (lv' := [(8, .int (l8 + 1)), (0, .ref (ad 0)), (1, .int a1), (2, .int a2), (3, .int a3), (4, .int l4), (5, .int l5), (6, .int l6), (7, .int l7), (10, .int l10)]) (k := 8) (pc := 153) hx hb dX11_surest_153 hl rfl rfl (by decide) rfl (fun ls hl => ?_)
    refine lv_goto (tgt := 61) (pc := 156) hx hb dX11_surest_156 (by decide) ?_
    exact hk61 hf hH hS (lv_sub hl [1, 2, 3, 4, 5, 6, 7, 8, 0] rfl)
  · have hf := gif_n hc hf
    refine lv_aload_n (pc := 133) hx hb dX11_surest_133 rfl (lv_at hl 0 rfl) ?_
    refine g_get (pc := 134) (v := .ref (ad 32)) hC hU hH gk1_0 g_cl11 61 (by decide) kf_X11_112 rfl dX11_surest_134 ?_
    refine lv_iload (pc := 137) hx hb dX11_surest_137 (lv_at hl 9 rfl) ?_
    refine lv_aload_n (pc := 139) hx hb dX11_surest_139 rfl (lv_at hl 0 rfl) ?_
    refine g_get (pc := 140) (v := .ref (ad 33)) hC hU hH gk1_0 g_cl11 63 (by decide) kf_X11_115 rfl dX11_surest_140 ?_
    refine lv_iload (pc := 143) hx hb dX11_surest_143 (lv_at hl 9 rfl) ?_
    obtain ⟨h126_1, hf⟩ := gc_s hf
    refine g_iald (pc := 145) hC hU hH gk1_33 gn1_33 h126_1 dX11_surest_145 ?_
    obtain ⟨h126_2, hf⟩ := gc_s hf
    refine g_iast (pc := 146) hC hU hH hS gk1_32 gn1_32 h126_2 dX11_surest_146 (fun H locs hH hS => ?_)
    refine lv_iinc (v := l10 + 1) (lv' := [(10, .int (l10 + 1)), (0, .ref (ad 0)), (1, .int a1), (2, .int a2), (3, .int a3), (4, .int l4), (5, .int l5), (6, .int l6), (7, .int l7), (8, .int l8)]) (k := 9) (pc := 147) hx hb dX11_surest_147 hl rfl rfl (by decide) rfl (fun ls hl => ?_)
    refine lv_goto (tgt := 126) (pc := 150) hx hb dX11_surest_150 (by decide) ?_
    exact hk126 hf hH hS (lv_sub hl [1, 2, 3, 4, 5, 6, 7, 8, 9, 0] rfl)
def hX11_surest_126 (a1 : Int32) (a2 : Int32) (a3 : Int32) (k41 : Int32 → Int32 → Int32 → gS → Option (Int32 × gS)) (k61 : Int32 → Int32 → Int32 → Int32 → Int32 → gS → Option (Int32 × gS)) : Nat → Int32 → Int32 → Int32 → Int32 → Int32 → Int32 → gS → Option (Int32 × gS)
  | 0 => fun _ _ _ _ _ _ _ => none
  | n + 1 => fun l4 l5 l6 l7 l8 l10 st => fX11_surest_126 a1 a2 a3 k41 k61 (hX11_surest_126 a1 a2 a3 k41 k61 n) l4 l5 l6 l7 l8 l10 st
set_option maxRecDepth 100000 in
set_option maxHeartbeats 4000000 in
theorem wX11_surest_126 {a1 : Int32} {a2 : Int32} {a3 : Int32} (hC : CallFix p m c cX11_surest 11 s args lw_good RX11) (hret : meth.sig.returnType = (some .int)) (hlk : meth.locks = false) (hU : gU 1 D cA ad s)  {r : Int32} {st' : gS} {k41 : Int32 → Int32 → Int32 → gS → Option (Int32 × gS)} (hk41 : ∀ {l4 : Int32} {l5 : Int32} {l6 : Int32} {st : gS} {H : Heap} {locs : List Loc} {ls : Array Slot}, k41 l4 l5 l6 st = some (r, st') → gP0 1 D cA ad st H → va_S (gA 1 ad) s.heap H locs → lv_has ls 11 [(0, .ref (ad 0)), (1, .int a1), (2, .int a2), (3, .int a3), (4, .int l4), (5, .int l5), (6, .int l6)] → W p l e (gRm 6) s m args below meth c H locs 0 0 (MQ below (gQc 1 D cA ad st' (some (.int r))) args s 0 0 (gA 1 ad)) (F0 m 41 ls [])) {k61 : Int32 → Int32 → Int32 → Int32 → Int32 → gS → Option (Int32 × gS)} (hk61 : ∀ {l4 : Int32} {l5 : Int32} {l6 : Int32} {l7 : Int32} {l8 : Int32} {st : gS} {H : Heap} {locs : List Loc} {ls : Array Slot}, k61 l4 l5 l6 l7 l8 st = some (r, st') → gP0 1 D cA ad st H → va_S (gA 1 ad) s.heap H locs → lv_has ls 11 [(0, .ref (ad 0)), (1, .int a1), (2, .int a2), (3, .int a3), (4, .int l4), (5, .int l5), (6, .int l6), (7, .int l7), (8, .int l8)] → W p l e (gRm 6) s m args below meth c H locs 0 0 (MQ below (gQc 1 D cA ad st' (some (.int r))) args s 0 0 (gA 1 ad)) (F0 m 61 ls [])) : ∀ (n : Nat) {l4 : Int32} {l5 : Int32} {l6 : Int32} {l7 : Int32} {l8 : Int32} {l10 : Int32} {st : gS} {H : Heap} {locs : List Loc} {ls : Array Slot}, hX11_surest_126 a1 a2 a3 k41 k61 n l4 l5 l6 l7 l8 l10 st = some (r, st') → gP0 1 D cA ad st H → va_S (gA 1 ad) s.heap H locs → lv_has ls 11 [(0, .ref (ad 0)), (1, .int a1), (2, .int a2), (3, .int a3), (4, .int l4), (5, .int l5), (6, .int l6), (7, .int l7), (8, .int l8), (10, .int l10)] → W p l e (gRm 6) s m args below meth c H locs 0 0 (MQ below (gQc 1 D cA ad st' (some (.int r))) args s 0 0 (gA 1 ad)) (F0 m 126 ls []) := by
  intro n
  induction n with
  | zero => intro l4 l5 l6 l7 l8 l10 st H locs ls hf hH hS hl; cases hf
  | succ n ih =>
    intro l4 l5 l6 l7 l8 l10 st H locs ls hf hH hS hl
    exact bX11_surest_126 (a1 := a1) (a2 := a2) (a3 := a3) hC hret hlk hU hk41 hk61 (fun hf hH hS hl => ih hf hH hS hl) hf hH hS hl
def fX11_surest_61 (a1 : Int32) (a2 : Int32) (a3 : Int32) (k41 : Int32 → Int32 → Int32 → gS → Option (Int32 × gS)) (k61 : Int32 → Int32 → Int32 → Int32 → Int32 → gS → Option (Int32 × gS)) (l4 : Int32) (l5 : Int32) (l6 : Int32) (l7 : Int32) (l8 : Int32) (st : gS) : Option (Int32 × gS) :=
  if l7 ≤ l8 then (k41 l4 l5 (l6 + 1) st) else ((fX11_surely a1 a2 l6 l8 st).bind fun q61_1 => (if q61_1.1 < 0 then (k61 l4 l5 l6 l7 (l8 + 1) q61_1.2) else ((fX11_power 100 (4 - l6) q61_1.2).bind fun q61_2 => (if l4 < (q61_1.1 * q61_2.1) then ((fX11_power 100 (4 - l6) q61_2.2).bind fun q61_3 => (gl (q61_1.1 * q61_3.1) fun x117 => (hX11_surest_126 a1 a2 a3 k41 k61 FU x117 l6 l6 l7 l8 0 q61_3.2))) else (k61 l4 l5 l6 l7 (l8 + 1) q61_2.2)))))
set_option maxRecDepth 100000 in
set_option maxHeartbeats 4000000 in
theorem bX11_surest_61 {a1 : Int32} {a2 : Int32} {a3 : Int32} (hC : CallFix p m c cX11_surest 11 s args lw_good RX11) (hret : meth.sig.returnType = (some .int)) (hlk : meth.locks = false) (hU : gU 1 D cA ad s)  {r : Int32} {st' : gS} {k41 : Int32 → Int32 → Int32 → gS → Option (Int32 × gS)} (hk41 : ∀ {l4 : Int32} {l5 : Int32} {l6 : Int32} {st : gS} {H : Heap} {locs : List Loc} {ls : Array Slot}, k41 l4 l5 l6 st = some (r, st') → gP0 1 D cA ad st H → va_S (gA 1 ad) s.heap H locs → lv_has ls 11 [(0, .ref (ad 0)), (1, .int a1), (2, .int a2), (3, .int a3), (4, .int l4), (5, .int l5), (6, .int l6)] → W p l e (gRm 6) s m args below meth c H locs 0 0 (MQ below (gQc 1 D cA ad st' (some (.int r))) args s 0 0 (gA 1 ad)) (F0 m 41 ls [])) {k61 : Int32 → Int32 → Int32 → Int32 → Int32 → gS → Option (Int32 × gS)} (hk61 : ∀ {l4 : Int32} {l5 : Int32} {l6 : Int32} {l7 : Int32} {l8 : Int32} {st : gS} {H : Heap} {locs : List Loc} {ls : Array Slot}, k61 l4 l5 l6 l7 l8 st = some (r, st') → gP0 1 D cA ad st H → va_S (gA 1 ad) s.heap H locs → lv_has ls 11 [(0, .ref (ad 0)), (1, .int a1), (2, .int a2), (3, .int a3), (4, .int l4), (5, .int l5), (6, .int l6), (7, .int l7), (8, .int l8)] → W p l e (gRm 6) s m args below meth c H locs 0 0 (MQ below (gQc 1 D cA ad st' (some (.int r))) args s 0 0 (gA 1 ad)) (F0 m 61 ls [])) {l4 : Int32} {l5 : Int32} {l6 : Int32} {l7 : Int32} {l8 : Int32} {st : gS} {H : Heap} {locs : List Loc} {ls : Array Slot} (hf : fX11_surest_61 a1 a2 a3 k41 k61 l4 l5 l6 l7 l8 st = some (r, st')) (hH : gP0 1 D cA ad st H) (hS : va_S (gA 1 ad) s.heap H locs) (hl : lv_has ls 11 [(0, .ref (ad 0)), (1, .int a1), (2, .int a2), (3, .int a3), (4, .int l4), (5, .int l5), (6, .int l6), (7, .int l7), (8, .int l8)]) : W p l e (gRm 6) s m args below meth c H locs 0 0 (MQ below (gQc 1 D cA ad st' (some (.int r))) args s 0 0 (gA 1 ad)) (F0 m 61 ls []) := by
  obtain ⟨hx, hb, hml, hown, hts⟩ := id hC
  unfold fX11_surest_61 at hf
  refine lv_iload (pc := 61) hx hb dX11_surest_61 (lv_at hl 8 rfl) ?_
  refine lv_iload (pc := 63) hx hb dX11_surest_63 (lv_at hl 7 rfl) ?_
  refine lv_icmp_ge (tgt := 159) (pc := 65) hx hb dX11_surest_65 (by decide) (fun hc => ?_) (fun hc => ?_)
  · have hf := gif_p hc hf
    refine lv_iinc (v := l6 + 1) (lv' := [(6, .int (l6 + 1)), (0, .ref (ad 0)), (1, .int a1), (2, .int a2), (3, .int a3), (4, .int l4), (5, .int l5), (7, .int l7), (8, .int l8)]) (k := 6) (pc := 159) hx hb dX11_surest_159 hl rfl rfl (by decide) rfl (fun ls hl => ?_)
    refine lv_goto (tgt := 41) (pc := 162) hx hb dX11_surest_162 (by decide) ?_
    exact hk41 hf hH hS (lv_sub hl [1, 2, 3, 4, 5, 6, 0] rfl)
  · have hf := gif_n hc hf
    refine lv_aload_n (pc := 68) hx hb dX11_surest_68 rfl (lv_at hl 0 rfl) ?_
    refine lv_iload_n (pc := 69) hx hb dX11_surest_69 rfl (lv_at hl 1 rfl) ?_
    refine lv_iload_n (pc := 70) hx hb dX11_surest_70 rfl (lv_at hl 2 rfl) ?_
    refine lv_iload (pc := 71) hx hb dX11_surest_71 (lv_at hl 6 rfl) ?_
    refine lv_iload (pc := 73) hx hb dX11_surest_73 (lv_at hl 8 rfl) ?_
    obtain ⟨q61_1, hq61_1, hf⟩ := gbd hf
    refine g_callVi (pc := 75) (rest := []) hC hU hH hS hl.1 gk1_0 rfl (by decide) (mX11_surely  hq61_1) ky_X11_surely km_X11_480 ⟨Nat.le_of_ble_eq_true rfl, Nat.le_of_ble_eq_true rfl⟩ ⟨Nat.zero_le _, Nat.zero_le _⟩ rfl (Nat.le_of_ble_eq_true rfl) dX11_surest_75 rfl (fun H locs hH hS => ?_)
    refine lv_istore (lv' := [(9, .int q61_1.1), (0, .ref (ad 0)), (1, .int a1), (2, .int a2), (3, .int a3), (4, .int l4), (5, .int l5), (6, .int l6), (7, .int l7), (8, .int l8)]) (pc := 78) hx hb dX11_surest_78 hl (by decide) rfl (fun ls hl => ?_)
    refine lv_iload (pc := 80) hx hb dX11_surest_80 (lv_at hl 0 rfl) ?_
    refine lv_if_lt (tgt := 153) (pc := 82) hx hb dX11_surest_82 (by decide) (fun hc => ?_) (fun hc => ?_)
    · have hf := gif_p hc hf
      refine lv_iinc (v := l8 + 1) (lv' := [(8, .int (l8 + 1)), (9, .int q61_1.1), (0, .ref (ad 0)), (1, .int a1), (2, .int a2), (3, .int a3), (4, .int l4), (5, .int l5), (6, .int l6), (7, .int l7)]) (k := 9) (pc := 153) hx hb dX11_surest_153 hl rfl rfl (by decide) rfl (fun ls hl => ?_)
      refine lv_goto (tgt := 61) (pc := 156) hx hb dX11_surest_156 (by decide) ?_
      exact hk61 hf hH hS (lv_sub hl [2, 3, 4, 5, 6, 7, 8, 9, 0] rfl)
    · have hf := gif_n hc hf
      refine lv_iload (pc := 85) hx hb dX11_surest_85 (lv_at hl 0 rfl) ?_
      refine lv_bipush (v := 100) (pc := 87) hx hb dX11_surest_87 (by decide) ?_
      refine lv_iconst (v := 4) (pc := 89) hx hb dX11_surest_89 (by decide) ?_
      refine lv_iload (pc := 90) hx hb dX11_surest_90 (lv_at hl 7 rfl) ?_
      refine lv_isub (pc := 92) hx hb dX11_surest_92 ?_
      obtain ⟨q61_2, hq61_2, hf⟩ := gbd hf
      refine g_callSi (pc := 93) (rest := [.int q61_1.1]) hC hU hH hS hl.1 (mX11_power  hq61_2) ky_X11_power km_X11_477 ⟨Nat.le_of_ble_eq_true rfl, Nat.le_of_ble_eq_true rfl⟩ ⟨Nat.zero_le _, Nat.zero_le _⟩ rfl (Nat.le_of_ble_eq_true rfl) dX11_surest_93 rfl (fun H locs hH hS => ?_)
      refine lv_imul (pc := 96) hx hb dX11_surest_96 ?_
      refine lv_iload (pc := 97) hx hb dX11_surest_97 (lv_at hl 5 rfl) ?_
      refine lv_icmp_gt (tgt := 105) (pc := 99) hx hb dX11_surest_99 (by decide) (fun hc => ?_) (fun hc => ?_)
      · have hf := gif_p hc hf
        refine lv_iload (pc := 105) hx hb dX11_surest_105 (lv_at hl 0 rfl) ?_
        refine lv_bipush (v := 100) (pc := 107) hx hb dX11_surest_107 (by decide) ?_
        refine lv_iconst (v := 4) (pc := 109) hx hb dX11_surest_109 (by decide) ?_
        refine lv_iload (pc := 110) hx hb dX11_surest_110 (lv_at hl 7 rfl) ?_
        refine lv_isub (pc := 112) hx hb dX11_surest_112 ?_
        obtain ⟨q61_3, hq61_3, hf⟩ := gbd hf
        refine g_callSi (pc := 113) (rest := [.int q61_1.1]) hC hU hH hS hl.1 (mX11_power  hq61_3) ky_X11_power km_X11_477 ⟨Nat.le_of_ble_eq_true rfl, Nat.le_of_ble_eq_true rfl⟩ ⟨Nat.zero_le _, Nat.zero_le _⟩ rfl (Nat.le_of_ble_eq_true rfl) dX11_surest_113 rfl (fun H locs hH hS => ?_)
        refine lv_imul (pc := 116) hx hb dX11_surest_116 ?_
        refine lv_topi (pc := 117) (fun x117 ex117 => ?_)
        have hf := gl_s ex117 hf
        refine lv_istore (lv' := [(4, .int x117), (9, .int q61_1.1), (0, .ref (ad 0)), (1, .int a1), (2, .int a2), (3, .int a3), (5, .int l5), (6, .int l6), (7, .int l7), (8, .int l8)]) (pc := 117) hx hb dX11_surest_117 hl (by decide) rfl (fun ls hl => ?_)
        refine lv_iload (pc := 119) hx hb dX11_surest_119 (lv_at hl 7 rfl) ?_
        refine lv_istore (lv' := [(5, .int l6), (4, .int x117), (9, .int q61_1.1), (0, .ref (ad 0)), (1, .int a1), (2, .int a2), (3, .int a3), (6, .int l6), (7, .int l7), (8, .int l8)]) (pc := 121) hx hb dX11_surest_121 hl (by decide) rfl (fun ls hl => ?_)
        refine lv_iconst (v := 0) (pc := 123) hx hb dX11_surest_123 (by decide) ?_
        refine lv_istore (lv' := [(10, .int 0), (5, .int l6), (4, .int x117), (9, .int q61_1.1), (0, .ref (ad 0)), (1, .int a1), (2, .int a2), (3, .int a3), (6, .int l6), (7, .int l7), (8, .int l8)]) (pc := 124) hx hb dX11_surest_124 hl (by decide) rfl (fun ls hl => ?_)
        exact wX11_surest_126 hC hret hlk hU hk41 hk61 FU hf hH hS (lv_sub hl [4, 5, 6, 7, 2, 1, 8, 9, 10, 0] rfl)
      · have hf := gif_n hc hf
        refine lv_goto (tgt := 153) (pc := 102) hx hb dX11_surest_102 (by decide) ?_
        refine lv_iinc (v := l8 + 1) (lv' := [(8, .int (l8 + 1)), (9, .int q61_1.1), (0, .ref (ad 0)), (1, .int a1), (2, .int a2), (3, .int a3), (4, .int l4), (5, .int l5), (6, .int l6), (7, .int l7)]) (k := 9) (pc := 153) hx hb dX11_surest_153 hl rfl rfl (by decide) rfl (fun ls hl => ?_)
        refine lv_goto (tgt := 61) (pc := 156) hx hb dX11_surest_156 (by decide) ?_
        exact hk61 hf hH hS (lv_sub hl [2, 3, 4, 5, 6, 7, 8, 9, 0] rfl)
def hX11_surest_61 (a1 : Int32) (a2 : Int32) (a3 : Int32) (k41 : Int32 → Int32 → Int32 → gS → Option (Int32 × gS)) : Nat → Int32 → Int32 → Int32 → Int32 → Int32 → gS → Option (Int32 × gS)
  | 0 => fun _ _ _ _ _ _ => none
  | n + 1 => fun l4 l5 l6 l7 l8 st => fX11_surest_61 a1 a2 a3 k41 (hX11_surest_61 a1 a2 a3 k41 n) l4 l5 l6 l7 l8 st
set_option maxRecDepth 100000 in
set_option maxHeartbeats 4000000 in
theorem wX11_surest_61 {a1 : Int32} {a2 : Int32} {a3 : Int32} (hC : CallFix p m c cX11_surest 11 s args lw_good RX11) (hret : meth.sig.returnType = (some .int)) (hlk : meth.locks = false) (hU : gU 1 D cA ad s)  {r : Int32} {st' : gS} {k41 : Int32 → Int32 → Int32 → gS → Option (Int32 × gS)} (hk41 : ∀ {l4 : Int32} {l5 : Int32} {l6 : Int32} {st : gS} {H : Heap} {locs : List Loc} {ls : Array Slot}, k41 l4 l5 l6 st = some (r, st') → gP0 1 D cA ad st H → va_S (gA 1 ad) s.heap H locs → lv_has ls 11 [(0, .ref (ad 0)), (1, .int a1), (2, .int a2), (3, .int a3), (4, .int l4), (5, .int l5), (6, .int l6)] → W p l e (gRm 6) s m args below meth c H locs 0 0 (MQ below (gQc 1 D cA ad st' (some (.int r))) args s 0 0 (gA 1 ad)) (F0 m 41 ls [])) : ∀ (n : Nat) {l4 : Int32} {l5 : Int32} {l6 : Int32} {l7 : Int32} {l8 : Int32} {st : gS} {H : Heap} {locs : List Loc} {ls : Array Slot}, hX11_surest_61 a1 a2 a3 k41 n l4 l5 l6 l7 l8 st = some (r, st') → gP0 1 D cA ad st H → va_S (gA 1 ad) s.heap H locs → lv_has ls 11 [(0, .ref (ad 0)), (1, .int a1), (2, .int a2), (3, .int a3), (4, .int l4), (5, .int l5), (6, .int l6), (7, .int l7), (8, .int l8)] → W p l e (gRm 6) s m args below meth c H locs 0 0 (MQ below (gQc 1 D cA ad st' (some (.int r))) args s 0 0 (gA 1 ad)) (F0 m 61 ls []) := by
  intro n
  induction n with
  | zero => intro l4 l5 l6 l7 l8 st H locs ls hf hH hS hl; cases hf
  | succ n ih =>
    intro l4 l5 l6 l7 l8 st H locs ls hf hH hS hl
    exact bX11_surest_61 (a1 := a1) (a2 := a2) (a3 := a3) hC hret hlk hU hk41 (fun hf hH hS hl => ih hf hH hS hl) hf hH hS hl
def fX11_surest_41 (a1 : Int32) (a2 : Int32) (a3 : Int32) (k41 : Int32 → Int32 → Int32 → gS → Option (Int32 × gS)) (l4 : Int32) (l5 : Int32) (l6 : Int32) (st : gS) : Option (Int32 × gS) :=
  if 4 < l6 then (if 0 ≤ l4 then ((fX11_power 100 4 (wi st 0 62 l5)).bind fun q41_1 => ((fX11_divisor q41_1.1 l4 q41_1.2).bind fun q41_2 => (if a3 = 0 then (gc (¬ q41_2.1 = 0) (some (l4 / q41_2.1, q41_2.2))) else (gc (¬ q41_2.1 = 0) (some (q41_1.1 / q41_2.1, q41_2.2)))))) else (some ((-1), st))) else ((fX11_power (st.1 0 50) l6 st).bind fun q41_3 => (hX11_surest_61 a1 a2 a3 k41 FU l4 l5 l6 q41_3.1 0 q41_3.2))
set_option maxRecDepth 100000 in
set_option maxHeartbeats 4000000 in
theorem bX11_surest_41 {a1 : Int32} {a2 : Int32} {a3 : Int32} (hC : CallFix p m c cX11_surest 11 s args lw_good RX11) (hret : meth.sig.returnType = (some .int)) (hlk : meth.locks = false) (hU : gU 1 D cA ad s)  {r : Int32} {st' : gS} {k41 : Int32 → Int32 → Int32 → gS → Option (Int32 × gS)} (hk41 : ∀ {l4 : Int32} {l5 : Int32} {l6 : Int32} {st : gS} {H : Heap} {locs : List Loc} {ls : Array Slot}, k41 l4 l5 l6 st = some (r, st') → gP0 1 D cA ad st H → va_S (gA 1 ad) s.heap H locs → lv_has ls 11 [(0, .ref (ad 0)), (1, .int a1), (2, .int a2), (3, .int a3), (4, .int l4), (5, .int l5), (6, .int l6)] → W p l e (gRm 6) s m args below meth c H locs 0 0 (MQ below (gQc 1 D cA ad st' (some (.int r))) args s 0 0 (gA 1 ad)) (F0 m 41 ls [])) {l4 : Int32} {l5 : Int32} {l6 : Int32} {st : gS} {H : Heap} {locs : List Loc} {ls : Array Slot} (hf : fX11_surest_41 a1 a2 a3 k41 l4 l5 l6 st = some (r, st')) (hH : gP0 1 D cA ad st H) (hS : va_S (gA 1 ad) s.heap H locs) (hl : lv_has ls 11 [(0, .ref (ad 0)), (1, .int a1), (2, .int a2), (3, .int a3), (4, .int l4), (5, .int l5), (6, .int l6)]) : W p l e (gRm 6) s m args below meth c H locs 0 0 (MQ below (gQc 1 D cA ad st' (some (.int r))) args s 0 0 (gA 1 ad)) (F0 m 41 ls []) := by
  obtain ⟨hx, hb, hml, hown, hts⟩ := id hC
  unfold fX11_surest_41 at hf
  refine lv_iload (pc := 41) hx hb dX11_surest_41 (lv_at hl 6 rfl) ?_
  refine lv_iconst (v := 4) (pc := 43) hx hb dX11_surest_43 (by decide) ?_
  refine lv_icmp_gt (tgt := 165) (pc := 44) hx hb dX11_surest_44 (by decide) (fun hc => ?_) (fun hc => ?_)
  · have hf := gif_p hc hf
    refine lv_iload (pc := 165) hx hb dX11_surest_165 (lv_at hl 4 rfl) ?_
    refine lv_if_ge (tgt := 172) (pc := 167) hx hb dX11_surest_167 (by decide) (fun hc => ?_) (fun hc => ?_)
    · have hf := gif_p hc hf
      refine lv_aload_n (pc := 172) hx hb dX11_surest_172 rfl (lv_at hl 0 rfl) ?_
      refine lv_iload (pc := 173) hx hb dX11_surest_173 (lv_at hl 5 rfl) ?_
      refine g_puti (pc := 175) hC hU hH hS gk1_0 g_cl11 62 (by decide) kf_X11_413 rfl rfl rfl rfl dX11_surest_175 (fun H locs hH hS => ?_)
      refine lv_bipush (v := 100) (pc := 178) hx hb dX11_surest_178 (by decide) ?_
      refine lv_iconst (v := 4) (pc := 180) hx hb dX11_surest_180 (by decide) ?_
      obtain ⟨q41_1, hq41_1, hf⟩ := gbd hf
      refine g_callSi (pc := 181) (rest := []) hC hU hH hS hl.1 (mX11_power  hq41_1) ky_X11_power km_X11_477 ⟨Nat.le_of_ble_eq_true rfl, Nat.le_of_ble_eq_true rfl⟩ ⟨Nat.zero_le _, Nat.zero_le _⟩ rfl (Nat.le_of_ble_eq_true rfl) dX11_surest_181 rfl (fun H locs hH hS => ?_)
      refine lv_istore (lv' := [(6, .int q41_1.1), (0, .ref (ad 0)), (1, .int a1), (2, .int a2), (3, .int a3), (4, .int l4), (5, .int l5)]) (pc := 184) hx hb dX11_surest_184 hl (by decide) rfl (fun ls hl => ?_)
      refine lv_iload (pc := 186) hx hb dX11_surest_186 (lv_at hl 0 rfl) ?_
      refine lv_iload (pc := 188) hx hb dX11_surest_188 (lv_at hl 5 rfl) ?_
      obtain ⟨q41_2, hq41_2, hf⟩ := gbd hf
      refine g_callSi (pc := 190) (rest := []) hC hU hH hS hl.1 (mX11_divisor  hq41_2) ky_X11_divisor km_X11_484 ⟨Nat.le_of_ble_eq_true rfl, Nat.le_of_ble_eq_true rfl⟩ ⟨Nat.zero_le _, Nat.zero_le _⟩ rfl (Nat.le_of_ble_eq_true rfl) dX11_surest_190 rfl (fun H locs hH hS => ?_)
      refine lv_istore (lv' := [(7, .int q41_2.1), (6, .int q41_1.1), (0, .ref (ad 0)), (1, .int a1), (2, .int a2), (3, .int a3), (4, .int l4), (5, .int l5)]) (pc := 193) hx hb dX11_surest_193 hl (by decide) rfl (fun ls hl => ?_)
      refine lv_iload_n (pc := 195) hx hb dX11_surest_195 rfl (lv_at hl 5 rfl) ?_
      refine lv_if_ne (tgt := 207) (pc := 196) hx hb dX11_surest_196 (by decide) (fun hc => ?_) (fun hc => ?_)
      · have hf := gif_n hc hf
        refine lv_iload (pc := 207) hx hb dX11_surest_207 (lv_at hl 1 rfl) ?_
        refine lv_iload (pc := 209) hx hb dX11_surest_209 (lv_at hl 0 rfl) ?_
        obtain ⟨h41_1, hf⟩ := gc_s hf
        refine lv_idiv (pc := 211) hx hb dX11_surest_211 h41_1 ?_
        exact g_iret (pc := 212) hC hret hlk hH hS hf dX11_surest_212
      · have hf := gif_p hc hf
        refine lv_iload (pc := 199) hx hb dX11_surest_199 (lv_at hl 6 rfl) ?_
        refine lv_iload (pc := 201) hx hb dX11_surest_201 (lv_at hl 0 rfl) ?_
        obtain ⟨h41_2, hf⟩ := gc_s hf
        refine lv_idiv (pc := 203) hx hb dX11_surest_203 h41_2 ?_
        refine lv_goto (tgt := 212) (pc := 204) hx hb dX11_surest_204 (by decide) ?_
        exact g_iret (pc := 212) hC hret hlk hH hS hf dX11_surest_212
    · have hf := gif_n hc hf
      refine lv_iconst (v := (-1)) (pc := 170) hx hb dX11_surest_170 (by decide) ?_
      exact g_iret (pc := 171) hC hret hlk hH hS hf dX11_surest_171
  · have hf := gif_n hc hf
    refine lv_aload_n (pc := 47) hx hb dX11_surest_47 rfl (lv_at hl 0 rfl) ?_
    refine g_get (pc := 48) (v := .int (st.1 0 50)) hC hU hH gk1_0 g_cl11 50 (by decide) kf_X11_398 rfl dX11_surest_48 ?_
    refine lv_iload (pc := 51) hx hb dX11_surest_51 (lv_at hl 6 rfl) ?_
    obtain ⟨q41_3, hq41_3, hf⟩ := gbd hf
    refine g_callSi (pc := 53) (rest := []) hC hU hH hS hl.1 (mX11_power  hq41_3) ky_X11_power km_X11_477 ⟨Nat.le_of_ble_eq_true rfl, Nat.le_of_ble_eq_true rfl⟩ ⟨Nat.zero_le _, Nat.zero_le _⟩ rfl (Nat.le_of_ble_eq_true rfl) dX11_surest_53 rfl (fun H locs hH hS => ?_)
    refine lv_istore (lv' := [(7, .int q41_3.1), (0, .ref (ad 0)), (1, .int a1), (2, .int a2), (3, .int a3), (4, .int l4), (5, .int l5), (6, .int l6)]) (pc := 56) hx hb dX11_surest_56 hl (by decide) rfl (fun ls hl => ?_)
    refine lv_iconst (v := 0) (pc := 58) hx hb dX11_surest_58 (by decide) ?_
    refine lv_istore (lv' := [(8, .int 0), (7, .int q41_3.1), (0, .ref (ad 0)), (1, .int a1), (2, .int a2), (3, .int a3), (4, .int l4), (5, .int l5), (6, .int l6)]) (pc := 59) hx hb dX11_surest_59 hl (by decide) rfl (fun ls hl => ?_)
    exact wX11_surest_61 hC hret hlk hU hk41 FU hf hH hS (lv_sub hl [2, 3, 4, 5, 6, 7, 8, 1, 0] rfl)
def hX11_surest_41 (a1 : Int32) (a2 : Int32) (a3 : Int32)  : Nat → Int32 → Int32 → Int32 → gS → Option (Int32 × gS)
  | 0 => fun _ _ _ _ => none
  | n + 1 => fun l4 l5 l6 st => fX11_surest_41 a1 a2 a3 (hX11_surest_41 a1 a2 a3 n) l4 l5 l6 st
set_option maxRecDepth 100000 in
set_option maxHeartbeats 4000000 in
theorem wX11_surest_41 {a1 : Int32} {a2 : Int32} {a3 : Int32} (hC : CallFix p m c cX11_surest 11 s args lw_good RX11) (hret : meth.sig.returnType = (some .int)) (hlk : meth.locks = false) (hU : gU 1 D cA ad s)  {r : Int32} {st' : gS}  : ∀ (n : Nat) {l4 : Int32} {l5 : Int32} {l6 : Int32} {st : gS} {H : Heap} {locs : List Loc} {ls : Array Slot}, hX11_surest_41 a1 a2 a3 n l4 l5 l6 st = some (r, st') → gP0 1 D cA ad st H → va_S (gA 1 ad) s.heap H locs → lv_has ls 11 [(0, .ref (ad 0)), (1, .int a1), (2, .int a2), (3, .int a3), (4, .int l4), (5, .int l5), (6, .int l6)] → W p l e (gRm 6) s m args below meth c H locs 0 0 (MQ below (gQc 1 D cA ad st' (some (.int r))) args s 0 0 (gA 1 ad)) (F0 m 41 ls []) := by
  intro n
  induction n with
  | zero => intro l4 l5 l6 st H locs ls hf hH hS hl; cases hf
  | succ n ih =>
    intro l4 l5 l6 st H locs ls hf hH hS hl
    exact bX11_surest_41 (a1 := a1) (a2 := a2) (a3 := a3) hC hret hlk hU (fun hf hH hS hl => ih hf hH hS hl) hf hH hS hl
def fX11_surest (a1 : Int32) (a2 : Int32) (a3 : Int32)   (st : gS) : Option (Int32 × gS) :=
  (fX11_isOther a1 (wi st 0 62 0)).bind fun q0_1 => (if q0_1.1 = 0 then (some ((-1), q0_1.2)) else ((fX11_isFigure a2 q0_1.2).bind fun q0_2 => (if q0_2.1 = 0 then (some ((-1), q0_2.2)) else ((fX11_isIn a3 0 1 q0_2.2).bind fun q0_3 => (if q0_3.1 = 0 then (some ((-1), q0_3.2)) else (hX11_surest_41 a1 a2 a3 FU (-1) 0 0 q0_3.2))))))
set_option maxRecDepth 100000 in
set_option maxHeartbeats 4000000 in
theorem bX11_surest_0 {a1 : Int32} {a2 : Int32} {a3 : Int32} (hC : CallFix p m c cX11_surest 11 s args lw_good RX11) (hret : meth.sig.returnType = (some .int)) (hlk : meth.locks = false) (hU : gU 1 D cA ad s)  {r : Int32} {st' : gS}   {st : gS} {H : Heap} {locs : List Loc} {ls : Array Slot} (hf : fX11_surest a1 a2 a3 st = some (r, st')) (hH : gP0 1 D cA ad st H) (hS : va_S (gA 1 ad) s.heap H locs) (hl : lv_has ls 11 [(0, .ref (ad 0)), (1, .int a1), (2, .int a2), (3, .int a3)]) : W p l e (gRm 6) s m args below meth c H locs 0 0 (MQ below (gQc 1 D cA ad st' (some (.int r))) args s 0 0 (gA 1 ad)) (F0 m 0 ls []) := by
  obtain ⟨hx, hb, hml, hown, hts⟩ := id hC
  unfold fX11_surest at hf
  refine lv_aload_n (pc := 0) hx hb dX11_surest_0 rfl (lv_at hl 0 rfl) ?_
  refine lv_iconst (v := 0) (pc := 1) hx hb dX11_surest_1 (by decide) ?_
  refine g_puti (pc := 2) hC hU hH hS gk1_0 g_cl11 62 (by decide) kf_X11_413 rfl rfl rfl rfl dX11_surest_2 (fun H locs hH hS => ?_)
  refine lv_aload_n (pc := 5) hx hb dX11_surest_5 rfl (lv_at hl 0 rfl) ?_
  refine lv_iload_n (pc := 6) hx hb dX11_surest_6 rfl (lv_at hl 1 rfl) ?_
  obtain ⟨q0_1, hq0_1, hf⟩ := gbd hf
  refine g_callVi (pc := 7) (rest := []) hC hU hH hS hl.1 gk1_0 rfl (by decide) (mX11_isOther  hq0_1) ky_X11_isOther km_X11_471 ⟨Nat.le_of_ble_eq_true rfl, Nat.le_of_ble_eq_true rfl⟩ ⟨Nat.zero_le _, Nat.zero_le _⟩ rfl (Nat.le_of_ble_eq_true rfl) dX11_surest_7 rfl (fun H locs hH hS => ?_)
  refine lv_if_eq (tgt := 30) (pc := 10) hx hb dX11_surest_10 (by decide) (fun hc => ?_) (fun hc => ?_)
  · have hf := gif_p hc hf
    refine lv_iconst (v := (-1)) (pc := 30) hx hb dX11_surest_30 (by decide) ?_
    exact g_iret (pc := 31) hC hret hlk hH hS hf dX11_surest_31
  · have hf := gif_n hc hf
    refine lv_aload_n (pc := 13) hx hb dX11_surest_13 rfl (lv_at hl 0 rfl) ?_
    refine lv_iload_n (pc := 14) hx hb dX11_surest_14 rfl (lv_at hl 2 rfl) ?_
    obtain ⟨q0_2, hq0_2, hf⟩ := gbd hf
    refine g_callVi (pc := 15) (rest := []) hC hU hH hS hl.1 gk1_0 rfl (by decide) (mX11_isFigure  hq0_2) ky_X11_isFigure km_X11_443 ⟨Nat.le_of_ble_eq_true rfl, Nat.le_of_ble_eq_true rfl⟩ ⟨Nat.zero_le _, Nat.zero_le _⟩ rfl (Nat.le_of_ble_eq_true rfl) dX11_surest_15 rfl (fun H locs hH hS => ?_)
    refine lv_if_eq (tgt := 30) (pc := 18) hx hb dX11_surest_18 (by decide) (fun hc => ?_) (fun hc => ?_)
    · have hf := gif_p hc hf
      refine lv_iconst (v := (-1)) (pc := 30) hx hb dX11_surest_30 (by decide) ?_
      exact g_iret (pc := 31) hC hret hlk hH hS hf dX11_surest_31
    · have hf := gif_n hc hf
      refine lv_iload_n (pc := 21) hx hb dX11_surest_21 rfl (lv_at hl 3 rfl) ?_
      refine lv_iconst (v := 0) (pc := 22) hx hb dX11_surest_22 (by decide) ?_
      refine lv_iconst (v := 1) (pc := 23) hx hb dX11_surest_23 (by decide) ?_
      obtain ⟨q0_3, hq0_3, hf⟩ := gbd hf
      refine g_callSi (pc := 24) (rest := []) hC hU hH hS hl.1 (mX11_isIn  hq0_3) ky_X11_isIn km_X11_416 ⟨Nat.le_of_ble_eq_true rfl, Nat.le_of_ble_eq_true rfl⟩ ⟨Nat.zero_le _, Nat.zero_le _⟩ rfl (Nat.le_of_ble_eq_true rfl) dX11_surest_24 rfl (fun H locs hH hS => ?_)
      refine lv_if_ne (tgt := 32) (pc := 27) hx hb dX11_surest_27 (by decide) (fun hc => ?_) (fun hc => ?_)
      · have hf := gif_n hc hf
        refine lv_iconst (v := (-1)) (pc := 32) hx hb dX11_surest_32 (by decide) ?_
        refine lv_istore (lv' := [(4, .int (-1)), (0, .ref (ad 0)), (1, .int a1), (2, .int a2), (3, .int a3)]) (pc := 33) hx hb dX11_surest_33 hl (by decide) rfl (fun ls hl => ?_)
        refine lv_iconst (v := 0) (pc := 35) hx hb dX11_surest_35 (by decide) ?_
        refine lv_istore (lv' := [(5, .int 0), (4, .int (-1)), (0, .ref (ad 0)), (1, .int a1), (2, .int a2), (3, .int a3)]) (pc := 36) hx hb dX11_surest_36 hl (by decide) rfl (fun ls hl => ?_)
        refine lv_iconst (v := 0) (pc := 38) hx hb dX11_surest_38 (by decide) ?_
        refine lv_istore (lv' := [(6, .int 0), (5, .int 0), (4, .int (-1)), (0, .ref (ad 0)), (1, .int a1), (2, .int a2), (3, .int a3)]) (pc := 39) hx hb dX11_surest_39 hl (by decide) rfl (fun ls hl => ?_)
        exact wX11_surest_41 hC hret hlk hU FU hf hH hS (lv_sub hl [3, 4, 5, 6, 2, 1, 0] rfl)
      · have hf := gif_p hc hf
        refine lv_iconst (v := (-1)) (pc := 30) hx hb dX11_surest_30 (by decide) ?_
        exact g_iret (pc := 31) hC hret hlk hH hS hf dX11_surest_31
set_option maxRecDepth 100000 in
set_option maxHeartbeats 4000000 in
theorem mX11_surest {l : Launch} {D : va_G} {cA : Nat → ClassId} {ad : Nat → Nat} {a1 : Int32} {a2 : Int32} {a3 : Int32}  {r : Int32} {st st' : gS} (hf : fX11_surest a1 a2 a3 st = some (r, st')) : gM l yX11_surest cX11_surest 11 (some .int) 6 1 D cA ad st [.ref (ad 0), .int a1, .int a2, .int a3] (some (.int r)) st' := by
  refine g_met (by decide) (Nat.le_of_ble_eq_true rfl) ?_
  intro p e s m args below meth c ls hC hret hlk hU hH hl
  exact bX11_surest_0 hC hret hlk hU hf hH va_S.rf hl
def fX11_spreads_42 (a1 : Int32) (k4 : Int32 → Int32 → gS → Option (Int32 × gS)) (k30 : Int32 → Int32 → Int32 → gS → Option (Int32 × gS)) (k42 : Int32 → Int32 → Int32 → Int32 → gS → Option (Int32 × gS)) (l2 : Int32) (l3 : Int32) (l4 : Int32) (l5 : Int32) (st : gS) : Option (Int32 × gS) :=
  if (st.1 0 49) ≤ l5 then (k30 l2 l3 (l4 + 1) st) else (gc (gI l4 16) (if (st.1 21 l4.toNatClampNeg) = (l3 - l3 / 8 * 8) then (gc (gI l4 16) (gl ((8 * l5) + (st.1 22 l4.toNatClampNeg)) fun x78 => (if ((a1 >>> (l5 &&& 31)) &&& 1) = 0 then (k42 l2 l3 l4 (l5 + 1) st) else (if l5 = (l3 / 8) then (k42 l2 l3 l4 (l5 + 1) st) else ((fX11_can l5 l4 st).bind fun q42_1 => (if q42_1.1 = 0 then (k42 l2 l3 l4 (l5 + 1) q42_1.2) else (gc (gI x78 40) (if (q42_1.2.1 34 x78.toNatClampNeg) = 0 then (gc (gI x78 40) (k42 1 l3 l4 (l5 + 1) (wi q42_1.2 34 x78.toNatClampNeg (vp_nar .boolean 1)))) else (k42 l2 l3 l4 (l5 + 1) q42_1.2))))))))) else (k30 l2 l3 (l4 + 1) st)))
set_option maxRecDepth 100000 in
set_option maxHeartbeats 4000000 in
theorem bX11_spreads_42 {a1 : Int32} (hC : CallFix p m c cX11_spreads 7 s args lw_good RX11) (hret : meth.sig.returnType = (some .boolean)) (hlk : meth.locks = false) (hU : gU 1 D cA ad s)  {r : Int32} {st' : gS} {k4 : Int32 → Int32 → gS → Option (Int32 × gS)} (hk4 : ∀ {l2 : Int32} {l3 : Int32} {st : gS} {H : Heap} {locs : List Loc} {ls : Array Slot}, k4 l2 l3 st = some (r, st') → gP0 1 D cA ad st H → va_S (gA 1 ad) s.heap H locs → lv_has ls 7 [(0, .ref (ad 0)), (1, .int a1), (2, .int l2), (3, .int l3)] → W p l e (gRm 3) s m args below meth c H locs 0 0 (MQ below (gQc 1 D cA ad st' (some (.int r))) args s 0 0 (gA 1 ad)) (F0 m 4 ls [])) {k30 : Int32 → Int32 → Int32 → gS → Option (Int32 × gS)} (hk30 : ∀ {l2 : Int32} {l3 : Int32} {l4 : Int32} {st : gS} {H : Heap} {locs : List Loc} {ls : Array Slot}, k30 l2 l3 l4 st = some (r, st') → gP0 1 D cA ad st H → va_S (gA 1 ad) s.heap H locs → lv_has ls 7 [(0, .ref (ad 0)), (1, .int a1), (2, .int l2), (3, .int l3), (4, .int l4)] → W p l e (gRm 3) s m args below meth c H locs 0 0 (MQ below (gQc 1 D cA ad st' (some (.int r))) args s 0 0 (gA 1 ad)) (F0 m 30 ls [])) {k42 : Int32 → Int32 → Int32 → Int32 → gS → Option (Int32 × gS)} (hk42 : ∀ {l2 : Int32} {l3 : Int32} {l4 : Int32} {l5 : Int32} {st : gS} {H : Heap} {locs : List Loc} {ls : Array Slot}, k42 l2 l3 l4 l5 st = some (r, st') → gP0 1 D cA ad st H → va_S (gA 1 ad) s.heap H locs → lv_has ls 7 [(0, .ref (ad 0)), (1, .int a1), (2, .int l2), (3, .int l3), (4, .int l4), (5, .int l5)] → W p l e (gRm 3) s m args below meth c H locs 0 0 (MQ below (gQc 1 D cA ad st' (some (.int r))) args s 0 0 (gA 1 ad)) (F0 m 42 ls [])) {l2 : Int32} {l3 : Int32} {l4 : Int32} {l5 : Int32} {st : gS} {H : Heap} {locs : List Loc} {ls : Array Slot} (hf : fX11_spreads_42 a1 k4 k30 k42 l2 l3 l4 l5 st = some (r, st')) (hH : gP0 1 D cA ad st H) (hS : va_S (gA 1 ad) s.heap H locs) (hl : lv_has ls 7 [(0, .ref (ad 0)), (1, .int a1), (2, .int l2), (3, .int l3), (4, .int l4), (5, .int l5)]) : W p l e (gRm 3) s m args below meth c H locs 0 0 (MQ below (gQc 1 D cA ad st' (some (.int r))) args s 0 0 (gA 1 ad)) (F0 m 42 ls []) := by
  obtain ⟨hx, hb, hml, hown, hts⟩ := id hC
  unfold fX11_spreads_42 at hf
  refine lv_iload (pc := 42) hx hb dX11_spreads_42 (lv_at hl 5 rfl) ?_
  refine lv_aload_n (pc := 44) hx hb dX11_spreads_44 rfl (lv_at hl 0 rfl) ?_
  refine g_get (pc := 45) (v := .int (st.1 0 49)) hC hU hH gk1_0 g_cl11 49 (by decide) kf_X11_395 rfl dX11_spreads_45 ?_
  refine lv_icmp_ge (tgt := 138) (pc := 48) hx hb dX11_spreads_48 (by decide) (fun hc => ?_) (fun hc => ?_)
  · have hf := gif_p hc hf
    refine lv_iinc (v := l4 + 1) (lv' := [(4, .int (l4 + 1)), (0, .ref (ad 0)), (1, .int a1), (2, .int l2), (3, .int l3), (5, .int l5)]) (k := 4) (pc := 138) hx hb dX11_spreads_138 hl rfl rfl (by decide) rfl (fun ls hl => ?_)
    refine lv_goto (tgt := 30) (pc := 141) hx hb dX11_spreads_141 (by decide) ?_
    exact hk30 hf hH hS (lv_sub hl [1, 2, 3, 4, 0] rfl)
  · have hf := gif_n hc hf
    refine lv_aload_n (pc := 51) hx hb dX11_spreads_51 rfl (lv_at hl 0 rfl) ?_
    refine g_get (pc := 52) (v := .ref (ad 21)) hC hU hH gk1_0 g_cl11 36 (by decide) kf_X11_75 rfl dX11_spreads_52 ?_
    refine lv_iload (pc := 55) hx hb dX11_spreads_55 (lv_at hl 4 rfl) ?_
    obtain ⟨h42_1, hf⟩ := gc_s hf
    refine g_iald (pc := 57) hC hU hH gk1_21 gn1_21 h42_1 dX11_spreads_57 ?_
    refine lv_iload_n (pc := 58) hx hb dX11_spreads_58 rfl (lv_at hl 3 rfl) ?_
    refine lv_bipush (v := 8) (pc := 59) hx hb dX11_spreads_59 (by decide) ?_
    refine lv_irem (pc := 61) hx hb dX11_spreads_61 (by decide) ?_
    refine lv_icmp_ne (tgt := 138) (pc := 62) hx hb dX11_spreads_62 (by decide) (fun hc => ?_) (fun hc => ?_)
    · have hf := gif_n hc hf
      refine lv_iinc (v := l4 + 1) (lv' := [(4, .int (l4 + 1)), (0, .ref (ad 0)), (1, .int a1), (2, .int l2), (3, .int l3), (5, .int l5)]) (k := 4) (pc := 138) hx hb dX11_spreads_138 hl rfl rfl (by decide) rfl (fun ls hl => ?_)
      refine lv_goto (tgt := 30) (pc := 141) hx hb dX11_spreads_141 (by decide) ?_
      exact hk30 hf hH hS (lv_sub hl [1, 2, 3, 4, 0] rfl)
    · have hf := gif_p hc hf
      refine lv_bipush (v := 8) (pc := 65) hx hb dX11_spreads_65 (by decide) ?_
      refine lv_iload (pc := 67) hx hb dX11_spreads_67 (lv_at hl 5 rfl) ?_
      refine lv_imul (pc := 69) hx hb dX11_spreads_69 ?_
      refine lv_aload_n (pc := 70) hx hb dX11_spreads_70 rfl (lv_at hl 0 rfl) ?_
      refine g_get (pc := 71) (v := .ref (ad 22)) hC hU hH gk1_0 g_cl11 37 (by decide) kf_X11_78 rfl dX11_spreads_71 ?_
      refine lv_iload (pc := 74) hx hb dX11_spreads_74 (lv_at hl 4 rfl) ?_
      obtain ⟨h42_2, hf⟩ := gc_s hf
      refine g_iald (pc := 76) hC hU hH gk1_22 gn1_22 h42_2 dX11_spreads_76 ?_
      refine lv_iadd (pc := 77) hx hb dX11_spreads_77 ?_
      refine lv_topi (pc := 78) (fun x78 ex78 => ?_)
      have hf := gl_s ex78 hf
      refine lv_istore (lv' := [(6, .int x78), (0, .ref (ad 0)), (1, .int a1), (2, .int l2), (3, .int l3), (4, .int l4), (5, .int l5)]) (pc := 78) hx hb dX11_spreads_78 hl (by decide) rfl (fun ls hl => ?_)
      refine lv_iload_n (pc := 80) hx hb dX11_spreads_80 rfl (lv_at hl 2 rfl) ?_
      refine lv_iload (pc := 81) hx hb dX11_spreads_81 (lv_at hl 6 rfl) ?_
      refine lv_ishr (pc := 83) hx hb dX11_spreads_83 ?_
      refine lv_iconst (v := 1) (pc := 84) hx hb dX11_spreads_84 (by decide) ?_
      refine lv_iand (pc := 85) hx hb dX11_spreads_85 ?_
      refine lv_if_eq (tgt := 132) (pc := 86) hx hb dX11_spreads_86 (by decide) (fun hc => ?_) (fun hc => ?_)
      · have hf := gif_p hc hf
        refine lv_iinc (v := l5 + 1) (lv' := [(5, .int (l5 + 1)), (6, .int x78), (0, .ref (ad 0)), (1, .int a1), (2, .int l2), (3, .int l3), (4, .int l4)]) (k := 6) (pc := 132) hx hb dX11_spreads_132 hl rfl rfl (by decide) rfl (fun ls hl => ?_)
        refine lv_goto (tgt := 42) (pc := 135) hx hb dX11_spreads_135 (by decide) ?_
        exact hk42 hf hH hS (lv_sub hl [2, 3, 4, 5, 6, 0] rfl)
      · have hf := gif_n hc hf
        refine lv_iload (pc := 89) hx hb dX11_spreads_89 (lv_at hl 6 rfl) ?_
        refine lv_iload_n (pc := 91) hx hb dX11_spreads_91 rfl (lv_at hl 4 rfl) ?_
        refine lv_bipush (v := 8) (pc := 92) hx hb dX11_spreads_92 (by decide) ?_
        refine lv_idiv (pc := 94) hx hb dX11_spreads_94 (by decide) ?_
        refine lv_icmp_eq (tgt := 132) (pc := 95) hx hb dX11_spreads_95 (by decide) (fun hc => ?_) (fun hc => ?_)
        · have hf := gif_p hc hf
          refine lv_iinc (v := l5 + 1) (lv' := [(5, .int (l5 + 1)), (6, .int x78), (0, .ref (ad 0)), (1, .int a1), (2, .int l2), (3, .int l3), (4, .int l4)]) (k := 6) (pc := 132) hx hb dX11_spreads_132 hl rfl rfl (by decide) rfl (fun ls hl => ?_)
          refine lv_goto (tgt := 42) (pc := 135) hx hb dX11_spreads_135 (by decide) ?_
          exact hk42 hf hH hS (lv_sub hl [2, 3, 4, 5, 6, 0] rfl)
        · have hf := gif_n hc hf
          refine lv_aload_n (pc := 98) hx hb dX11_spreads_98 rfl (lv_at hl 1 rfl) ?_
          refine lv_iload (pc := 99) hx hb dX11_spreads_99 (lv_at hl 6 rfl) ?_
          refine lv_iload (pc := 101) hx hb dX11_spreads_101 (lv_at hl 5 rfl) ?_
          obtain ⟨q42_1, hq42_1, hf⟩ := gbd hf
          refine g_callVi (pc := 103) (rest := []) hC hU hH hS hl.1 gk1_0 rfl (by decide) (mX11_can  hq42_1) ky_X11_can km_X11_427 ⟨Nat.le_of_ble_eq_true rfl, Nat.le_of_ble_eq_true rfl⟩ ⟨Nat.zero_le _, Nat.zero_le _⟩ rfl (Nat.le_of_ble_eq_true rfl) dX11_spreads_103 rfl (fun H locs hH hS => ?_)
          refine lv_if_eq (tgt := 132) (pc := 106) hx hb dX11_spreads_106 (by decide) (fun hc => ?_) (fun hc => ?_)
          · have hf := gif_p hc hf
            refine lv_iinc (v := l5 + 1) (lv' := [(5, .int (l5 + 1)), (6, .int x78), (0, .ref (ad 0)), (1, .int a1), (2, .int l2), (3, .int l3), (4, .int l4)]) (k := 6) (pc := 132) hx hb dX11_spreads_132 hl rfl rfl (by decide) rfl (fun ls hl => ?_)
            refine lv_goto (tgt := 42) (pc := 135) hx hb dX11_spreads_135 (by decide) ?_
            exact hk42 hf hH hS (lv_sub hl [2, 3, 4, 5, 6, 0] rfl)
          · have hf := gif_n hc hf
            refine lv_aload_n (pc := 109) hx hb dX11_spreads_109 rfl (lv_at hl 1 rfl) ?_
            refine g_get (pc := 110) (v := .ref (ad 34)) hC hU hH gk1_0 g_cl11 64 (by decide) kf_X11_118 rfl dX11_spreads_110 ?_
            refine lv_iload (pc := 113) hx hb dX11_spreads_113 (lv_at hl 0 rfl) ?_
            obtain ⟨h42_3, hf⟩ := gc_s hf
            refine g_zald (pc := 115) hC hU hH gk1_34 gn1_34 h42_3 dX11_spreads_115 ?_
            refine lv_if_eq (tgt := 122) (pc := 116) hx hb dX11_spreads_116 (by decide) (fun hc => ?_) (fun hc => ?_)
            · have hf := gif_p hc hf
              refine lv_aload_n (pc := 122) hx hb dX11_spreads_122 rfl (lv_at hl 1 rfl) ?_
              refine g_get (pc := 123) (v := .ref (ad 34)) hC hU hH gk1_0 g_cl11 64 (by decide) kf_X11_118 rfl dX11_spreads_123 ?_
              refine lv_iload (pc := 126) hx hb dX11_spreads_126 (lv_at hl 0 rfl) ?_
              refine lv_iconst (v := 1) (pc := 128) hx hb dX11_spreads_128 (by decide) ?_
              obtain ⟨h42_4, hf⟩ := gc_s hf
              refine g_zast (pc := 129) hC hU hH hS gk1_34 gn1_34 h42_4 dX11_spreads_129 (fun H locs hH hS => ?_)
              refine lv_iconst (v := 1) (pc := 130) hx hb dX11_spreads_130 (by decide) ?_
              refine lv_istore_n (lv' := [(2, .int 1), (6, .int x78), (0, .ref (ad 0)), (1, .int a1), (3, .int l3), (4, .int l4), (5, .int l5)]) (pc := 131) hx hb dX11_spreads_131 rfl hl (by decide) rfl (fun ls hl => ?_)
              refine lv_iinc (v := l5 + 1) (lv' := [(5, .int (l5 + 1)), (2, .int 1), (6, .int x78), (0, .ref (ad 0)), (1, .int a1), (3, .int l3), (4, .int l4)]) (k := 6) (pc := 132) hx hb dX11_spreads_132 hl rfl rfl (by decide) rfl (fun ls hl => ?_)
              refine lv_goto (tgt := 42) (pc := 135) hx hb dX11_spreads_135 (by decide) ?_
              exact hk42 hf hH hS (lv_sub hl [3, 4, 1, 5, 6, 0] rfl)
            · have hf := gif_n hc hf
              refine lv_goto (tgt := 132) (pc := 119) hx hb dX11_spreads_119 (by decide) ?_
              refine lv_iinc (v := l5 + 1) (lv' := [(5, .int (l5 + 1)), (6, .int x78), (0, .ref (ad 0)), (1, .int a1), (2, .int l2), (3, .int l3), (4, .int l4)]) (k := 6) (pc := 132) hx hb dX11_spreads_132 hl rfl rfl (by decide) rfl (fun ls hl => ?_)
              refine lv_goto (tgt := 42) (pc := 135) hx hb dX11_spreads_135 (by decide) ?_
              exact hk42 hf hH hS (lv_sub hl [2, 3, 4, 5, 6, 0] rfl)
def hX11_spreads_42 (a1 : Int32) (k4 : Int32 → Int32 → gS → Option (Int32 × gS)) (k30 : Int32 → Int32 → Int32 → gS → Option (Int32 × gS)) : Nat → Int32 → Int32 → Int32 → Int32 → gS → Option (Int32 × gS)
  | 0 => fun _ _ _ _ _ => none
  | n + 1 => fun l2 l3 l4 l5 st => fX11_spreads_42 a1 k4 k30 (hX11_spreads_42 a1 k4 k30 n) l2 l3 l4 l5 st
set_option maxRecDepth 100000 in
set_option maxHeartbeats 4000000 in
theorem wX11_spreads_42 {a1 : Int32} (hC : CallFix p m c cX11_spreads 7 s args lw_good RX11) (hret : meth.sig.returnType = (some .boolean)) (hlk : meth.locks = false) (hU : gU 1 D cA ad s)  {r : Int32} {st' : gS} {k4 : Int32 → Int32 → gS → Option (Int32 × gS)} (hk4 : ∀ {l2 : Int32} {l3 : Int32} {st : gS} {H : Heap} {locs : List Loc} {ls : Array Slot}, k4 l2 l3 st = some (r, st') → gP0 1 D cA ad st H → va_S (gA 1 ad) s.heap H locs → lv_has ls 7 [(0, .ref (ad 0)), (1, .int a1), (2, .int l2), (3, .int l3)] → W p l e (gRm 3) s m args below meth c H locs 0 0 (MQ below (gQc 1 D cA ad st' (some (.int r))) args s 0 0 (gA 1 ad)) (F0 m 4 ls [])) {k30 : Int32 → Int32 → Int32 → gS → Option (Int32 × gS)} (hk30 : ∀ {l2 : Int32} {l3 : Int32} {l4 : Int32} {st : gS} {H : Heap} {locs : List Loc} {ls : Array Slot}, k30 l2 l3 l4 st = some (r, st') → gP0 1 D cA ad st H → va_S (gA 1 ad) s.heap H locs → lv_has ls 7 [(0, .ref (ad 0)), (1, .int a1), (2, .int l2), (3, .int l3), (4, .int l4)] → W p l e (gRm 3) s m args below meth c H locs 0 0 (MQ below (gQc 1 D cA ad st' (some (.int r))) args s 0 0 (gA 1 ad)) (F0 m 30 ls [])) : ∀ (n : Nat) {l2 : Int32} {l3 : Int32} {l4 : Int32} {l5 : Int32} {st : gS} {H : Heap} {locs : List Loc} {ls : Array Slot}, hX11_spreads_42 a1 k4 k30 n l2 l3 l4 l5 st = some (r, st') → gP0 1 D cA ad st H → va_S (gA 1 ad) s.heap H locs → lv_has ls 7 [(0, .ref (ad 0)), (1, .int a1), (2, .int l2), (3, .int l3), (4, .int l4), (5, .int l5)] → W p l e (gRm 3) s m args below meth c H locs 0 0 (MQ below (gQc 1 D cA ad st' (some (.int r))) args s 0 0 (gA 1 ad)) (F0 m 42 ls []) := by
  intro n
  induction n with
  | zero => intro l2 l3 l4 l5 st H locs ls hf hH hS hl; cases hf
  | succ n ih =>
    intro l2 l3 l4 l5 st H locs ls hf hH hS hl
    exact bX11_spreads_42 (a1 := a1) hC hret hlk hU hk4 hk30 (fun hf hH hS hl => ih hf hH hS hl) hf hH hS hl
def fX11_spreads_30 (a1 : Int32) (k4 : Int32 → Int32 → gS → Option (Int32 × gS)) (k30 : Int32 → Int32 → Int32 → gS → Option (Int32 × gS)) (l2 : Int32) (l3 : Int32) (l4 : Int32) (st : gS) : Option (Int32 × gS) :=
  if (st.1 0 50) ≤ l4 then (k4 l2 (l3 + 1) st) else (hX11_spreads_42 a1 k4 k30 FU l2 l3 l4 0 st)
set_option maxRecDepth 100000 in
set_option maxHeartbeats 4000000 in
theorem bX11_spreads_30 {a1 : Int32} (hC : CallFix p m c cX11_spreads 7 s args lw_good RX11) (hret : meth.sig.returnType = (some .boolean)) (hlk : meth.locks = false) (hU : gU 1 D cA ad s)  {r : Int32} {st' : gS} {k4 : Int32 → Int32 → gS → Option (Int32 × gS)} (hk4 : ∀ {l2 : Int32} {l3 : Int32} {st : gS} {H : Heap} {locs : List Loc} {ls : Array Slot}, k4 l2 l3 st = some (r, st') → gP0 1 D cA ad st H → va_S (gA 1 ad) s.heap H locs → lv_has ls 7 [(0, .ref (ad 0)), (1, .int a1), (2, .int l2), (3, .int l3)] → W p l e (gRm 3) s m args below meth c H locs 0 0 (MQ below (gQc 1 D cA ad st' (some (.int r))) args s 0 0 (gA 1 ad)) (F0 m 4 ls [])) {k30 : Int32 → Int32 → Int32 → gS → Option (Int32 × gS)} (hk30 : ∀ {l2 : Int32} {l3 : Int32} {l4 : Int32} {st : gS} {H : Heap} {locs : List Loc} {ls : Array Slot}, k30 l2 l3 l4 st = some (r, st') → gP0 1 D cA ad st H → va_S (gA 1 ad) s.heap H locs → lv_has ls 7 [(0, .ref (ad 0)), (1, .int a1), (2, .int l2), (3, .int l3), (4, .int l4)] → W p l e (gRm 3) s m args below meth c H locs 0 0 (MQ below (gQc 1 D cA ad st' (some (.int r))) args s 0 0 (gA 1 ad)) (F0 m 30 ls [])) {l2 : Int32} {l3 : Int32} {l4 : Int32} {st : gS} {H : Heap} {locs : List Loc} {ls : Array Slot} (hf : fX11_spreads_30 a1 k4 k30 l2 l3 l4 st = some (r, st')) (hH : gP0 1 D cA ad st H) (hS : va_S (gA 1 ad) s.heap H locs) (hl : lv_has ls 7 [(0, .ref (ad 0)), (1, .int a1), (2, .int l2), (3, .int l3), (4, .int l4)]) : W p l e (gRm 3) s m args below meth c H locs 0 0 (MQ below (gQc 1 D cA ad st' (some (.int r))) args s 0 0 (gA 1 ad)) (F0 m 30 ls []) := by
  obtain ⟨hx, hb, hml, hown, hts⟩ := id hC
  unfold fX11_spreads_30 at hf
  refine lv_iload (pc := 30) hx hb dX11_spreads_30 (lv_at hl 4 rfl) ?_
  refine lv_aload_n (pc := 32) hx hb dX11_spreads_32 rfl (lv_at hl 0 rfl) ?_
  refine g_get (pc := 33) (v := .int (st.1 0 50)) hC hU hH gk1_0 g_cl11 50 (by decide) kf_X11_398 rfl dX11_spreads_33 ?_
  refine lv_icmp_ge (tgt := 144) (pc := 36) hx hb dX11_spreads_36 (by decide) (fun hc => ?_) (fun hc => ?_)
  · have hf := gif_p hc hf
    refine lv_iinc (v := l3 + 1) (lv' := [(3, .int (l3 + 1)), (0, .ref (ad 0)), (1, .int a1), (2, .int l2), (4, .int l4)]) (k := 3) (pc := 144) hx hb dX11_spreads_144 hl rfl rfl (by decide) rfl (fun ls hl => ?_)
    refine lv_goto (tgt := 4) (pc := 147) hx hb dX11_spreads_147 (by decide) ?_
    exact hk4 hf hH hS (lv_sub hl [1, 2, 3, 0] rfl)
  · have hf := gif_n hc hf
    refine lv_iconst (v := 0) (pc := 39) hx hb dX11_spreads_39 (by decide) ?_
    refine lv_istore (lv' := [(5, .int 0), (0, .ref (ad 0)), (1, .int a1), (2, .int l2), (3, .int l3), (4, .int l4)]) (pc := 40) hx hb dX11_spreads_40 hl (by decide) rfl (fun ls hl => ?_)
    exact wX11_spreads_42 hC hret hlk hU hk4 hk30 FU hf hH hS (lv_sub hl [1, 2, 3, 4, 5, 0] rfl)
def hX11_spreads_30 (a1 : Int32) (k4 : Int32 → Int32 → gS → Option (Int32 × gS)) : Nat → Int32 → Int32 → Int32 → gS → Option (Int32 × gS)
  | 0 => fun _ _ _ _ => none
  | n + 1 => fun l2 l3 l4 st => fX11_spreads_30 a1 k4 (hX11_spreads_30 a1 k4 n) l2 l3 l4 st
set_option maxRecDepth 100000 in
set_option maxHeartbeats 4000000 in
theorem wX11_spreads_30 {a1 : Int32} (hC : CallFix p m c cX11_spreads 7 s args lw_good RX11) (hret : meth.sig.returnType = (some .boolean)) (hlk : meth.locks = false) (hU : gU 1 D cA ad s)  {r : Int32} {st' : gS} {k4 : Int32 → Int32 → gS → Option (Int32 × gS)} (hk4 : ∀ {l2 : Int32} {l3 : Int32} {st : gS} {H : Heap} {locs : List Loc} {ls : Array Slot}, k4 l2 l3 st = some (r, st') → gP0 1 D cA ad st H → va_S (gA 1 ad) s.heap H locs → lv_has ls 7 [(0, .ref (ad 0)), (1, .int a1), (2, .int l2), (3, .int l3)] → W p l e (gRm 3) s m args below meth c H locs 0 0 (MQ below (gQc 1 D cA ad st' (some (.int r))) args s 0 0 (gA 1 ad)) (F0 m 4 ls [])) : ∀ (n : Nat) {l2 : Int32} {l3 : Int32} {l4 : Int32} {st : gS} {H : Heap} {locs : List Loc} {ls : Array Slot}, hX11_spreads_30 a1 k4 n l2 l3 l4 st = some (r, st') → gP0 1 D cA ad st H → va_S (gA 1 ad) s.heap H locs → lv_has ls 7 [(0, .ref (ad 0)), (1, .int a1), (2, .int l2), (3, .int l3), (4, .int l4)] → W p l e (gRm 3) s m args below meth c H locs 0 0 (MQ below (gQc 1 D cA ad st' (some (.int r))) args s 0 0 (gA 1 ad)) (F0 m 30 ls []) := by
  intro n
  induction n with
  | zero => intro l2 l3 l4 st H locs ls hf hH hS hl; cases hf
  | succ n ih =>
    intro l2 l3 l4 st H locs ls hf hH hS hl
    exact bX11_spreads_30 (a1 := a1) hC hret hlk hU hk4 (fun hf hH hS hl => ih hf hH hS hl) hf hH hS hl
def fX11_spreads_4 (a1 : Int32) (k4 : Int32 → Int32 → gS → Option (Int32 × gS)) (l2 : Int32) (l3 : Int32) (st : gS) : Option (Int32 × gS) :=
  if (8 * (st.1 0 49)) ≤ l3 then (gc (gB l2) (some (l2, st))) else (gc (gI l3 40) (if (st.1 34 l3.toNatClampNeg) = 0 then (k4 l2 (l3 + 1) st) else (hX11_spreads_30 a1 k4 FU l2 l3 0 st)))
set_option maxRecDepth 100000 in
set_option maxHeartbeats 4000000 in
theorem bX11_spreads_4 {a1 : Int32} (hC : CallFix p m c cX11_spreads 7 s args lw_good RX11) (hret : meth.sig.returnType = (some .boolean)) (hlk : meth.locks = false) (hU : gU 1 D cA ad s)  {r : Int32} {st' : gS} {k4 : Int32 → Int32 → gS → Option (Int32 × gS)} (hk4 : ∀ {l2 : Int32} {l3 : Int32} {st : gS} {H : Heap} {locs : List Loc} {ls : Array Slot}, k4 l2 l3 st = some (r, st') → gP0 1 D cA ad st H → va_S (gA 1 ad) s.heap H locs → lv_has ls 7 [(0, .ref (ad 0)), (1, .int a1), (2, .int l2), (3, .int l3)] → W p l e (gRm 3) s m args below meth c H locs 0 0 (MQ below (gQc 1 D cA ad st' (some (.int r))) args s 0 0 (gA 1 ad)) (F0 m 4 ls [])) {l2 : Int32} {l3 : Int32} {st : gS} {H : Heap} {locs : List Loc} {ls : Array Slot} (hf : fX11_spreads_4 a1 k4 l2 l3 st = some (r, st')) (hH : gP0 1 D cA ad st H) (hS : va_S (gA 1 ad) s.heap H locs) (hl : lv_has ls 7 [(0, .ref (ad 0)), (1, .int a1), (2, .int l2), (3, .int l3)]) : W p l e (gRm 3) s m args below meth c H locs 0 0 (MQ below (gQc 1 D cA ad st' (some (.int r))) args s 0 0 (gA 1 ad)) (F0 m 4 ls []) := by
  obtain ⟨hx, hb, hml, hown, hts⟩ := id hC
  unfold fX11_spreads_4 at hf
  refine lv_iload_n (pc := 4) hx hb dX11_spreads_4 rfl (lv_at hl 3 rfl) ?_
  refine lv_bipush (v := 8) (pc := 5) hx hb dX11_spreads_5 (by decide) ?_
  refine lv_aload_n (pc := 7) hx hb dX11_spreads_7 rfl (lv_at hl 0 rfl) ?_
  refine g_get (pc := 8) (v := .int (st.1 0 49)) hC hU hH gk1_0 g_cl11 49 (by decide) kf_X11_395 rfl dX11_spreads_8 ?_
  refine lv_imul (pc := 11) hx hb dX11_spreads_11 ?_
  refine lv_icmp_ge (tgt := 150) (pc := 12) hx hb dX11_spreads_12 (by decide) (fun hc => ?_) (fun hc => ?_)
  · have hf := gif_p hc hf
    refine lv_iload_n (pc := 150) hx hb dX11_spreads_150 rfl (lv_at hl 2 rfl) ?_
    obtain ⟨h4_1, hf⟩ := gc_s hf
    exact g_zret (pc := 151) hC hret hlk hH hS h4_1 hf dX11_spreads_151
  · have hf := gif_n hc hf
    refine lv_aload_n (pc := 15) hx hb dX11_spreads_15 rfl (lv_at hl 0 rfl) ?_
    refine g_get (pc := 16) (v := .ref (ad 34)) hC hU hH gk1_0 g_cl11 64 (by decide) kf_X11_118 rfl dX11_spreads_16 ?_
    refine lv_iload_n (pc := 19) hx hb dX11_spreads_19 rfl (lv_at hl 3 rfl) ?_
    obtain ⟨h4_2, hf⟩ := gc_s hf
    refine g_zald (pc := 20) hC hU hH gk1_34 gn1_34 h4_2 dX11_spreads_20 ?_
    refine lv_if_ne (tgt := 27) (pc := 21) hx hb dX11_spreads_21 (by decide) (fun hc => ?_) (fun hc => ?_)
    · have hf := gif_n hc hf
      refine lv_iconst (v := 0) (pc := 27) hx hb dX11_spreads_27 (by decide) ?_
      refine lv_istore (lv' := [(4, .int 0), (0, .ref (ad 0)), (1, .int a1), (2, .int l2), (3, .int l3)]) (pc := 28) hx hb dX11_spreads_28 hl (by decide) rfl (fun ls hl => ?_)
      exact wX11_spreads_30 hC hret hlk hU hk4 FU hf hH hS (lv_sub hl [1, 2, 3, 4, 0] rfl)
    · have hf := gif_p hc hf
      refine lv_goto (tgt := 144) (pc := 24) hx hb dX11_spreads_24 (by decide) ?_
      refine lv_iinc (v := l3 + 1) (lv' := [(3, .int (l3 + 1)), (0, .ref (ad 0)), (1, .int a1), (2, .int l2)]) (k := 3) (pc := 144) hx hb dX11_spreads_144 hl rfl rfl (by decide) rfl (fun ls hl => ?_)
      refine lv_goto (tgt := 4) (pc := 147) hx hb dX11_spreads_147 (by decide) ?_
      exact hk4 hf hH hS (lv_sub hl [1, 2, 3, 0] rfl)
def hX11_spreads_4 (a1 : Int32)  : Nat → Int32 → Int32 → gS → Option (Int32 × gS)
  | 0 => fun _ _ _ => none
  | n + 1 => fun l2 l3 st => fX11_spreads_4 a1 (hX11_spreads_4 a1 n) l2 l3 st
set_option maxRecDepth 100000 in
set_option maxHeartbeats 4000000 in
theorem wX11_spreads_4 {a1 : Int32} (hC : CallFix p m c cX11_spreads 7 s args lw_good RX11) (hret : meth.sig.returnType = (some .boolean)) (hlk : meth.locks = false) (hU : gU 1 D cA ad s)  {r : Int32} {st' : gS}  : ∀ (n : Nat) {l2 : Int32} {l3 : Int32} {st : gS} {H : Heap} {locs : List Loc} {ls : Array Slot}, hX11_spreads_4 a1 n l2 l3 st = some (r, st') → gP0 1 D cA ad st H → va_S (gA 1 ad) s.heap H locs → lv_has ls 7 [(0, .ref (ad 0)), (1, .int a1), (2, .int l2), (3, .int l3)] → W p l e (gRm 3) s m args below meth c H locs 0 0 (MQ below (gQc 1 D cA ad st' (some (.int r))) args s 0 0 (gA 1 ad)) (F0 m 4 ls []) := by
  intro n
  induction n with
  | zero => intro l2 l3 st H locs ls hf hH hS hl; cases hf
  | succ n ih =>
    intro l2 l3 st H locs ls hf hH hS hl
    exact bX11_spreads_4 (a1 := a1) hC hret hlk hU (fun hf hH hS hl => ih hf hH hS hl) hf hH hS hl
def fX11_spreads (a1 : Int32)   (st : gS) : Option (Int32 × gS) :=
  hX11_spreads_4 a1 FU 0 0 st
set_option maxRecDepth 100000 in
set_option maxHeartbeats 4000000 in
theorem bX11_spreads_0 {a1 : Int32} (hC : CallFix p m c cX11_spreads 7 s args lw_good RX11) (hret : meth.sig.returnType = (some .boolean)) (hlk : meth.locks = false) (hU : gU 1 D cA ad s)  {r : Int32} {st' : gS}   {st : gS} {H : Heap} {locs : List Loc} {ls : Array Slot} (hf : fX11_spreads a1 st = some (r, st')) (hH : gP0 1 D cA ad st H) (hS : va_S (gA 1 ad) s.heap H locs) (hl : lv_has ls 7 [(0, .ref (ad 0)), (1, .int a1)]) : W p l e (gRm 3) s m args below meth c H locs 0 0 (MQ below (gQc 1 D cA ad st' (some (.int r))) args s 0 0 (gA 1 ad)) (F0 m 0 ls []) := by
  obtain ⟨hx, hb, hml, hown, hts⟩ := id hC
  unfold fX11_spreads at hf
  refine lv_iconst (v := 0) (pc := 0) hx hb dX11_spreads_0 (by decide) ?_
  refine lv_istore_n (lv' := [(2, .int 0), (0, .ref (ad 0)), (1, .int a1)]) (pc := 1) hx hb dX11_spreads_1 rfl hl (by decide) rfl (fun ls hl => ?_)
  refine lv_iconst (v := 0) (pc := 2) hx hb dX11_spreads_2 (by decide) ?_
  refine lv_istore_n (lv' := [(3, .int 0), (2, .int 0), (0, .ref (ad 0)), (1, .int a1)]) (pc := 3) hx hb dX11_spreads_3 rfl hl (by decide) rfl (fun ls hl => ?_)
  exact wX11_spreads_4 hC hret hlk hU FU hf hH hS (lv_sub hl [2, 3, 1, 0] rfl)
set_option maxRecDepth 100000 in
set_option maxHeartbeats 4000000 in
theorem mX11_spreads {l : Launch} {D : va_G} {cA : Nat → ClassId} {ad : Nat → Nat} {a1 : Int32}  {r : Int32} {st st' : gS} (hf : fX11_spreads a1 st = some (r, st')) : gM l yX11_spreads cX11_spreads 7 (some .boolean) 3 1 D cA ad st [.ref (ad 0), .int a1] (some (.int r)) st' := by
  refine g_met (by decide) (Nat.le_of_ble_eq_true rfl) ?_
  intro p e s m args below meth c ls hC hret hlk hU hH hl
  exact bX11_spreads_0 hC hret hlk hU hf hH va_S.rf hl
def fX11_madeBy_108 (a1 : Int32) (k108 : Int32 → Int32 → gS → Option (Int32 × gS)) (l2 : Int32) (l4 : Int32) (st : gS) : Option (Int32 × gS) :=
  if (8 * (st.1 0 49)) ≤ l4 then (some (l2, st)) else (gc (gI l4 40) (if (st.1 34 l4.toNatClampNeg) = 0 then (k108 l2 (l4 + 1) st) else (gl (l2 ||| (1 <<< ((l4 - l4 / 8 * 8) &&& 31))) fun x139 => (k108 x139 (l4 + 1) st))))
set_option maxRecDepth 100000 in
set_option maxHeartbeats 4000000 in
theorem bX11_madeBy_108 {a1 : Int32} (hC : CallFix p m c cX11_madeBy 5 s args lw_good RX11) (hret : meth.sig.returnType = (some .int)) (hlk : meth.locks = false) (hU : gU 1 D cA ad s)  {r : Int32} {st' : gS} {k108 : Int32 → Int32 → gS → Option (Int32 × gS)} (hk108 : ∀ {l2 : Int32} {l4 : Int32} {st : gS} {H : Heap} {locs : List Loc} {ls : Array Slot}, k108 l2 l4 st = some (r, st') → gP0 1 D cA ad st H → va_S (gA 1 ad) s.heap H locs → lv_has ls 5 [(0, .ref (ad 0)), (2, .int l2), (4, .int l4)] → W p l e (gRm 4) s m args below meth c H locs 0 0 (MQ below (gQc 1 D cA ad st' (some (.int r))) args s 0 0 (gA 1 ad)) (F0 m 108 ls [])) {l2 : Int32} {l4 : Int32} {st : gS} {H : Heap} {locs : List Loc} {ls : Array Slot} (hf : fX11_madeBy_108 a1 k108 l2 l4 st = some (r, st')) (hH : gP0 1 D cA ad st H) (hS : va_S (gA 1 ad) s.heap H locs) (hl : lv_has ls 5 [(0, .ref (ad 0)), (2, .int l2), (4, .int l4)]) : W p l e (gRm 4) s m args below meth c H locs 0 0 (MQ below (gQc 1 D cA ad st' (some (.int r))) args s 0 0 (gA 1 ad)) (F0 m 108 ls []) := by
  obtain ⟨hx, hb, hml, hown, hts⟩ := id hC
  unfold fX11_madeBy_108 at hf
  refine lv_iload (pc := 108) hx hb dX11_madeBy_108 (lv_at hl 2 rfl) ?_
  refine lv_bipush (v := 8) (pc := 110) hx hb dX11_madeBy_110 (by decide) ?_
  refine lv_aload_n (pc := 112) hx hb dX11_madeBy_112 rfl (lv_at hl 0 rfl) ?_
  refine g_get (pc := 113) (v := .int (st.1 0 49)) hC hU hH gk1_0 g_cl11 49 (by decide) kf_X11_395 rfl dX11_madeBy_113 ?_
  refine lv_imul (pc := 116) hx hb dX11_madeBy_116 ?_
  refine lv_icmp_ge (tgt := 146) (pc := 117) hx hb dX11_madeBy_117 (by decide) (fun hc => ?_) (fun hc => ?_)
  · have hf := gif_p hc hf
    refine lv_iload_n (pc := 146) hx hb dX11_madeBy_146 rfl (lv_at hl 1 rfl) ?_
    exact g_iret (pc := 147) hC hret hlk hH hS hf dX11_madeBy_147
  · have hf := gif_n hc hf
    refine lv_aload_n (pc := 120) hx hb dX11_madeBy_120 rfl (lv_at hl 0 rfl) ?_
    refine g_get (pc := 121) (v := .ref (ad 34)) hC hU hH gk1_0 g_cl11 64 (by decide) kf_X11_118 rfl dX11_madeBy_121 ?_
    refine lv_iload (pc := 124) hx hb dX11_madeBy_124 (lv_at hl 2 rfl) ?_
    obtain ⟨h108_1, hf⟩ := gc_s hf
    refine g_zald (pc := 126) hC hU hH gk1_34 gn1_34 h108_1 dX11_madeBy_126 ?_
    refine lv_if_eq (tgt := 140) (pc := 127) hx hb dX11_madeBy_127 (by decide) (fun hc => ?_) (fun hc => ?_)
    · have hf := gif_p hc hf
      refine lv_iinc (v := l4 + 1) (lv' := [(4, .int (l4 + 1)), (0, .ref (ad 0)), (2, .int l2)]) (k := 2) (pc := 140) hx hb dX11_madeBy_140 hl rfl rfl (by decide) rfl (fun ls hl => ?_)
      refine lv_goto (tgt := 108) (pc := 143) hx hb dX11_madeBy_143 (by decide) ?_
      exact hk108 hf hH hS (lv_sub hl [1, 2, 0] rfl)
    · have hf := gif_n hc hf
      refine lv_iload_n (pc := 130) hx hb dX11_madeBy_130 rfl (lv_at hl 1 rfl) ?_
      refine lv_iconst (v := 1) (pc := 131) hx hb dX11_madeBy_131 (by decide) ?_
      refine lv_iload (pc := 132) hx hb dX11_madeBy_132 (lv_at hl 2 rfl) ?_
      refine lv_bipush (v := 8) (pc := 134) hx hb dX11_madeBy_134 (by decide) ?_
      refine lv_irem (pc := 136) hx hb dX11_madeBy_136 (by decide) ?_
      refine lv_ishl (pc := 137) hx hb dX11_madeBy_137 ?_
      refine lv_ior (pc := 138) hx hb dX11_madeBy_138 ?_
      refine lv_topi (pc := 139) (fun x139 ex139 => ?_)
      have hf := gl_s ex139 hf
      refine lv_istore_n (lv' := [(2, .int x139), (0, .ref (ad 0)), (4, .int l4)]) (pc := 139) hx hb dX11_madeBy_139 rfl hl (by decide) rfl (fun ls hl => ?_)
      refine lv_iinc (v := l4 + 1) (lv' := [(4, .int (l4 + 1)), (2, .int x139), (0, .ref (ad 0))]) (k := 2) (pc := 140) hx hb dX11_madeBy_140 hl rfl rfl (by decide) rfl (fun ls hl => ?_)
      refine lv_goto (tgt := 108) (pc := 143) hx hb dX11_madeBy_143 (by decide) ?_
      exact hk108 hf hH hS (lv_sub hl [2, 1, 0] rfl)
def hX11_madeBy_108 (a1 : Int32)  : Nat → Int32 → Int32 → gS → Option (Int32 × gS)
  | 0 => fun _ _ _ => none
  | n + 1 => fun l2 l4 st => fX11_madeBy_108 a1 (hX11_madeBy_108 a1 n) l2 l4 st
set_option maxRecDepth 100000 in
set_option maxHeartbeats 4000000 in
theorem wX11_madeBy_108 {a1 : Int32} (hC : CallFix p m c cX11_madeBy 5 s args lw_good RX11) (hret : meth.sig.returnType = (some .int)) (hlk : meth.locks = false) (hU : gU 1 D cA ad s)  {r : Int32} {st' : gS}  : ∀ (n : Nat) {l2 : Int32} {l4 : Int32} {st : gS} {H : Heap} {locs : List Loc} {ls : Array Slot}, hX11_madeBy_108 a1 n l2 l4 st = some (r, st') → gP0 1 D cA ad st H → va_S (gA 1 ad) s.heap H locs → lv_has ls 5 [(0, .ref (ad 0)), (2, .int l2), (4, .int l4)] → W p l e (gRm 4) s m args below meth c H locs 0 0 (MQ below (gQc 1 D cA ad st' (some (.int r))) args s 0 0 (gA 1 ad)) (F0 m 108 ls []) := by
  intro n
  induction n with
  | zero => intro l2 l4 st H locs ls hf hH hS hl; cases hf
  | succ n ih =>
    intro l2 l4 st H locs ls hf hH hS hl
    exact bX11_madeBy_108 (a1 := a1) hC hret hlk hU (fun hf hH hS hl => ih hf hH hS hl) hf hH hS hl
def fX11_madeBy_83 (a1 : Int32) (k83 : Int32 → Int32 → gS → Option (Int32 × gS)) (l2 : Int32) (l3 : Int32) (st : gS) : Option (Int32 × gS) :=
  if l3 = 0 then (hX11_madeBy_108 a1 FU l2 0 st) else (gc (gI 1 18) ((fX11_spreads (a1 ||| (1 <<< ((st.1 28 (1 : Int32).toNatClampNeg) &&& 31))) st).bind fun q83_1 => (k83 l2 q83_1.1 q83_1.2)))
set_option maxRecDepth 100000 in
set_option maxHeartbeats 4000000 in
theorem bX11_madeBy_83 {a1 : Int32} (hC : CallFix p m c cX11_madeBy 5 s args lw_good RX11) (hret : meth.sig.returnType = (some .int)) (hlk : meth.locks = false) (hU : gU 1 D cA ad s)  {r : Int32} {st' : gS} {k83 : Int32 → Int32 → gS → Option (Int32 × gS)} (hk83 : ∀ {l2 : Int32} {l3 : Int32} {st : gS} {H : Heap} {locs : List Loc} {ls : Array Slot}, k83 l2 l3 st = some (r, st') → gP0 1 D cA ad st H → va_S (gA 1 ad) s.heap H locs → lv_has ls 5 [(0, .ref (ad 0)), (1, .int a1), (2, .int l2), (3, .int l3)] → W p l e (gRm 4) s m args below meth c H locs 0 0 (MQ below (gQc 1 D cA ad st' (some (.int r))) args s 0 0 (gA 1 ad)) (F0 m 83 ls [])) {l2 : Int32} {l3 : Int32} {st : gS} {H : Heap} {locs : List Loc} {ls : Array Slot} (hf : fX11_madeBy_83 a1 k83 l2 l3 st = some (r, st')) (hH : gP0 1 D cA ad st H) (hS : va_S (gA 1 ad) s.heap H locs) (hl : lv_has ls 5 [(0, .ref (ad 0)), (1, .int a1), (2, .int l2), (3, .int l3)]) : W p l e (gRm 4) s m args below meth c H locs 0 0 (MQ below (gQc 1 D cA ad st' (some (.int r))) args s 0 0 (gA 1 ad)) (F0 m 83 ls []) := by
  obtain ⟨hx, hb, hml, hown, hts⟩ := id hC
  unfold fX11_madeBy_83 at hf
  refine lv_iload_n (pc := 83) hx hb dX11_madeBy_83 rfl (lv_at hl 3 rfl) ?_
  refine lv_if_eq (tgt := 105) (pc := 84) hx hb dX11_madeBy_84 (by decide) (fun hc => ?_) (fun hc => ?_)
  · have hf := gif_p hc hf
    refine lv_iconst (v := 0) (pc := 105) hx hb dX11_madeBy_105 (by decide) ?_
    refine lv_istore (lv' := [(4, .int 0), (0, .ref (ad 0)), (1, .int a1), (2, .int l2), (3, .int l3)]) (pc := 106) hx hb dX11_madeBy_106 hl (by decide) rfl (fun ls hl => ?_)
    exact wX11_madeBy_108 hC hret hlk hU FU hf hH hS (lv_sub hl [1, 3, 0] rfl)
  · have hf := gif_n hc hf
    refine lv_aload_n (pc := 87) hx hb dX11_madeBy_87 rfl (lv_at hl 0 rfl) ?_
    refine lv_iload_n (pc := 88) hx hb dX11_madeBy_88 rfl (lv_at hl 1 rfl) ?_
    refine lv_iconst (v := 1) (pc := 89) hx hb dX11_madeBy_89 (by decide) ?_
    refine lv_aload_n (pc := 90) hx hb dX11_madeBy_90 rfl (lv_at hl 0 rfl) ?_
    refine g_get (pc := 91) (v := .ref (ad 28)) hC hU hH gk1_0 g_cl11 55 (by decide) kf_X11_100 rfl dX11_madeBy_91 ?_
    refine lv_iconst (v := 1) (pc := 94) hx hb dX11_madeBy_94 (by decide) ?_
    obtain ⟨h83_1, hf⟩ := gc_s hf
    refine g_iald (pc := 95) hC hU hH gk1_28 gn1_28 h83_1 dX11_madeBy_95 ?_
    refine lv_ishl (pc := 96) hx hb dX11_madeBy_96 ?_
    refine lv_ior (pc := 97) hx hb dX11_madeBy_97 ?_
    obtain ⟨q83_1, hq83_1, hf⟩ := gbd hf
    refine g_callVi (pc := 98) (rest := []) hC hU hH hS hl.1 gk1_0 rfl (by decide) (mX11_spreads  hq83_1) ky_X11_spreads km_X11_487 ⟨Nat.le_of_ble_eq_true rfl, Nat.le_of_ble_eq_true rfl⟩ ⟨Nat.zero_le _, Nat.zero_le _⟩ rfl (Nat.le_of_ble_eq_true rfl) dX11_madeBy_98 rfl (fun H locs hH hS => ?_)
    refine lv_istore_n (lv' := [(3, .int q83_1.1), (0, .ref (ad 0)), (1, .int a1), (2, .int l2)]) (pc := 101) hx hb dX11_madeBy_101 rfl hl (by decide) rfl (fun ls hl => ?_)
    refine lv_goto (tgt := 83) (pc := 102) hx hb dX11_madeBy_102 (by decide) ?_
    exact hk83 hf hH hS (lv_sub hl [1, 2, 3, 0] rfl)
def hX11_madeBy_83 (a1 : Int32)  : Nat → Int32 → Int32 → gS → Option (Int32 × gS)
  | 0 => fun _ _ _ => none
  | n + 1 => fun l2 l3 st => fX11_madeBy_83 a1 (hX11_madeBy_83 a1 n) l2 l3 st
set_option maxRecDepth 100000 in
set_option maxHeartbeats 4000000 in
theorem wX11_madeBy_83 {a1 : Int32} (hC : CallFix p m c cX11_madeBy 5 s args lw_good RX11) (hret : meth.sig.returnType = (some .int)) (hlk : meth.locks = false) (hU : gU 1 D cA ad s)  {r : Int32} {st' : gS}  : ∀ (n : Nat) {l2 : Int32} {l3 : Int32} {st : gS} {H : Heap} {locs : List Loc} {ls : Array Slot}, hX11_madeBy_83 a1 n l2 l3 st = some (r, st') → gP0 1 D cA ad st H → va_S (gA 1 ad) s.heap H locs → lv_has ls 5 [(0, .ref (ad 0)), (1, .int a1), (2, .int l2), (3, .int l3)] → W p l e (gRm 4) s m args below meth c H locs 0 0 (MQ below (gQc 1 D cA ad st' (some (.int r))) args s 0 0 (gA 1 ad)) (F0 m 83 ls []) := by
  intro n
  induction n with
  | zero => intro l2 l3 st H locs ls hf hH hS hl; cases hf
  | succ n ih =>
    intro l2 l3 st H locs ls hf hH hS hl
    exact bX11_madeBy_83 (a1 := a1) hC hret hlk hU (fun hf hH hS hl => ih hf hH hS hl) hf hH hS hl
def fX11_madeBy_4 (a1 : Int32) (k4 : Int32 → Int32 → gS → Option (Int32 × gS)) (l2 : Int32) (l3 : Int32) (st : gS) : Option (Int32 × gS) :=
  if 40 ≤ l3 then (if (st.1 0 49) = 0 then (if (st.1 0 48) = 0 then (some (0, st)) else (gc (gI 0 18) (some (1 <<< ((st.1 28 (0 : Int32).toNatClampNeg) &&& 31), st)))) else (if (st.1 0 48) = 0 then (some (0, st)) else (gc (gI 1 18) (gc (gI 0 18) (gc (gI ((8 * (st.1 28 (1 : Int32).toNatClampNeg)) + (st.1 28 (0 : Int32).toNatClampNeg)) 40) (hX11_madeBy_83 a1 FU l2 1 (wi st 34 ((8 * (st.1 28 (1 : Int32).toNatClampNeg)) + (st.1 28 (0 : Int32).toNatClampNeg)).toNatClampNeg (vp_nar .boolean 1)))))))) else (gc (gI l3 40) (k4 l2 (l3 + 1) (wi st 34 l3.toNatClampNeg (vp_nar .boolean 0))))
set_option maxRecDepth 100000 in
set_option maxHeartbeats 4000000 in
theorem bX11_madeBy_4 {a1 : Int32} (hC : CallFix p m c cX11_madeBy 5 s args lw_good RX11) (hret : meth.sig.returnType = (some .int)) (hlk : meth.locks = false) (hU : gU 1 D cA ad s)  {r : Int32} {st' : gS} {k4 : Int32 → Int32 → gS → Option (Int32 × gS)} (hk4 : ∀ {l2 : Int32} {l3 : Int32} {st : gS} {H : Heap} {locs : List Loc} {ls : Array Slot}, k4 l2 l3 st = some (r, st') → gP0 1 D cA ad st H → va_S (gA 1 ad) s.heap H locs → lv_has ls 5 [(0, .ref (ad 0)), (1, .int a1), (2, .int l2), (3, .int l3)] → W p l e (gRm 4) s m args below meth c H locs 0 0 (MQ below (gQc 1 D cA ad st' (some (.int r))) args s 0 0 (gA 1 ad)) (F0 m 4 ls [])) {l2 : Int32} {l3 : Int32} {st : gS} {H : Heap} {locs : List Loc} {ls : Array Slot} (hf : fX11_madeBy_4 a1 k4 l2 l3 st = some (r, st')) (hH : gP0 1 D cA ad st H) (hS : va_S (gA 1 ad) s.heap H locs) (hl : lv_has ls 5 [(0, .ref (ad 0)), (1, .int a1), (2, .int l2), (3, .int l3)]) : W p l e (gRm 4) s m args below meth c H locs 0 0 (MQ below (gQc 1 D cA ad st' (some (.int r))) args s 0 0 (gA 1 ad)) (F0 m 4 ls []) := by
  obtain ⟨hx, hb, hml, hown, hts⟩ := id hC
  unfold fX11_madeBy_4 at hf
  refine lv_iload_n (pc := 4) hx hb dX11_madeBy_4 rfl (lv_at hl 3 rfl) ?_
  refine lv_bipush (v := 40) (pc := 5) hx hb dX11_madeBy_5 (by decide) ?_
  refine lv_icmp_ge (tgt := 23) (pc := 7) hx hb dX11_madeBy_7 (by decide) (fun hc => ?_) (fun hc => ?_)
  · have hf := gif_p hc hf
    refine lv_aload_n (pc := 23) hx hb dX11_madeBy_23 rfl (lv_at hl 0 rfl) ?_
    refine g_get (pc := 24) (v := .int (st.1 0 49)) hC hU hH gk1_0 g_cl11 49 (by decide) kf_X11_395 rfl dX11_madeBy_24 ?_
    refine lv_if_ne (tgt := 50) (pc := 27) hx hb dX11_madeBy_27 (by decide) (fun hc => ?_) (fun hc => ?_)
    · have hf := gif_n hc hf
      refine lv_aload_n (pc := 50) hx hb dX11_madeBy_50 rfl (lv_at hl 0 rfl) ?_
      refine g_get (pc := 51) (v := .int (st.1 0 48)) hC hU hH gk1_0 g_cl11 48 (by decide) kf_X11_392 rfl dX11_madeBy_51 ?_
      refine lv_if_ne (tgt := 59) (pc := 54) hx hb dX11_madeBy_54 (by decide) (fun hc => ?_) (fun hc => ?_)
      · have hf := gif_n hc hf
        refine lv_aload_n (pc := 59) hx hb dX11_madeBy_59 rfl (lv_at hl 0 rfl) ?_
        refine g_get (pc := 60) (v := .ref (ad 34)) hC hU hH gk1_0 g_cl11 64 (by decide) kf_X11_118 rfl dX11_madeBy_60 ?_
        refine lv_bipush (v := 8) (pc := 63) hx hb dX11_madeBy_63 (by decide) ?_
        refine lv_aload_n (pc := 65) hx hb dX11_madeBy_65 rfl (lv_at hl 0 rfl) ?_
        refine g_get (pc := 66) (v := .ref (ad 28)) hC hU hH gk1_0 g_cl11 55 (by decide) kf_X11_100 rfl dX11_madeBy_66 ?_
        refine lv_iconst (v := 1) (pc := 69) hx hb dX11_madeBy_69 (by decide) ?_
        obtain ⟨h4_1, hf⟩ := gc_s hf
        refine g_iald (pc := 70) hC hU hH gk1_28 gn1_28 h4_1 dX11_madeBy_70 ?_
        refine lv_imul (pc := 71) hx hb dX11_madeBy_71 ?_
        refine lv_aload_n (pc := 72) hx hb dX11_madeBy_72 rfl (lv_at hl 0 rfl) ?_
        refine g_get (pc := 73) (v := .ref (ad 28)) hC hU hH gk1_0 g_cl11 55 (by decide) kf_X11_100 rfl dX11_madeBy_73 ?_
        refine lv_iconst (v := 0) (pc := 76) hx hb dX11_madeBy_76 (by decide) ?_
        obtain ⟨h4_2, hf⟩ := gc_s hf
        refine g_iald (pc := 77) hC hU hH gk1_28 gn1_28 h4_2 dX11_madeBy_77 ?_
        refine lv_iadd (pc := 78) hx hb dX11_madeBy_78 ?_
        refine lv_iconst (v := 1) (pc := 79) hx hb dX11_madeBy_79 (by decide) ?_
        obtain ⟨h4_3, hf⟩ := gc_s hf
        refine g_zast (pc := 80) hC hU hH hS gk1_34 gn1_34 h4_3 dX11_madeBy_80 (fun H locs hH hS => ?_)
        refine lv_iconst (v := 1) (pc := 81) hx hb dX11_madeBy_81 (by decide) ?_
        refine lv_istore_n (lv' := [(3, .int 1), (0, .ref (ad 0)), (1, .int a1), (2, .int l2)]) (pc := 82) hx hb dX11_madeBy_82 rfl hl (by decide) rfl (fun ls hl => ?_)
        exact wX11_madeBy_83 hC hret hlk hU FU hf hH hS (lv_sub hl [1, 2, 3, 0] rfl)
      · have hf := gif_p hc hf
        refine lv_iconst (v := 0) (pc := 57) hx hb dX11_madeBy_57 (by decide) ?_
        exact g_iret (pc := 58) hC hret hlk hH hS hf dX11_madeBy_58
    · have hf := gif_p hc hf
      refine lv_aload_n (pc := 30) hx hb dX11_madeBy_30 rfl (lv_at hl 0 rfl) ?_
      refine g_get (pc := 31) (v := .int (st.1 0 48)) hC hU hH gk1_0 g_cl11 48 (by decide) kf_X11_392 rfl dX11_madeBy_31 ?_
      refine lv_if_ne (tgt := 41) (pc := 34) hx hb dX11_madeBy_34 (by decide) (fun hc => ?_) (fun hc => ?_)
      · have hf := gif_n hc hf
        refine lv_iconst (v := 1) (pc := 41) hx hb dX11_madeBy_41 (by decide) ?_
        refine lv_aload_n (pc := 42) hx hb dX11_madeBy_42 rfl (lv_at hl 0 rfl) ?_
        refine g_get (pc := 43) (v := .ref (ad 28)) hC hU hH gk1_0 g_cl11 55 (by decide) kf_X11_100 rfl dX11_madeBy_43 ?_
        refine lv_iconst (v := 0) (pc := 46) hx hb dX11_madeBy_46 (by decide) ?_
        obtain ⟨h4_4, hf⟩ := gc_s hf
        refine g_iald (pc := 47) hC hU hH gk1_28 gn1_28 h4_4 dX11_madeBy_47 ?_
        refine lv_ishl (pc := 48) hx hb dX11_madeBy_48 ?_
        exact g_iret (pc := 49) hC hret hlk hH hS hf dX11_madeBy_49
      · have hf := gif_p hc hf
        refine lv_iconst (v := 0) (pc := 37) hx hb dX11_madeBy_37 (by decide) ?_
        refine lv_goto (tgt := 49) (pc := 38) hx hb dX11_madeBy_38 (by decide) ?_
        exact g_iret (pc := 49) hC hret hlk hH hS hf dX11_madeBy_49
  · have hf := gif_n hc hf
    refine lv_aload_n (pc := 10) hx hb dX11_madeBy_10 rfl (lv_at hl 0 rfl) ?_
    refine g_get (pc := 11) (v := .ref (ad 34)) hC hU hH gk1_0 g_cl11 64 (by decide) kf_X11_118 rfl dX11_madeBy_11 ?_
    refine lv_iload_n (pc := 14) hx hb dX11_madeBy_14 rfl (lv_at hl 3 rfl) ?_
    refine lv_iconst (v := 0) (pc := 15) hx hb dX11_madeBy_15 (by decide) ?_
    obtain ⟨h4_5, hf⟩ := gc_s hf
    refine g_zast (pc := 16) hC hU hH hS gk1_34 gn1_34 h4_5 dX11_madeBy_16 (fun H locs hH hS => ?_)
    refine lv_iinc (v := l3 + 1) (lv' := [(3, .int (l3 + 1)), (0, .ref (ad 0)), (1, .int a1), (2, .int l2)]) (k := 3) (pc := 17) hx hb dX11_madeBy_17 hl rfl rfl (by decide) rfl (fun ls hl => ?_)
    refine lv_goto (tgt := 4) (pc := 20) hx hb dX11_madeBy_20 (by decide) ?_
    exact hk4 hf hH hS (lv_sub hl [1, 2, 3, 0] rfl)
def hX11_madeBy_4 (a1 : Int32)  : Nat → Int32 → Int32 → gS → Option (Int32 × gS)
  | 0 => fun _ _ _ => none
  | n + 1 => fun l2 l3 st => fX11_madeBy_4 a1 (hX11_madeBy_4 a1 n) l2 l3 st
set_option maxRecDepth 100000 in
set_option maxHeartbeats 4000000 in
theorem wX11_madeBy_4 {a1 : Int32} (hC : CallFix p m c cX11_madeBy 5 s args lw_good RX11) (hret : meth.sig.returnType = (some .int)) (hlk : meth.locks = false) (hU : gU 1 D cA ad s)  {r : Int32} {st' : gS}  : ∀ (n : Nat) {l2 : Int32} {l3 : Int32} {st : gS} {H : Heap} {locs : List Loc} {ls : Array Slot}, hX11_madeBy_4 a1 n l2 l3 st = some (r, st') → gP0 1 D cA ad st H → va_S (gA 1 ad) s.heap H locs → lv_has ls 5 [(0, .ref (ad 0)), (1, .int a1), (2, .int l2), (3, .int l3)] → W p l e (gRm 4) s m args below meth c H locs 0 0 (MQ below (gQc 1 D cA ad st' (some (.int r))) args s 0 0 (gA 1 ad)) (F0 m 4 ls []) := by
  intro n
  induction n with
  | zero => intro l2 l3 st H locs ls hf hH hS hl; cases hf
  | succ n ih =>
    intro l2 l3 st H locs ls hf hH hS hl
    exact bX11_madeBy_4 (a1 := a1) hC hret hlk hU (fun hf hH hS hl => ih hf hH hS hl) hf hH hS hl
def fX11_madeBy (a1 : Int32)   (st : gS) : Option (Int32 × gS) :=
  hX11_madeBy_4 a1 FU 0 0 st
set_option maxRecDepth 100000 in
set_option maxHeartbeats 4000000 in
theorem bX11_madeBy_0 {a1 : Int32} (hC : CallFix p m c cX11_madeBy 5 s args lw_good RX11) (hret : meth.sig.returnType = (some .int)) (hlk : meth.locks = false) (hU : gU 1 D cA ad s)  {r : Int32} {st' : gS}   {st : gS} {H : Heap} {locs : List Loc} {ls : Array Slot} (hf : fX11_madeBy a1 st = some (r, st')) (hH : gP0 1 D cA ad st H) (hS : va_S (gA 1 ad) s.heap H locs) (hl : lv_has ls 5 [(0, .ref (ad 0)), (1, .int a1)]) : W p l e (gRm 4) s m args below meth c H locs 0 0 (MQ below (gQc 1 D cA ad st' (some (.int r))) args s 0 0 (gA 1 ad)) (F0 m 0 ls []) := by
  obtain ⟨hx, hb, hml, hown, hts⟩ := id hC
  unfold fX11_madeBy at hf
  refine lv_iconst (v := 0) (pc := 0) hx hb dX11_madeBy_0 (by decide) ?_
  refine lv_istore_n (lv' := [(2, .int 0), (0, .ref (ad 0)), (1, .int a1)]) (pc := 1) hx hb dX11_madeBy_1 rfl hl (by decide) rfl (fun ls hl => ?_)
  refine lv_iconst (v := 0) (pc := 2) hx hb dX11_madeBy_2 (by decide) ?_
  refine lv_istore_n (lv' := [(3, .int 0), (2, .int 0), (0, .ref (ad 0)), (1, .int a1)]) (pc := 3) hx hb dX11_madeBy_3 rfl hl (by decide) rfl (fun ls hl => ?_)
  exact wX11_madeBy_4 hC hret hlk hU FU hf hH hS (lv_sub hl [2, 3, 1, 0] rfl)
set_option maxRecDepth 100000 in
set_option maxHeartbeats 4000000 in
theorem mX11_madeBy {l : Launch} {D : va_G} {cA : Nat → ClassId} {ad : Nat → Nat} {a1 : Int32}  {r : Int32} {st st' : gS} (hf : fX11_madeBy a1 st = some (r, st')) : gM l yX11_madeBy cX11_madeBy 5 (some .int) 4 1 D cA ad st [.ref (ad 0), .int a1] (some (.int r)) st' := by
  refine g_met (by decide) (Nat.le_of_ble_eq_true rfl) ?_
  intro p e s m args below meth c ls hC hret hlk hU hH hl
  exact bX11_madeBy_0 hC hret hlk hU hf hH va_S.rf hl
end
