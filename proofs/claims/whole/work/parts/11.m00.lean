section
variable {p : Program} {l : Launch} {e : Env} {s : State} {m : MethodId} {args : Array Value} {below : List Frame} {meth : Method} {c : Code} {D : va_G} {cA : Nat → ClassId} {ad : Nat → Nat}
def fX11_four_3 (a1 : Int32) (k3 : Int32 → gS → Option (gS)) (l2 : Int32) (st : gS) : Option (gS) :=
  if l2 < 0 then (some st) else (gc (gI (st.1 0 1) 1600) (k3 (l2 + (-8)) (wi (wi st 1 (st.1 0 1).toNatClampNeg ((a1 >>> (l2 &&& 31)) &&& 255)) 0 1 (((wi st 1 (st.1 0 1).toNatClampNeg ((a1 >>> (l2 &&& 31)) &&& 255)).1 0 1) + 1))))
set_option maxRecDepth 100000 in
set_option maxHeartbeats 4000000 in
theorem bX11_four_3 {a1 : Int32} (hC : CallFix p m c cX11_four 3 s args lw_good RX11) (hret : meth.sig.returnType = none) (hlk : meth.locks = false) (hU : gU 1 D cA ad s)  {st' : gS} {k3 : Int32 → gS → Option (gS)} (hk3 : ∀ {l2 : Int32} {st : gS} {H : Heap} {locs : List Loc} {ls : Array Slot}, k3 l2 st = some st' → gP0 1 D cA ad st H → va_S (gA 1 ad) s.heap H locs → lv_has ls 3 [(0, .ref (ad 0)), (1, .int a1), (2, .int l2)] → W p l e (gRm 1) s m args below meth c H locs 0 0 (MQ below (gQc 1 D cA ad st' none) args s 0 0 (gA 1 ad)) (F0 m 3 ls [])) {l2 : Int32} {st : gS} {H : Heap} {locs : List Loc} {ls : Array Slot} (hf : fX11_four_3 a1 k3 l2 st = some st') (hH : gP0 1 D cA ad st H) (hS : va_S (gA 1 ad) s.heap H locs) (hl : lv_has ls 3 [(0, .ref (ad 0)), (1, .int a1), (2, .int l2)]) : W p l e (gRm 1) s m args below meth c H locs 0 0 (MQ below (gQc 1 D cA ad st' none) args s 0 0 (gA 1 ad)) (F0 m 3 ls []) := by
  obtain ⟨hx, hb, hml, hown, hts⟩ := id hC
  unfold fX11_four_3 at hf
  refine lv_iload_n (pc := 3) hx hb dX11_four_3 rfl (lv_at hl 2 rfl) ?_
  refine lv_if_lt (tgt := 39) (pc := 4) hx hb dX11_four_4 (by decide) (fun hc => ?_) (fun hc => ?_)
  · have hf := gif_p hc hf
    exact g_vret (pc := 39) hC hret hlk hH hS hf dX11_four_39
  · have hf := gif_n hc hf
    refine lv_aload_n (pc := 7) hx hb dX11_four_7 rfl (lv_at hl 0 rfl) ?_
    refine g_get (pc := 8) (v := .ref (ad 1)) hC hU hH gk1_0 g_cl11 0 (by decide) kf_X11_7 rfl dX11_four_8 ?_
    refine lv_aload_n (pc := 11) hx hb dX11_four_11 rfl (lv_at hl 0 rfl) ?_
    refine g_get (pc := 12) (v := .int (st.1 0 1)) hC hU hH gk1_0 g_cl11 1 (by decide) kf_X11_157 rfl dX11_four_12 ?_
    refine lv_iload_n (pc := 15) hx hb dX11_four_15 rfl (lv_at hl 1 rfl) ?_
    refine lv_iload_n (pc := 16) hx hb dX11_four_16 rfl (lv_at hl 2 rfl) ?_
    refine lv_ishr (pc := 17) hx hb dX11_four_17 ?_
    refine lv_sipush (v := 255) (pc := 18) hx hb dX11_four_18 (by decide) ?_
    refine lv_iand (pc := 21) hx hb dX11_four_21 ?_
    obtain ⟨h3_1, hf⟩ := gc_s hf
    refine g_iast (pc := 22) hC hU hH hS gk1_1 gn1_1 h3_1 dX11_four_22 (fun H locs hH hS => ?_)
    refine lv_aload_n (pc := 23) hx hb dX11_four_23 rfl (lv_at hl 0 rfl) ?_
    refine lv_dup (pc := 24) hx hb dX11_four_24 rfl ?_
    refine g_get (pc := 25) (v := .int ((wi st 1 (st.1 0 1).toNatClampNeg ((a1 >>> (l2 &&& 31)) &&& 255)).1 0 1)) hC hU hH gk1_0 g_cl11 1 (by decide) kf_X11_157 rfl dX11_four_25 ?_
    refine lv_iconst (v := 1) (pc := 28) hx hb dX11_four_28 (by decide) ?_
    refine lv_iadd (pc := 29) hx hb dX11_four_29 ?_
    refine g_puti (pc := 30) hC hU hH hS gk1_0 g_cl11 1 (by decide) kf_X11_157 rfl rfl rfl rfl dX11_four_30 (fun H locs hH hS => ?_)
    refine lv_iinc (v := l2 + (-8)) (lv' := [(2, .int (l2 + (-8))), (0, .ref (ad 0)), (1, .int a1)]) (k := 2) (pc := 33) hx hb dX11_four_33 hl rfl rfl (by decide) rfl (fun ls hl => ?_)
    refine lv_goto (tgt := 3) (pc := 36) hx hb dX11_four_36 (by decide) ?_
    exact hk3 hf hH hS (lv_sub hl [1, 2, 0] rfl)
def hX11_four_3 (a1 : Int32)  : Nat → Int32 → gS → Option (gS)
  | 0 => fun _ _ => none
  | n + 1 => fun l2 st => fX11_four_3 a1 (hX11_four_3 a1 n) l2 st
set_option maxRecDepth 100000 in
set_option maxHeartbeats 4000000 in
theorem wX11_four_3 {a1 : Int32} (hC : CallFix p m c cX11_four 3 s args lw_good RX11) (hret : meth.sig.returnType = none) (hlk : meth.locks = false) (hU : gU 1 D cA ad s)  {st' : gS}  : ∀ (n : Nat) {l2 : Int32} {st : gS} {H : Heap} {locs : List Loc} {ls : Array Slot}, hX11_four_3 a1 n l2 st = some st' → gP0 1 D cA ad st H → va_S (gA 1 ad) s.heap H locs → lv_has ls 3 [(0, .ref (ad 0)), (1, .int a1), (2, .int l2)] → W p l e (gRm 1) s m args below meth c H locs 0 0 (MQ below (gQc 1 D cA ad st' none) args s 0 0 (gA 1 ad)) (F0 m 3 ls []) := by
  intro n
  induction n with
  | zero => intro l2 st H locs ls hf hH hS hl; cases hf
  | succ n ih =>
    intro l2 st H locs ls hf hH hS hl
    exact bX11_four_3 (a1 := a1) hC hret hlk hU (fun hf hH hS hl => ih hf hH hS hl) hf hH hS hl
def fX11_four (a1 : Int32)   (st : gS) : Option (gS) :=
  hX11_four_3 a1 FU 24 st
set_option maxRecDepth 100000 in
set_option maxHeartbeats 4000000 in
theorem bX11_four_0 {a1 : Int32} (hC : CallFix p m c cX11_four 3 s args lw_good RX11) (hret : meth.sig.returnType = none) (hlk : meth.locks = false) (hU : gU 1 D cA ad s)  {st' : gS}   {st : gS} {H : Heap} {locs : List Loc} {ls : Array Slot} (hf : fX11_four a1 st = some st') (hH : gP0 1 D cA ad st H) (hS : va_S (gA 1 ad) s.heap H locs) (hl : lv_has ls 3 [(0, .ref (ad 0)), (1, .int a1)]) : W p l e (gRm 1) s m args below meth c H locs 0 0 (MQ below (gQc 1 D cA ad st' none) args s 0 0 (gA 1 ad)) (F0 m 0 ls []) := by
  obtain ⟨hx, hb, hml, hown, hts⟩ := id hC
  unfold fX11_four at hf
  refine lv_bipush (v := 24) (pc := 0) hx hb dX11_four_0 (by decide) ?_
  refine lv_istore_n (lv' := [(2, .int 24), (0, .ref (ad 0)), (1, .int a1)]) (pc := 2) hx hb dX11_four_2 rfl hl (by decide) rfl (fun ls hl => ?_)
  exact wX11_four_3 hC hret hlk hU FU hf hH hS (lv_sub hl [1, 2, 0] rfl)
set_option maxRecDepth 100000 in
set_option maxHeartbeats 4000000 in
theorem mX11_four {l : Launch} {D : va_G} {cA : Nat → ClassId} {ad : Nat → Nat} {a1 : Int32}  {st st' : gS} (hf : fX11_four a1 st = some st') : gM l yX11_four cX11_four 3 none 1 1 D cA ad st [.ref (ad 0), .int a1] none st' := by
  refine g_met (by decide) (Nat.le_of_ble_eq_true rfl) ?_
  intro p e s m args below meth c ls hC hret hlk hU hH hl
  exact bX11_four_0 hC hret hlk hU hf hH va_S.rf hl
def fX11_feed (a1 : Int32) (a2 : Int32) (a3 : Int32) (a4 : Int32) (a5 : Int32)   (st : gS) : Option (Int32 × gS) :=
  if ((st.1 0 1) + 20) ≤ 1600 then ((fX11_four a1 st).bind fun q0_1 => ((fX11_four a2 q0_1).bind fun q0_2 => ((fX11_four a3 q0_2).bind fun q0_3 => ((fX11_four a4 q0_3).bind fun q0_4 => ((fX11_four a5 q0_4).bind fun q0_5 => (some (q0_5.1 0 1, q0_5))))))) else (some ((-1), st))
set_option maxRecDepth 100000 in
set_option maxHeartbeats 4000000 in
theorem bX11_feed_0 {a1 : Int32} {a2 : Int32} {a3 : Int32} {a4 : Int32} {a5 : Int32} (hC : CallFix p m c cX11_feed 6 s args lw_good RX11) (hret : meth.sig.returnType = (some .int)) (hlk : meth.locks = false) (hU : gU 1 D cA ad s)  {r : Int32} {st' : gS}   {st : gS} {H : Heap} {locs : List Loc} {ls : Array Slot} (hf : fX11_feed a1 a2 a3 a4 a5 st = some (r, st')) (hH : gP0 1 D cA ad st H) (hS : va_S (gA 1 ad) s.heap H locs) (hl : lv_has ls 6 [(0, .ref (ad 0)), (1, .int a1), (2, .int a2), (3, .int a3), (4, .int a4), (5, .int a5)]) : W p l e (gRm 2) s m args below meth c H locs 0 0 (MQ below (gQc 1 D cA ad st' (some (.int r))) args s 0 0 (gA 1 ad)) (F0 m 0 ls []) := by
  obtain ⟨hx, hb, hml, hown, hts⟩ := id hC
  unfold fX11_feed at hf
  refine lv_aload_n (pc := 0) hx hb dX11_feed_0 rfl (lv_at hl 0 rfl) ?_
  refine g_get (pc := 1) (v := .int (st.1 0 1)) hC hU hH gk1_0 g_cl11 1 (by decide) kf_X11_157 rfl dX11_feed_1 ?_
  refine lv_bipush (v := 20) (pc := 4) hx hb dX11_feed_4 (by decide) ?_
  refine lv_iadd (pc := 6) hx hb dX11_feed_6 ?_
  refine lv_sipush (v := 1600) (pc := 7) hx hb dX11_feed_7 (by decide) ?_
  refine lv_icmp_le (tgt := 15) (pc := 10) hx hb dX11_feed_10 (by decide) (fun hc => ?_) (fun hc => ?_)
  · have hf := gif_p hc hf
    refine lv_aload_n (pc := 15) hx hb dX11_feed_15 rfl (lv_at hl 0 rfl) ?_
    refine lv_iload_n (pc := 16) hx hb dX11_feed_16 rfl (lv_at hl 1 rfl) ?_
    obtain ⟨q0_1, hq0_1, hf⟩ := gbd hf
    refine g_callVv (pc := 17) (rest := []) hC hU hH hS hl.1 gk1_0 rfl (by decide) (mX11_four  hq0_1) ky_X11_four km_X11_160 ⟨Nat.le_of_ble_eq_true rfl, Nat.le_of_ble_eq_true rfl⟩ ⟨Nat.zero_le _, Nat.zero_le _⟩ rfl (Nat.le_of_ble_eq_true rfl) dX11_feed_17 rfl (fun H locs hH hS => ?_)
    refine lv_aload_n (pc := 20) hx hb dX11_feed_20 rfl (lv_at hl 0 rfl) ?_
    refine lv_iload_n (pc := 21) hx hb dX11_feed_21 rfl (lv_at hl 2 rfl) ?_
    obtain ⟨q0_2, hq0_2, hf⟩ := gbd hf
    refine g_callVv (pc := 22) (rest := []) hC hU hH hS hl.1 gk1_0 rfl (by decide) (mX11_four  hq0_2) ky_X11_four km_X11_160 ⟨Nat.le_of_ble_eq_true rfl, Nat.le_of_ble_eq_true rfl⟩ ⟨Nat.zero_le _, Nat.zero_le _⟩ rfl (Nat.le_of_ble_eq_true rfl) dX11_feed_22 rfl (fun H locs hH hS => ?_)
    refine lv_aload_n (pc := 25) hx hb dX11_feed_25 rfl (lv_at hl 0 rfl) ?_
    refine lv_iload_n (pc := 26) hx hb dX11_feed_26 rfl (lv_at hl 3 rfl) ?_
    obtain ⟨q0_3, hq0_3, hf⟩ := gbd hf
    refine g_callVv (pc := 27) (rest := []) hC hU hH hS hl.1 gk1_0 rfl (by decide) (mX11_four  hq0_3) ky_X11_four km_X11_160 ⟨Nat.le_of_ble_eq_true rfl, Nat.le_of_ble_eq_true rfl⟩ ⟨Nat.zero_le _, Nat.zero_le _⟩ rfl (Nat.le_of_ble_eq_true rfl) dX11_feed_27 rfl (fun H locs hH hS => ?_)
    refine lv_aload_n (pc := 30) hx hb dX11_feed_30 rfl (lv_at hl 0 rfl) ?_
    refine lv_iload (pc := 31) hx hb dX11_feed_31 (lv_at hl 4 rfl) ?_
    obtain ⟨q0_4, hq0_4, hf⟩ := gbd hf
    refine g_callVv (pc := 33) (rest := []) hC hU hH hS hl.1 gk1_0 rfl (by decide) (mX11_four  hq0_4) ky_X11_four km_X11_160 ⟨Nat.le_of_ble_eq_true rfl, Nat.le_of_ble_eq_true rfl⟩ ⟨Nat.zero_le _, Nat.zero_le _⟩ rfl (Nat.le_of_ble_eq_true rfl) dX11_feed_33 rfl (fun H locs hH hS => ?_)
    refine lv_aload_n (pc := 36) hx hb dX11_feed_36 rfl (lv_at hl 0 rfl) ?_
    refine lv_iload (pc := 37) hx hb dX11_feed_37 (lv_at hl 5 rfl) ?_
    obtain ⟨q0_5, hq0_5, hf⟩ := gbd hf
    refine g_callVv (pc := 39) (rest := []) hC hU hH hS hl.1 gk1_0 rfl (by decide) (mX11_four  hq0_5) ky_X11_four km_X11_160 ⟨Nat.le_of_ble_eq_true rfl, Nat.le_of_ble_eq_true rfl⟩ ⟨Nat.zero_le _, Nat.zero_le _⟩ rfl (Nat.le_of_ble_eq_true rfl) dX11_feed_39 rfl (fun H locs hH hS => ?_)
    refine lv_aload_n (pc := 42) hx hb dX11_feed_42 rfl (lv_at hl 0 rfl) ?_
    refine g_get (pc := 43) (v := .int (q0_5.1 0 1)) hC hU hH gk1_0 g_cl11 1 (by decide) kf_X11_157 rfl dX11_feed_43 ?_
    exact g_iret (pc := 46) hC hret hlk hH hS hf dX11_feed_46
  · have hf := gif_n hc hf
    refine lv_iconst (v := (-1)) (pc := 13) hx hb dX11_feed_13 (by decide) ?_
    exact g_iret (pc := 14) hC hret hlk hH hS hf dX11_feed_14
set_option maxRecDepth 100000 in
set_option maxHeartbeats 4000000 in
theorem mX11_feed {l : Launch} {D : va_G} {cA : Nat → ClassId} {ad : Nat → Nat} {a1 : Int32} {a2 : Int32} {a3 : Int32} {a4 : Int32} {a5 : Int32}  {r : Int32} {st st' : gS} (hf : fX11_feed a1 a2 a3 a4 a5 st = some (r, st')) : gM l yX11_feed cX11_feed 6 (some .int) 2 1 D cA ad st [.ref (ad 0), .int a1, .int a2, .int a3, .int a4, .int a5] (some (.int r)) st' := by
  refine g_met (by decide) (Nat.le_of_ble_eq_true rfl) ?_
  intro p e s m args below meth c ls hC hret hlk hU hH hl
  exact bX11_feed_0 hC hret hlk hU hf hH va_S.rf hl
def fX11_end (a1 : Int32)   (st : gS) : Option (Int32 × gS) :=
  if a1 < 0 then (some ((-1), st)) else (if a1 ≤ (st.1 0 1) then (some (a1, wi st 0 1 a1)) else (some ((-1), st)))
set_option maxRecDepth 100000 in
set_option maxHeartbeats 4000000 in
theorem bX11_end_0 {a1 : Int32} (hC : CallFix p m c cX11_end 2 s args lw_good RX11) (hret : meth.sig.returnType = (some .int)) (hlk : meth.locks = false) (hU : gU 1 D cA ad s)  {r : Int32} {st' : gS}   {st : gS} {H : Heap} {locs : List Loc} {ls : Array Slot} (hf : fX11_end a1 st = some (r, st')) (hH : gP0 1 D cA ad st H) (hS : va_S (gA 1 ad) s.heap H locs) (hl : lv_has ls 2 [(0, .ref (ad 0)), (1, .int a1)]) : W p l e (gRm 1) s m args below meth c H locs 0 0 (MQ below (gQc 1 D cA ad st' (some (.int r))) args s 0 0 (gA 1 ad)) (F0 m 0 ls []) := by
  obtain ⟨hx, hb, hml, hown, hts⟩ := id hC
  unfold fX11_end at hf
  refine lv_iload_n (pc := 0) hx hb dX11_end_0 rfl (lv_at hl 1 rfl) ?_
  refine lv_if_lt (tgt := 12) (pc := 1) hx hb dX11_end_1 (by decide) (fun hc => ?_) (fun hc => ?_)
  · have hf := gif_p hc hf
    refine lv_iconst (v := (-1)) (pc := 12) hx hb dX11_end_12 (by decide) ?_
    exact g_iret (pc := 13) hC hret hlk hH hS hf dX11_end_13
  · have hf := gif_n hc hf
    refine lv_iload_n (pc := 4) hx hb dX11_end_4 rfl (lv_at hl 1 rfl) ?_
    refine lv_aload_n (pc := 5) hx hb dX11_end_5 rfl (lv_at hl 0 rfl) ?_
    refine g_get (pc := 6) (v := .int (st.1 0 1)) hC hU hH gk1_0 g_cl11 1 (by decide) kf_X11_157 rfl dX11_end_6 ?_
    refine lv_icmp_le (tgt := 14) (pc := 9) hx hb dX11_end_9 (by decide) (fun hc => ?_) (fun hc => ?_)
    · have hf := gif_p hc hf
      refine lv_aload_n (pc := 14) hx hb dX11_end_14 rfl (lv_at hl 0 rfl) ?_
      refine lv_iload_n (pc := 15) hx hb dX11_end_15 rfl (lv_at hl 1 rfl) ?_
      refine g_puti (pc := 16) hC hU hH hS gk1_0 g_cl11 1 (by decide) kf_X11_157 rfl rfl rfl rfl dX11_end_16 (fun H locs hH hS => ?_)
      refine lv_iload_n (pc := 19) hx hb dX11_end_19 rfl (lv_at hl 1 rfl) ?_
      exact g_iret (pc := 20) hC hret hlk hH hS hf dX11_end_20
    · have hf := gif_n hc hf
      refine lv_iconst (v := (-1)) (pc := 12) hx hb dX11_end_12 (by decide) ?_
      exact g_iret (pc := 13) hC hret hlk hH hS hf dX11_end_13
set_option maxRecDepth 100000 in
set_option maxHeartbeats 4000000 in
theorem mX11_end {l : Launch} {D : va_G} {cA : Nat → ClassId} {ad : Nat → Nat} {a1 : Int32}  {r : Int32} {st st' : gS} (hf : fX11_end a1 st = some (r, st')) : gM l yX11_end cX11_end 2 (some .int) 1 1 D cA ad st [.ref (ad 0), .int a1] (some (.int r)) st' := by
  refine g_met (by decide) (Nat.le_of_ble_eq_true rfl) ?_
  intro p e s m args below meth c ls hC hret hlk hU hH hl
  exact bX11_end_0 hC hret hlk hU hf hH va_S.rf hl
def fX11_here (a1 : Int32)   (st : gS) : Option (Int32 × gS) :=
  if (st.1 0 5) ≤ ((st.1 0 4) + a1) then (some ((-1), st)) else (gc (gI ((st.1 0 4) + a1) 1600) (some (st.1 1 ((st.1 0 4) + a1).toNatClampNeg, st)))
set_option maxRecDepth 100000 in
set_option maxHeartbeats 4000000 in
theorem bX11_here_0 {a1 : Int32} (hC : CallFix p m c cX11_here 2 s args lw_good RX11) (hret : meth.sig.returnType = (some .int)) (hlk : meth.locks = false) (hU : gU 1 D cA ad s)  {r : Int32} {st' : gS}   {st : gS} {H : Heap} {locs : List Loc} {ls : Array Slot} (hf : fX11_here a1 st = some (r, st')) (hH : gP0 1 D cA ad st H) (hS : va_S (gA 1 ad) s.heap H locs) (hl : lv_has ls 2 [(0, .ref (ad 0)), (1, .int a1)]) : W p l e (gRm 1) s m args below meth c H locs 0 0 (MQ below (gQc 1 D cA ad st' (some (.int r))) args s 0 0 (gA 1 ad)) (F0 m 0 ls []) := by
  obtain ⟨hx, hb, hml, hown, hts⟩ := id hC
  unfold fX11_here at hf
  refine lv_aload_n (pc := 0) hx hb dX11_here_0 rfl (lv_at hl 0 rfl) ?_
  refine g_get (pc := 1) (v := .int (st.1 0 4)) hC hU hH gk1_0 g_cl11 4 (by decide) kf_X11_164 rfl dX11_here_1 ?_
  refine lv_iload_n (pc := 4) hx hb dX11_here_4 rfl (lv_at hl 1 rfl) ?_
  refine lv_iadd (pc := 5) hx hb dX11_here_5 ?_
  refine lv_aload_n (pc := 6) hx hb dX11_here_6 rfl (lv_at hl 0 rfl) ?_
  refine g_get (pc := 7) (v := .int (st.1 0 5)) hC hU hH gk1_0 g_cl11 5 (by decide) kf_X11_167 rfl dX11_here_7 ?_
  refine lv_icmp_ge (tgt := 27) (pc := 10) hx hb dX11_here_10 (by decide) (fun hc => ?_) (fun hc => ?_)
  · have hf := gif_p hc hf
    refine lv_iconst (v := (-1)) (pc := 27) hx hb dX11_here_27 (by decide) ?_
    exact g_iret (pc := 28) hC hret hlk hH hS hf dX11_here_28
  · have hf := gif_n hc hf
    refine lv_aload_n (pc := 13) hx hb dX11_here_13 rfl (lv_at hl 0 rfl) ?_
    refine g_get (pc := 14) (v := .ref (ad 1)) hC hU hH gk1_0 g_cl11 0 (by decide) kf_X11_7 rfl dX11_here_14 ?_
    refine lv_aload_n (pc := 17) hx hb dX11_here_17 rfl (lv_at hl 0 rfl) ?_
    refine g_get (pc := 18) (v := .int (st.1 0 4)) hC hU hH gk1_0 g_cl11 4 (by decide) kf_X11_164 rfl dX11_here_18 ?_
    refine lv_iload_n (pc := 21) hx hb dX11_here_21 rfl (lv_at hl 1 rfl) ?_
    refine lv_iadd (pc := 22) hx hb dX11_here_22 ?_
    obtain ⟨h0_1, hf⟩ := gc_s hf
    refine g_iald (pc := 23) hC hU hH gk1_1 gn1_1 h0_1 dX11_here_23 ?_
    refine lv_goto (tgt := 28) (pc := 24) hx hb dX11_here_24 (by decide) ?_
    exact g_iret (pc := 28) hC hret hlk hH hS hf dX11_here_28
set_option maxRecDepth 100000 in
set_option maxHeartbeats 4000000 in
theorem mX11_here {l : Launch} {D : va_G} {cA : Nat → ClassId} {ad : Nat → Nat} {a1 : Int32}  {r : Int32} {st st' : gS} (hf : fX11_here a1 st = some (r, st')) : gM l yX11_here cX11_here 2 (some .int) 1 1 D cA ad st [.ref (ad 0), .int a1] (some (.int r)) st' := by
  refine g_met (by decide) (Nat.le_of_ble_eq_true rfl) ?_
  intro p e s m args below meth c ls hC hret hlk hU hH hl
  exact bX11_here_0 hC hret hlk hU hf hH va_S.rf hl
def fX11_isLetter (a0 : Int32)   (st : gS) : Option (Int32 × gS) :=
  if a0 < 97 then (some (0, st)) else (if 122 < a0 then (some (0, st)) else (some (1, st)))
set_option maxRecDepth 100000 in
set_option maxHeartbeats 4000000 in
theorem bX11_isLetter_0 {a0 : Int32} (hC : CallFix p m c cX11_isLetter 1 s args lw_good RX11) (hret : meth.sig.returnType = (some .boolean)) (hlk : meth.locks = false) (hU : gU 1 D cA ad s)  {r : Int32} {st' : gS}   {st : gS} {H : Heap} {locs : List Loc} {ls : Array Slot} (hf : fX11_isLetter a0 st = some (r, st')) (hH : gP0 1 D cA ad st H) (hS : va_S (gA 1 ad) s.heap H locs) (hl : lv_has ls 1 [(0, .int a0)]) : W p l e (gRm 1) s m args below meth c H locs 0 0 (MQ below (gQc 1 D cA ad st' (some (.int r))) args s 0 0 (gA 1 ad)) (F0 m 0 ls []) := by
  obtain ⟨hx, hb, hml, hown, hts⟩ := id hC
  unfold fX11_isLetter at hf
  refine lv_iload_n (pc := 0) hx hb dX11_isLetter_0 rfl (lv_at hl 0 rfl) ?_
  refine lv_bipush (v := 97) (pc := 1) hx hb dX11_isLetter_1 (by decide) ?_
  refine lv_icmp_lt (tgt := 16) (pc := 3) hx hb dX11_isLetter_3 (by decide) (fun hc => ?_) (fun hc => ?_)
  · have hf := gif_p hc hf
    refine lv_iconst (v := 0) (pc := 16) hx hb dX11_isLetter_16 (by decide) ?_
    exact g_zret (pc := 17) hC hret hlk hH hS (by decide) hf dX11_isLetter_17
  · have hf := gif_n hc hf
    refine lv_iload_n (pc := 6) hx hb dX11_isLetter_6 rfl (lv_at hl 0 rfl) ?_
    refine lv_bipush (v := 122) (pc := 7) hx hb dX11_isLetter_7 (by decide) ?_
    refine lv_icmp_gt (tgt := 16) (pc := 9) hx hb dX11_isLetter_9 (by decide) (fun hc => ?_) (fun hc => ?_)
    · have hf := gif_p hc hf
      refine lv_iconst (v := 0) (pc := 16) hx hb dX11_isLetter_16 (by decide) ?_
      exact g_zret (pc := 17) hC hret hlk hH hS (by decide) hf dX11_isLetter_17
    · have hf := gif_n hc hf
      refine lv_iconst (v := 1) (pc := 12) hx hb dX11_isLetter_12 (by decide) ?_
      refine lv_goto (tgt := 17) (pc := 13) hx hb dX11_isLetter_13 (by decide) ?_
      exact g_zret (pc := 17) hC hret hlk hH hS (by decide) hf dX11_isLetter_17
set_option maxRecDepth 100000 in
set_option maxHeartbeats 4000000 in
theorem mX11_isLetter {l : Launch} {D : va_G} {cA : Nat → ClassId} {ad : Nat → Nat} {a0 : Int32}  {r : Int32} {st st' : gS} (hf : fX11_isLetter a0 st = some (r, st')) : gM l yX11_isLetter cX11_isLetter 1 (some .boolean) 1 1 D cA ad st [.int a0] (some (.int r)) st' := by
  refine g_met (by decide) (Nat.le_of_ble_eq_true rfl) ?_
  intro p e s m args below meth c ls hC hret hlk hU hH hl
  exact bX11_isLetter_0 hC hret hlk hU hf hH va_S.rf hl
def fX11_isDigit (a0 : Int32)   (st : gS) : Option (Int32 × gS) :=
  if a0 < 48 then (some (0, st)) else (if 57 < a0 then (some (0, st)) else (some (1, st)))
set_option maxRecDepth 100000 in
set_option maxHeartbeats 4000000 in
theorem bX11_isDigit_0 {a0 : Int32} (hC : CallFix p m c cX11_isDigit 1 s args lw_good RX11) (hret : meth.sig.returnType = (some .boolean)) (hlk : meth.locks = false) (hU : gU 1 D cA ad s)  {r : Int32} {st' : gS}   {st : gS} {H : Heap} {locs : List Loc} {ls : Array Slot} (hf : fX11_isDigit a0 st = some (r, st')) (hH : gP0 1 D cA ad st H) (hS : va_S (gA 1 ad) s.heap H locs) (hl : lv_has ls 1 [(0, .int a0)]) : W p l e (gRm 1) s m args below meth c H locs 0 0 (MQ below (gQc 1 D cA ad st' (some (.int r))) args s 0 0 (gA 1 ad)) (F0 m 0 ls []) := by
  obtain ⟨hx, hb, hml, hown, hts⟩ := id hC
  unfold fX11_isDigit at hf
  refine lv_iload_n (pc := 0) hx hb dX11_isDigit_0 rfl (lv_at hl 0 rfl) ?_
  refine lv_bipush (v := 48) (pc := 1) hx hb dX11_isDigit_1 (by decide) ?_
  refine lv_icmp_lt (tgt := 16) (pc := 3) hx hb dX11_isDigit_3 (by decide) (fun hc => ?_) (fun hc => ?_)
  · have hf := gif_p hc hf
    refine lv_iconst (v := 0) (pc := 16) hx hb dX11_isDigit_16 (by decide) ?_
    exact g_zret (pc := 17) hC hret hlk hH hS (by decide) hf dX11_isDigit_17
  · have hf := gif_n hc hf
    refine lv_iload_n (pc := 6) hx hb dX11_isDigit_6 rfl (lv_at hl 0 rfl) ?_
    refine lv_bipush (v := 57) (pc := 7) hx hb dX11_isDigit_7 (by decide) ?_
    refine lv_icmp_gt (tgt := 16) (pc := 9) hx hb dX11_isDigit_9 (by decide) (fun hc => ?_) (fun hc => ?_)
    · have hf := gif_p hc hf
      refine lv_iconst (v := 0) (pc := 16) hx hb dX11_isDigit_16 (by decide) ?_
      exact g_zret (pc := 17) hC hret hlk hH hS (by decide) hf dX11_isDigit_17
    · have hf := gif_n hc hf
      refine lv_iconst (v := 1) (pc := 12) hx hb dX11_isDigit_12 (by decide) ?_
      refine lv_goto (tgt := 17) (pc := 13) hx hb dX11_isDigit_13 (by decide) ?_
      exact g_zret (pc := 17) hC hret hlk hH hS (by decide) hf dX11_isDigit_17
set_option maxRecDepth 100000 in
set_option maxHeartbeats 4000000 in
theorem mX11_isDigit {l : Launch} {D : va_G} {cA : Nat → ClassId} {ad : Nat → Nat} {a0 : Int32}  {r : Int32} {st st' : gS} (hf : fX11_isDigit a0 st = some (r, st')) : gM l yX11_isDigit cX11_isDigit 1 (some .boolean) 1 1 D cA ad st [.int a0] (some (.int r)) st' := by
  refine g_met (by decide) (Nat.le_of_ble_eq_true rfl) ?_
  intro p e s m args below meth c ls hC hret hlk hU hH hl
  exact bX11_isDigit_0 hC hret hlk hU hf hH va_S.rf hl
def fX11_isSign (a0 : Int32)   (st : gS) : Option (Int32 × gS) :=
  if a0 = 59 then (some (1, st)) else (if a0 = 40 then (some (1, st)) else (if a0 = 41 then (some (1, st)) else (if a0 = 60 then (some (1, st)) else (if a0 = 62 then (some (1, st)) else (if a0 = 61 then (some (1, st)) else (if a0 = 43 then (some (1, st)) else (if a0 = 45 then (some (1, st)) else (if a0 = 42 then (some (1, st)) else (if a0 = 47 then (some (1, st)) else (if a0 = 37 then (some (1, st)) else (some (0, st))))))))))))
set_option maxRecDepth 100000 in
set_option maxHeartbeats 4000000 in
theorem bX11_isSign_0 {a0 : Int32} (hC : CallFix p m c cX11_isSign 1 s args lw_good RX11) (hret : meth.sig.returnType = (some .boolean)) (hlk : meth.locks = false) (hU : gU 1 D cA ad s)  {r : Int32} {st' : gS}   {st : gS} {H : Heap} {locs : List Loc} {ls : Array Slot} (hf : fX11_isSign a0 st = some (r, st')) (hH : gP0 1 D cA ad st H) (hS : va_S (gA 1 ad) s.heap H locs) (hl : lv_has ls 1 [(0, .int a0)]) : W p l e (gRm 1) s m args below meth c H locs 0 0 (MQ below (gQc 1 D cA ad st' (some (.int r))) args s 0 0 (gA 1 ad)) (F0 m 0 ls []) := by
  obtain ⟨hx, hb, hml, hown, hts⟩ := id hC
  unfold fX11_isSign at hf
  refine lv_iload_n (pc := 0) hx hb dX11_isSign_0 rfl (lv_at hl 0 rfl) ?_
  refine lv_bipush (v := 59) (pc := 1) hx hb dX11_isSign_1 (by decide) ?_
  refine lv_icmp_eq (tgt := 66) (pc := 3) hx hb dX11_isSign_3 (by decide) (fun hc => ?_) (fun hc => ?_)
  · have hf := gif_p hc hf
    refine lv_iconst (v := 1) (pc := 66) hx hb dX11_isSign_66 (by decide) ?_
    refine lv_goto (tgt := 71) (pc := 67) hx hb dX11_isSign_67 (by decide) ?_
    exact g_zret (pc := 71) hC hret hlk hH hS (by decide) hf dX11_isSign_71
  · have hf := gif_n hc hf
    refine lv_iload_n (pc := 6) hx hb dX11_isSign_6 rfl (lv_at hl 0 rfl) ?_
    refine lv_bipush (v := 40) (pc := 7) hx hb dX11_isSign_7 (by decide) ?_
    refine lv_icmp_eq (tgt := 66) (pc := 9) hx hb dX11_isSign_9 (by decide) (fun hc => ?_) (fun hc => ?_)
    · have hf := gif_p hc hf
      refine lv_iconst (v := 1) (pc := 66) hx hb dX11_isSign_66 (by decide) ?_
      refine lv_goto (tgt := 71) (pc := 67) hx hb dX11_isSign_67 (by decide) ?_
      exact g_zret (pc := 71) hC hret hlk hH hS (by decide) hf dX11_isSign_71
    · have hf := gif_n hc hf
      refine lv_iload_n (pc := 12) hx hb dX11_isSign_12 rfl (lv_at hl 0 rfl) ?_
      refine lv_bipush (v := 41) (pc := 13) hx hb dX11_isSign_13 (by decide) ?_
      refine lv_icmp_eq (tgt := 66) (pc := 15) hx hb dX11_isSign_15 (by decide) (fun hc => ?_) (fun hc => ?_)
      · have hf := gif_p hc hf
        refine lv_iconst (v := 1) (pc := 66) hx hb dX11_isSign_66 (by decide) ?_
        refine lv_goto (tgt := 71) (pc := 67) hx hb dX11_isSign_67 (by decide) ?_
        exact g_zret (pc := 71) hC hret hlk hH hS (by decide) hf dX11_isSign_71
      · have hf := gif_n hc hf
        refine lv_iload_n (pc := 18) hx hb dX11_isSign_18 rfl (lv_at hl 0 rfl) ?_
        refine lv_bipush (v := 60) (pc := 19) hx hb dX11_isSign_19 (by decide) ?_
        refine lv_icmp_eq (tgt := 66) (pc := 21) hx hb dX11_isSign_21 (by decide) (fun hc => ?_) (fun hc => ?_)
        · have hf := gif_p hc hf
          refine lv_iconst (v := 1) (pc := 66) hx hb dX11_isSign_66 (by decide) ?_
          refine lv_goto (tgt := 71) (pc := 67) hx hb dX11_isSign_67 (by decide) ?_
          exact g_zret (pc := 71) hC hret hlk hH hS (by decide) hf dX11_isSign_71
        · have hf := gif_n hc hf
          refine lv_iload_n (pc := 24) hx hb dX11_isSign_24 rfl (lv_at hl 0 rfl) ?_
          refine lv_bipush (v := 62) (pc := 25) hx hb dX11_isSign_25 (by decide) ?_
          refine lv_icmp_eq (tgt := 66) (pc := 27) hx hb dX11_isSign_27 (by decide) (fun hc => ?_) (fun hc => ?_)
          · have hf := gif_p hc hf
            refine lv_iconst (v := 1) (pc := 66) hx hb dX11_isSign_66 (by decide) ?_
            refine lv_goto (tgt := 71) (pc := 67) hx hb dX11_isSign_67 (by decide) ?_
            exact g_zret (pc := 71) hC hret hlk hH hS (by decide) hf dX11_isSign_71
          · have hf := gif_n hc hf
            refine lv_iload_n (pc := 30) hx hb dX11_isSign_30 rfl (lv_at hl 0 rfl) ?_
            refine lv_bipush (v := 61) (pc := 31) hx hb dX11_isSign_31 (by decide) ?_
            refine lv_icmp_eq (tgt := 66) (pc := 33) hx hb dX11_isSign_33 (by decide) (fun hc => ?_) (fun hc => ?_)
            · have hf := gif_p hc hf
              refine lv_iconst (v := 1) (pc := 66) hx hb dX11_isSign_66 (by decide) ?_
              refine lv_goto (tgt := 71) (pc := 67) hx hb dX11_isSign_67 (by decide) ?_
              exact g_zret (pc := 71) hC hret hlk hH hS (by decide) hf dX11_isSign_71
            · have hf := gif_n hc hf
              refine lv_iload_n (pc := 36) hx hb dX11_isSign_36 rfl (lv_at hl 0 rfl) ?_
              refine lv_bipush (v := 43) (pc := 37) hx hb dX11_isSign_37 (by decide) ?_
              refine lv_icmp_eq (tgt := 66) (pc := 39) hx hb dX11_isSign_39 (by decide) (fun hc => ?_) (fun hc => ?_)
              · have hf := gif_p hc hf
                refine lv_iconst (v := 1) (pc := 66) hx hb dX11_isSign_66 (by decide) ?_
                refine lv_goto (tgt := 71) (pc := 67) hx hb dX11_isSign_67 (by decide) ?_
                exact g_zret (pc := 71) hC hret hlk hH hS (by decide) hf dX11_isSign_71
              · have hf := gif_n hc hf
                refine lv_iload_n (pc := 42) hx hb dX11_isSign_42 rfl (lv_at hl 0 rfl) ?_
                refine lv_bipush (v := 45) (pc := 43) hx hb dX11_isSign_43 (by decide) ?_
                refine lv_icmp_eq (tgt := 66) (pc := 45) hx hb dX11_isSign_45 (by decide) (fun hc => ?_) (fun hc => ?_)
                · have hf := gif_p hc hf
                  refine lv_iconst (v := 1) (pc := 66) hx hb dX11_isSign_66 (by decide) ?_
                  refine lv_goto (tgt := 71) (pc := 67) hx hb dX11_isSign_67 (by decide) ?_
                  exact g_zret (pc := 71) hC hret hlk hH hS (by decide) hf dX11_isSign_71
                · have hf := gif_n hc hf
                  refine lv_iload_n (pc := 48) hx hb dX11_isSign_48 rfl (lv_at hl 0 rfl) ?_
                  refine lv_bipush (v := 42) (pc := 49) hx hb dX11_isSign_49 (by decide) ?_
                  refine lv_icmp_eq (tgt := 66) (pc := 51) hx hb dX11_isSign_51 (by decide) (fun hc => ?_) (fun hc => ?_)
                  · have hf := gif_p hc hf
                    refine lv_iconst (v := 1) (pc := 66) hx hb dX11_isSign_66 (by decide) ?_
                    refine lv_goto (tgt := 71) (pc := 67) hx hb dX11_isSign_67 (by decide) ?_
                    exact g_zret (pc := 71) hC hret hlk hH hS (by decide) hf dX11_isSign_71
                  · have hf := gif_n hc hf
                    refine lv_iload_n (pc := 54) hx hb dX11_isSign_54 rfl (lv_at hl 0 rfl) ?_
                    refine lv_bipush (v := 47) (pc := 55) hx hb dX11_isSign_55 (by decide) ?_
                    refine lv_icmp_eq (tgt := 66) (pc := 57) hx hb dX11_isSign_57 (by decide) (fun hc => ?_) (fun hc => ?_)
                    · have hf := gif_p hc hf
                      refine lv_iconst (v := 1) (pc := 66) hx hb dX11_isSign_66 (by decide) ?_
                      refine lv_goto (tgt := 71) (pc := 67) hx hb dX11_isSign_67 (by decide) ?_
                      exact g_zret (pc := 71) hC hret hlk hH hS (by decide) hf dX11_isSign_71
                    · have hf := gif_n hc hf
                      refine lv_iload_n (pc := 60) hx hb dX11_isSign_60 rfl (lv_at hl 0 rfl) ?_
                      refine lv_bipush (v := 37) (pc := 61) hx hb dX11_isSign_61 (by decide) ?_
                      refine lv_icmp_ne (tgt := 70) (pc := 63) hx hb dX11_isSign_63 (by decide) (fun hc => ?_) (fun hc => ?_)
                      · have hf := gif_n hc hf
                        refine lv_iconst (v := 0) (pc := 70) hx hb dX11_isSign_70 (by decide) ?_
                        exact g_zret (pc := 71) hC hret hlk hH hS (by decide) hf dX11_isSign_71
                      · have hf := gif_p hc hf
                        refine lv_iconst (v := 1) (pc := 66) hx hb dX11_isSign_66 (by decide) ?_
                        refine lv_goto (tgt := 71) (pc := 67) hx hb dX11_isSign_67 (by decide) ?_
                        exact g_zret (pc := 71) hC hret hlk hH hS (by decide) hf dX11_isSign_71
set_option maxRecDepth 100000 in
set_option maxHeartbeats 4000000 in
theorem mX11_isSign {l : Launch} {D : va_G} {cA : Nat → ClassId} {ad : Nat → Nat} {a0 : Int32}  {r : Int32} {st st' : gS} (hf : fX11_isSign a0 st = some (r, st')) : gM l yX11_isSign cX11_isSign 1 (some .boolean) 1 1 D cA ad st [.int a0] (some (.int r)) st' := by
  refine g_met (by decide) (Nat.le_of_ble_eq_true rfl) ?_
  intro p e s m args below meth c ls hC hret hlk hU hH hl
  exact bX11_isSign_0 hC hret hlk hU hf hH va_S.rf hl
def fX11_token_232   (l2 : Int32) (st : gS) : Option (gS) :=
  if (st.1 0 6) = 3 then (some st) else (some (wi st 0 4 ((st.1 0 4) + l2)))
set_option maxRecDepth 100000 in
set_option maxHeartbeats 4000000 in
theorem bX11_token_232  (hC : CallFix p m c cX11_token 3 s args lw_good RX11) (hret : meth.sig.returnType = none) (hlk : meth.locks = false) (hU : gU 1 D cA ad s)  {st' : gS}  {l2 : Int32} {st : gS} {H : Heap} {locs : List Loc} {ls : Array Slot} (hf : fX11_token_232 l2 st = some st') (hH : gP0 1 D cA ad st H) (hS : va_S (gA 1 ad) s.heap H locs) (hl : lv_has ls 3 [(0, .ref (ad 0)), (2, .int l2)]) : W p l e (gRm 2) s m args below meth c H locs 0 0 (MQ below (gQc 1 D cA ad st' none) args s 0 0 (gA 1 ad)) (F0 m 232 ls []) := by
  obtain ⟨hx, hb, hml, hown, hts⟩ := id hC
  unfold fX11_token_232 at hf
  refine lv_aload_n (pc := 232) hx hb dX11_token_232 rfl (lv_at hl 0 rfl) ?_
  refine g_get (pc := 233) (v := .int (st.1 0 6)) hC hU hH gk1_0 g_cl11 6 (by decide) kf_X11_184 rfl dX11_token_233 ?_
  refine lv_iconst (v := 3) (pc := 236) hx hb dX11_token_236 (by decide) ?_
  refine lv_icmp_eq (tgt := 250) (pc := 237) hx hb dX11_token_237 (by decide) (fun hc => ?_) (fun hc => ?_)
  · have hf := gif_p hc hf
    exact g_vret (pc := 250) hC hret hlk hH hS hf dX11_token_250
  · have hf := gif_n hc hf
    refine lv_aload_n (pc := 240) hx hb dX11_token_240 rfl (lv_at hl 0 rfl) ?_
    refine lv_dup (pc := 241) hx hb dX11_token_241 rfl ?_
    refine g_get (pc := 242) (v := .int (st.1 0 4)) hC hU hH gk1_0 g_cl11 4 (by decide) kf_X11_164 rfl dX11_token_242 ?_
    refine lv_iload_n (pc := 245) hx hb dX11_token_245 rfl (lv_at hl 1 rfl) ?_
    refine lv_iadd (pc := 246) hx hb dX11_token_246 ?_
    refine g_puti (pc := 247) hC hU hH hS gk1_0 g_cl11 4 (by decide) kf_X11_164 rfl rfl rfl rfl dX11_token_247 (fun H locs hH hS => ?_)
    exact g_vret (pc := 250) hC hret hlk hH hS hf dX11_token_250
def fX11_token_229   (l2 : Int32) (s0 : Int32) (st : gS) : Option (gS) :=
  fX11_token_232 l2 (wi st 0 6 s0)
set_option maxRecDepth 100000 in
set_option maxHeartbeats 4000000 in
theorem bX11_token_229  (hC : CallFix p m c cX11_token 3 s args lw_good RX11) (hret : meth.sig.returnType = none) (hlk : meth.locks = false) (hU : gU 1 D cA ad s)  {st' : gS}  {l2 : Int32} {s0 : Int32} {st : gS} {H : Heap} {locs : List Loc} {ls : Array Slot} (hf : fX11_token_229 l2 s0 st = some st') (hH : gP0 1 D cA ad st H) (hS : va_S (gA 1 ad) s.heap H locs) (hl : lv_has ls 3 [(0, .ref (ad 0)), (2, .int l2)]) : W p l e (gRm 2) s m args below meth c H locs 0 0 (MQ below (gQc 1 D cA ad st' none) args s 0 0 (gA 1 ad)) (F0 m 229 ls [.int s0, .ref (ad 0)]) := by
  obtain ⟨hx, hb, hml, hown, hts⟩ := id hC
  unfold fX11_token_229 at hf
  refine g_puti (pc := 229) hC hU hH hS gk1_0 g_cl11 6 (by decide) kf_X11_184 rfl rfl rfl rfl dX11_token_229 (fun H locs hH hS => ?_)
  exact bX11_token_232 hC hret hlk hU hf hH hS (lv_sub hl [0, 1] rfl)
def fX11_token_208   (l2 : Int32) (s0 : Int32) (st : gS) : Option (gS) :=
  fX11_token_232 l2 (wi st 0 6 s0)
set_option maxRecDepth 100000 in
set_option maxHeartbeats 4000000 in
theorem bX11_token_208  (hC : CallFix p m c cX11_token 3 s args lw_good RX11) (hret : meth.sig.returnType = none) (hlk : meth.locks = false) (hU : gU 1 D cA ad s)  {st' : gS}  {l2 : Int32} {s0 : Int32} {st : gS} {H : Heap} {locs : List Loc} {ls : Array Slot} (hf : fX11_token_208 l2 s0 st = some st') (hH : gP0 1 D cA ad st H) (hS : va_S (gA 1 ad) s.heap H locs) (hl : lv_has ls 3 [(0, .ref (ad 0)), (2, .int l2)]) : W p l e (gRm 2) s m args below meth c H locs 0 0 (MQ below (gQc 1 D cA ad st' none) args s 0 0 (gA 1 ad)) (F0 m 208 ls [.int s0, .ref (ad 0)]) := by
  obtain ⟨hx, hb, hml, hown, hts⟩ := id hC
  unfold fX11_token_208 at hf
  refine g_puti (pc := 208) hC hU hH hS gk1_0 g_cl11 6 (by decide) kf_X11_184 rfl rfl rfl rfl dX11_token_208 (fun H locs hH hS => ?_)
  refine lv_goto (tgt := 232) (pc := 211) hx hb dX11_token_211 (by decide) ?_
  exact bX11_token_232 hC hret hlk hU hf hH hS (lv_sub hl [0, 1] rfl)
def fX11_token_203   (l2 : Int32) (st : gS) : Option (gS) :=
  fX11_token_208 l2 3 st
set_option maxRecDepth 100000 in
set_option maxHeartbeats 4000000 in
theorem bX11_token_203  (hC : CallFix p m c cX11_token 3 s args lw_good RX11) (hret : meth.sig.returnType = none) (hlk : meth.locks = false) (hU : gU 1 D cA ad s)  {st' : gS}  {l2 : Int32} {st : gS} {H : Heap} {locs : List Loc} {ls : Array Slot} (hf : fX11_token_203 l2 st = some st') (hH : gP0 1 D cA ad st H) (hS : va_S (gA 1 ad) s.heap H locs) (hl : lv_has ls 3 [(0, .ref (ad 0)), (2, .int l2)]) : W p l e (gRm 2) s m args below meth c H locs 0 0 (MQ below (gQc 1 D cA ad st' none) args s 0 0 (gA 1 ad)) (F0 m 203 ls [.ref (ad 0)]) := by
  obtain ⟨hx, hb, hml, hown, hts⟩ := id hC
  unfold fX11_token_203 at hf
  refine lv_iconst (v := 3) (pc := 203) hx hb dX11_token_203 (by decide) ?_
  refine lv_goto (tgt := 208) (pc := 204) hx hb dX11_token_204 (by decide) ?_
  exact bX11_token_208 hC hret hlk hU hf hH hS (lv_sub hl [0, 1] rfl)
def fX11_token_144  (k144 : Int32 → gS → Option (gS)) (l2 : Int32) (st : gS) : Option (gS) :=
  (fX11_here l2 st).bind fun q144_1 => ((fX11_isDigit q144_1.1 q144_1.2).bind fun q144_2 => (if q144_2.1 = 0 then (if 4 < l2 then (fX11_token_203 l2 q144_2.2) else ((fX11_here l2 q144_2.2).bind fun q144_3 => ((fX11_isLetter q144_3.1 q144_3.2).bind fun q144_4 => (if q144_4.1 = 0 then (fX11_token_208 l2 2 q144_4.2) else (fX11_token_203 l2 q144_4.2))))) else (if 4 ≤ l2 then (k144 (l2 + 1) q144_2.2) else ((fX11_here l2 q144_2.2).bind fun q144_5 => (k144 (l2 + 1) (wi q144_5.2 0 8 (((10 * (q144_2.2.1 0 8)) + q144_5.1) - 48)))))))
set_option maxRecDepth 100000 in
set_option maxHeartbeats 4000000 in
theorem bX11_token_144  (hC : CallFix p m c cX11_token 3 s args lw_good RX11) (hret : meth.sig.returnType = none) (hlk : meth.locks = false) (hU : gU 1 D cA ad s)  {st' : gS} {k144 : Int32 → gS → Option (gS)} (hk144 : ∀ {l2 : Int32} {st : gS} {H : Heap} {locs : List Loc} {ls : Array Slot}, k144 l2 st = some st' → gP0 1 D cA ad st H → va_S (gA 1 ad) s.heap H locs → lv_has ls 3 [(0, .ref (ad 0)), (2, .int l2)] → W p l e (gRm 2) s m args below meth c H locs 0 0 (MQ below (gQc 1 D cA ad st' none) args s 0 0 (gA 1 ad)) (F0 m 144 ls [])) {l2 : Int32} {st : gS} {H : Heap} {locs : List Loc} {ls : Array Slot} (hf : fX11_token_144 k144 l2 st = some st') (hH : gP0 1 D cA ad st H) (hS : va_S (gA 1 ad) s.heap H locs) (hl : lv_has ls 3 [(0, .ref (ad 0)), (2, .int l2)]) : W p l e (gRm 2) s m args below meth c H locs 0 0 (MQ below (gQc 1 D cA ad st' none) args s 0 0 (gA 1 ad)) (F0 m 144 ls []) := by
  obtain ⟨hx, hb, hml, hown, hts⟩ := id hC
  unfold fX11_token_144 at hf
  refine lv_aload_n (pc := 144) hx hb dX11_token_144 rfl (lv_at hl 0 rfl) ?_
  refine lv_iload_n (pc := 145) hx hb dX11_token_145 rfl (lv_at hl 1 rfl) ?_
  obtain ⟨q144_1, hq144_1, hf⟩ := gbd hf
  refine g_callVi (pc := 146) (rest := []) hC hU hH hS hl.1 gk1_0 rfl (by decide) (mX11_here  hq144_1) ky_X11_here km_X11_170 ⟨Nat.le_of_ble_eq_true rfl, Nat.le_of_ble_eq_true rfl⟩ ⟨Nat.zero_le _, Nat.zero_le _⟩ rfl (Nat.le_of_ble_eq_true rfl) dX11_token_146 rfl (fun H locs hH hS => ?_)
  obtain ⟨q144_2, hq144_2, hf⟩ := gbd hf
  refine g_callSi (pc := 149) (rest := []) hC hU hH hS hl.1 (mX11_isDigit  hq144_2) ky_X11_isDigit km_X11_191 ⟨Nat.le_of_ble_eq_true rfl, Nat.le_of_ble_eq_true rfl⟩ ⟨Nat.zero_le _, Nat.zero_le _⟩ rfl (Nat.le_of_ble_eq_true rfl) dX11_token_149 rfl (fun H locs hH hS => ?_)
  refine lv_if_eq (tgt := 186) (pc := 152) hx hb dX11_token_152 (by decide) (fun hc => ?_) (fun hc => ?_)
  · have hf := gif_p hc hf
    refine lv_aload_n (pc := 186) hx hb dX11_token_186 rfl (lv_at hl 0 rfl) ?_
    refine lv_iload_n (pc := 187) hx hb dX11_token_187 rfl (lv_at hl 1 rfl) ?_
    refine lv_iconst (v := 4) (pc := 188) hx hb dX11_token_188 (by decide) ?_
    refine lv_icmp_gt (tgt := 203) (pc := 189) hx hb dX11_token_189 (by decide) (fun hc => ?_) (fun hc => ?_)
    · have hf := gif_p hc hf
      exact bX11_token_203 hC hret hlk hU hf hH hS (lv_sub hl [0, 1] rfl)
    · have hf := gif_n hc hf
      refine lv_aload_n (pc := 192) hx hb dX11_token_192 rfl (lv_at hl 0 rfl) ?_
      refine lv_iload_n (pc := 193) hx hb dX11_token_193 rfl (lv_at hl 1 rfl) ?_
      obtain ⟨q144_3, hq144_3, hf⟩ := gbd hf
      refine g_callVi (pc := 194) (rest := [.ref (ad 0)]) hC hU hH hS hl.1 gk1_0 rfl (by decide) (mX11_here  hq144_3) ky_X11_here km_X11_170 ⟨Nat.le_of_ble_eq_true rfl, Nat.le_of_ble_eq_true rfl⟩ ⟨Nat.zero_le _, Nat.zero_le _⟩ rfl (Nat.le_of_ble_eq_true rfl) dX11_token_194 rfl (fun H locs hH hS => ?_)
      obtain ⟨q144_4, hq144_4, hf⟩ := gbd hf
      refine g_callSi (pc := 197) (rest := [.ref (ad 0)]) hC hU hH hS hl.1 (mX11_isLetter  hq144_4) ky_X11_isLetter km_X11_187 ⟨Nat.le_of_ble_eq_true rfl, Nat.le_of_ble_eq_true rfl⟩ ⟨Nat.zero_le _, Nat.zero_le _⟩ rfl (Nat.le_of_ble_eq_true rfl) dX11_token_197 rfl (fun H locs hH hS => ?_)
      refine lv_if_eq (tgt := 207) (pc := 200) hx hb dX11_token_200 (by decide) (fun hc => ?_) (fun hc => ?_)
      · have hf := gif_p hc hf
        refine lv_iconst (v := 2) (pc := 207) hx hb dX11_token_207 (by decide) ?_
        exact bX11_token_208 hC hret hlk hU hf hH hS (lv_sub hl [0, 1] rfl)
      · have hf := gif_n hc hf
        exact bX11_token_203 hC hret hlk hU hf hH hS (lv_sub hl [0, 1] rfl)
  · have hf := gif_n hc hf
    refine lv_iload_n (pc := 155) hx hb dX11_token_155 rfl (lv_at hl 1 rfl) ?_
    refine lv_iconst (v := 4) (pc := 156) hx hb dX11_token_156 (by decide) ?_
    refine lv_icmp_ge (tgt := 180) (pc := 157) hx hb dX11_token_157 (by decide) (fun hc => ?_) (fun hc => ?_)
    · have hf := gif_p hc hf
      refine lv_iinc (v := l2 + 1) (lv' := [(2, .int (l2 + 1)), (0, .ref (ad 0))]) (k := 1) (pc := 180) hx hb dX11_token_180 hl rfl rfl (by decide) rfl (fun ls hl => ?_)
      refine lv_goto (tgt := 144) (pc := 183) hx hb dX11_token_183 (by decide) ?_
      exact hk144 hf hH hS (lv_sub hl [1, 0] rfl)
    · have hf := gif_n hc hf
      refine lv_aload_n (pc := 160) hx hb dX11_token_160 rfl (lv_at hl 0 rfl) ?_
      refine lv_bipush (v := 10) (pc := 161) hx hb dX11_token_161 (by decide) ?_
      refine lv_aload_n (pc := 163) hx hb dX11_token_163 rfl (lv_at hl 0 rfl) ?_
      refine g_get (pc := 164) (v := .int (q144_2.2.1 0 8)) hC hU hH gk1_0 g_cl11 8 (by decide) kf_X11_181 rfl dX11_token_164 ?_
      refine lv_imul (pc := 167) hx hb dX11_token_167 ?_
      refine lv_aload_n (pc := 168) hx hb dX11_token_168 rfl (lv_at hl 0 rfl) ?_
      refine lv_iload_n (pc := 169) hx hb dX11_token_169 rfl (lv_at hl 1 rfl) ?_
      obtain ⟨q144_5, hq144_5, hf⟩ := gbd hf
      refine g_callVi (pc := 170) (rest := [.int (10 * (q144_2.2.1 0 8)), .ref (ad 0)]) hC hU hH hS hl.1 gk1_0 rfl (by decide) (mX11_here  hq144_5) ky_X11_here km_X11_170 ⟨Nat.le_of_ble_eq_true rfl, Nat.le_of_ble_eq_true rfl⟩ ⟨Nat.zero_le _, Nat.zero_le _⟩ rfl (Nat.le_of_ble_eq_true rfl) dX11_token_170 rfl (fun H locs hH hS => ?_)
      refine lv_iadd (pc := 173) hx hb dX11_token_173 ?_
      refine lv_bipush (v := 48) (pc := 174) hx hb dX11_token_174 (by decide) ?_
      refine lv_isub (pc := 176) hx hb dX11_token_176 ?_
      refine g_puti (pc := 177) hC hU hH hS gk1_0 g_cl11 8 (by decide) kf_X11_181 rfl rfl rfl rfl dX11_token_177 (fun H locs hH hS => ?_)
      refine lv_iinc (v := l2 + 1) (lv' := [(2, .int (l2 + 1)), (0, .ref (ad 0))]) (k := 1) (pc := 180) hx hb dX11_token_180 hl rfl rfl (by decide) rfl (fun ls hl => ?_)
      refine lv_goto (tgt := 144) (pc := 183) hx hb dX11_token_183 (by decide) ?_
      exact hk144 hf hH hS (lv_sub hl [1, 0] rfl)
def hX11_token_144   : Nat → Int32 → gS → Option (gS)
  | 0 => fun _ _ => none
  | n + 1 => fun l2 st => fX11_token_144 (hX11_token_144  n) l2 st
set_option maxRecDepth 100000 in
set_option maxHeartbeats 4000000 in
theorem wX11_token_144  (hC : CallFix p m c cX11_token 3 s args lw_good RX11) (hret : meth.sig.returnType = none) (hlk : meth.locks = false) (hU : gU 1 D cA ad s)  {st' : gS}  : ∀ (n : Nat) {l2 : Int32} {st : gS} {H : Heap} {locs : List Loc} {ls : Array Slot}, hX11_token_144  n l2 st = some st' → gP0 1 D cA ad st H → va_S (gA 1 ad) s.heap H locs → lv_has ls 3 [(0, .ref (ad 0)), (2, .int l2)] → W p l e (gRm 2) s m args below meth c H locs 0 0 (MQ below (gQc 1 D cA ad st' none) args s 0 0 (gA 1 ad)) (F0 m 144 ls []) := by
  intro n
  induction n with
  | zero => intro l2 st H locs ls hf hH hS hl; cases hf
  | succ n ih =>
    intro l2 st H locs ls hf hH hS hl
    exact bX11_token_144  hC hret hlk hU (fun hf hH hS hl => ih hf hH hS hl) hf hH hS hl
def fX11_token_131   (l2 : Int32) (s0 : Int32) (st : gS) : Option (gS) :=
  fX11_token_232 l2 (wi st 0 6 s0)
set_option maxRecDepth 100000 in
set_option maxHeartbeats 4000000 in
theorem bX11_token_131  (hC : CallFix p m c cX11_token 3 s args lw_good RX11) (hret : meth.sig.returnType = none) (hlk : meth.locks = false) (hU : gU 1 D cA ad s)  {st' : gS}  {l2 : Int32} {s0 : Int32} {st : gS} {H : Heap} {locs : List Loc} {ls : Array Slot} (hf : fX11_token_131 l2 s0 st = some st') (hH : gP0 1 D cA ad st H) (hS : va_S (gA 1 ad) s.heap H locs) (hl : lv_has ls 3 [(0, .ref (ad 0)), (2, .int l2)]) : W p l e (gRm 2) s m args below meth c H locs 0 0 (MQ below (gQc 1 D cA ad st' none) args s 0 0 (gA 1 ad)) (F0 m 131 ls [.int s0, .ref (ad 0)]) := by
  obtain ⟨hx, hb, hml, hown, hts⟩ := id hC
  unfold fX11_token_131 at hf
  refine g_puti (pc := 131) hC hU hH hS gk1_0 g_cl11 6 (by decide) kf_X11_184 rfl rfl rfl rfl dX11_token_131 (fun H locs hH hS => ?_)
  refine lv_goto (tgt := 232) (pc := 134) hx hb dX11_token_134 (by decide) ?_
  exact bX11_token_232 hC hret hlk hU hf hH hS (lv_sub hl [0, 1] rfl)
def fX11_token_78  (k78 : Int32 → gS → Option (gS)) (l2 : Int32) (st : gS) : Option (gS) :=
  (fX11_here l2 st).bind fun q78_1 => ((fX11_isLetter q78_1.1 q78_1.2).bind fun q78_2 => (if q78_2.1 = 0 then (if l2 ≤ 8 then (fX11_token_131 l2 1 q78_2.2) else (fX11_token_131 l2 3 q78_2.2)) else (if 8 ≤ l2 then (k78 (l2 + 1) q78_2.2) else ((fX11_here l2 q78_2.2).bind fun q78_3 => (k78 (l2 + 1) (wl q78_3.2 0 9 (((q78_2.2.2.1 0 9) <<< ((8 : Int32).toInt64 &&& 63)) ||| q78_3.1.toInt64)))))))
set_option maxRecDepth 100000 in
set_option maxHeartbeats 4000000 in
theorem bX11_token_78  (hC : CallFix p m c cX11_token 3 s args lw_good RX11) (hret : meth.sig.returnType = none) (hlk : meth.locks = false) (hU : gU 1 D cA ad s)  {st' : gS} {k78 : Int32 → gS → Option (gS)} (hk78 : ∀ {l2 : Int32} {st : gS} {H : Heap} {locs : List Loc} {ls : Array Slot}, k78 l2 st = some st' → gP0 1 D cA ad st H → va_S (gA 1 ad) s.heap H locs → lv_has ls 3 [(0, .ref (ad 0)), (2, .int l2)] → W p l e (gRm 2) s m args below meth c H locs 0 0 (MQ below (gQc 1 D cA ad st' none) args s 0 0 (gA 1 ad)) (F0 m 78 ls [])) {l2 : Int32} {st : gS} {H : Heap} {locs : List Loc} {ls : Array Slot} (hf : fX11_token_78 k78 l2 st = some st') (hH : gP0 1 D cA ad st H) (hS : va_S (gA 1 ad) s.heap H locs) (hl : lv_has ls 3 [(0, .ref (ad 0)), (2, .int l2)]) : W p l e (gRm 2) s m args below meth c H locs 0 0 (MQ below (gQc 1 D cA ad st' none) args s 0 0 (gA 1 ad)) (F0 m 78 ls []) := by
  obtain ⟨hx, hb, hml, hown, hts⟩ := id hC
  unfold fX11_token_78 at hf
  refine lv_aload_n (pc := 78) hx hb dX11_token_78 rfl (lv_at hl 0 rfl) ?_
  refine lv_iload_n (pc := 79) hx hb dX11_token_79 rfl (lv_at hl 1 rfl) ?_
  obtain ⟨q78_1, hq78_1, hf⟩ := gbd hf
  refine g_callVi (pc := 80) (rest := []) hC hU hH hS hl.1 gk1_0 rfl (by decide) (mX11_here  hq78_1) ky_X11_here km_X11_170 ⟨Nat.le_of_ble_eq_true rfl, Nat.le_of_ble_eq_true rfl⟩ ⟨Nat.zero_le _, Nat.zero_le _⟩ rfl (Nat.le_of_ble_eq_true rfl) dX11_token_80 rfl (fun H locs hH hS => ?_)
  obtain ⟨q78_2, hq78_2, hf⟩ := gbd hf
  refine g_callSi (pc := 83) (rest := []) hC hU hH hS hl.1 (mX11_isLetter  hq78_2) ky_X11_isLetter km_X11_187 ⟨Nat.le_of_ble_eq_true rfl, Nat.le_of_ble_eq_true rfl⟩ ⟨Nat.zero_le _, Nat.zero_le _⟩ rfl (Nat.le_of_ble_eq_true rfl) dX11_token_83 rfl (fun H locs hH hS => ?_)
  refine lv_if_eq (tgt := 119) (pc := 86) hx hb dX11_token_86 (by decide) (fun hc => ?_) (fun hc => ?_)
  · have hf := gif_p hc hf
    refine lv_aload_n (pc := 119) hx hb dX11_token_119 rfl (lv_at hl 0 rfl) ?_
    refine lv_iload_n (pc := 120) hx hb dX11_token_120 rfl (lv_at hl 1 rfl) ?_
    refine lv_bipush (v := 8) (pc := 121) hx hb dX11_token_121 (by decide) ?_
    refine lv_icmp_le (tgt := 130) (pc := 123) hx hb dX11_token_123 (by decide) (fun hc => ?_) (fun hc => ?_)
    · have hf := gif_p hc hf
      refine lv_iconst (v := 1) (pc := 130) hx hb dX11_token_130 (by decide) ?_
      exact bX11_token_131 hC hret hlk hU hf hH hS (lv_sub hl [0, 1] rfl)
    · have hf := gif_n hc hf
      refine lv_iconst (v := 3) (pc := 126) hx hb dX11_token_126 (by decide) ?_
      refine lv_goto (tgt := 131) (pc := 127) hx hb dX11_token_127 (by decide) ?_
      exact bX11_token_131 hC hret hlk hU hf hH hS (lv_sub hl [0, 1] rfl)
  · have hf := gif_n hc hf
    refine lv_iload_n (pc := 89) hx hb dX11_token_89 rfl (lv_at hl 1 rfl) ?_
    refine lv_bipush (v := 8) (pc := 90) hx hb dX11_token_90 (by decide) ?_
    refine lv_icmp_ge (tgt := 113) (pc := 92) hx hb dX11_token_92 (by decide) (fun hc => ?_) (fun hc => ?_)
    · have hf := gif_p hc hf
      refine lv_iinc (v := l2 + 1) (lv' := [(2, .int (l2 + 1)), (0, .ref (ad 0))]) (k := 1) (pc := 113) hx hb dX11_token_113 hl rfl rfl (by decide) rfl (fun ls hl => ?_)
      refine lv_goto (tgt := 78) (pc := 116) hx hb dX11_token_116 (by decide) ?_
      exact hk78 hf hH hS (lv_sub hl [1, 0] rfl)
    · have hf := gif_n hc hf
      refine lv_aload_n (pc := 95) hx hb dX11_token_95 rfl (lv_at hl 0 rfl) ?_
      refine lv_aload_n (pc := 96) hx hb dX11_token_96 rfl (lv_at hl 0 rfl) ?_
      refine g_get (pc := 97) (v := .long (q78_2.2.2.1 0 9)) hC hU hH gk1_0 g_cl11 9 (by decide) kf_X11_177 rfl dX11_token_97 ?_
      refine lv_bipush (v := 8) (pc := 100) hx hb dX11_token_100 (by decide) ?_
      refine lv_lshl (pc := 102) hx hb dX11_token_102 rfl ?_
      refine lv_aload_n (pc := 103) hx hb dX11_token_103 rfl (lv_at hl 0 rfl) ?_
      refine lv_iload_n (pc := 104) hx hb dX11_token_104 rfl (lv_at hl 1 rfl) ?_
      obtain ⟨q78_3, hq78_3, hf⟩ := gbd hf
      refine g_callVi (pc := 105) (rest := [.long ((q78_2.2.2.1 0 9) <<< ((8 : Int32).toInt64 &&& 63)), .ref (ad 0)]) hC hU hH hS hl.1 gk1_0 rfl (by decide) (mX11_here  hq78_3) ky_X11_here km_X11_170 ⟨Nat.le_of_ble_eq_true rfl, Nat.le_of_ble_eq_true rfl⟩ ⟨Nat.zero_le _, Nat.zero_le _⟩ rfl (Nat.le_of_ble_eq_true rfl) dX11_token_105 rfl (fun H locs hH hS => ?_)
      refine lv_i2l (pc := 108) hx hb dX11_token_108 rfl ?_
      refine lv_lor (pc := 109) hx hb dX11_token_109 ?_
      refine g_putl (pc := 110) hC hU hH hS gk1_0 g_cl11 9 (by decide) kf_X11_177 rfl rfl rfl rfl dX11_token_110 (fun H locs hH hS => ?_)
      refine lv_iinc (v := l2 + 1) (lv' := [(2, .int (l2 + 1)), (0, .ref (ad 0))]) (k := 1) (pc := 113) hx hb dX11_token_113 hl rfl rfl (by decide) rfl (fun ls hl => ?_)
      refine lv_goto (tgt := 78) (pc := 116) hx hb dX11_token_116 (by decide) ?_
      exact hk78 hf hH hS (lv_sub hl [1, 0] rfl)
def hX11_token_78   : Nat → Int32 → gS → Option (gS)
  | 0 => fun _ _ => none
  | n + 1 => fun l2 st => fX11_token_78 (hX11_token_78  n) l2 st
set_option maxRecDepth 100000 in
set_option maxHeartbeats 4000000 in
theorem wX11_token_78  (hC : CallFix p m c cX11_token 3 s args lw_good RX11) (hret : meth.sig.returnType = none) (hlk : meth.locks = false) (hU : gU 1 D cA ad s)  {st' : gS}  : ∀ (n : Nat) {l2 : Int32} {st : gS} {H : Heap} {locs : List Loc} {ls : Array Slot}, hX11_token_78  n l2 st = some st' → gP0 1 D cA ad st H → va_S (gA 1 ad) s.heap H locs → lv_has ls 3 [(0, .ref (ad 0)), (2, .int l2)] → W p l e (gRm 2) s m args below meth c H locs 0 0 (MQ below (gQc 1 D cA ad st' none) args s 0 0 (gA 1 ad)) (F0 m 78 ls []) := by
  intro n
  induction n with
  | zero => intro l2 st H locs ls hf hH hS hl; cases hf
  | succ n ih =>
    intro l2 st H locs ls hf hH hS hl
    exact bX11_token_78  hC hret hlk hU (fun hf hH hS hl => ih hf hH hS hl) hf hH hS hl
def fX11_token_20  (k0 : gS → Option (gS))  (st : gS) : Option (gS) :=
  k0 (wi st 0 4 ((st.1 0 4) + 1))
set_option maxRecDepth 100000 in
set_option maxHeartbeats 4000000 in
theorem bX11_token_20  (hC : CallFix p m c cX11_token 3 s args lw_good RX11) (hret : meth.sig.returnType = none) (hlk : meth.locks = false) (hU : gU 1 D cA ad s)  {st' : gS} {k0 : gS → Option (gS)} (hk0 : ∀  {st : gS} {H : Heap} {locs : List Loc} {ls : Array Slot}, k0  st = some st' → gP0 1 D cA ad st H → va_S (gA 1 ad) s.heap H locs → lv_has ls 3 [(0, .ref (ad 0))] → W p l e (gRm 2) s m args below meth c H locs 0 0 (MQ below (gQc 1 D cA ad st' none) args s 0 0 (gA 1 ad)) (F0 m 0 ls []))  {st : gS} {H : Heap} {locs : List Loc} {ls : Array Slot} (hf : fX11_token_20 k0 st = some st') (hH : gP0 1 D cA ad st H) (hS : va_S (gA 1 ad) s.heap H locs) (hl : lv_has ls 3 [(0, .ref (ad 0))]) : W p l e (gRm 2) s m args below meth c H locs 0 0 (MQ below (gQc 1 D cA ad st' none) args s 0 0 (gA 1 ad)) (F0 m 20 ls []) := by
  obtain ⟨hx, hb, hml, hown, hts⟩ := id hC
  unfold fX11_token_20 at hf
  refine lv_aload_n (pc := 20) hx hb dX11_token_20 rfl (lv_at hl 0 rfl) ?_
  refine lv_dup (pc := 21) hx hb dX11_token_21 rfl ?_
  refine g_get (pc := 22) (v := .int (st.1 0 4)) hC hU hH gk1_0 g_cl11 4 (by decide) kf_X11_164 rfl dX11_token_22 ?_
  refine lv_iconst (v := 1) (pc := 25) hx hb dX11_token_25 (by decide) ?_
  refine lv_iadd (pc := 26) hx hb dX11_token_26 ?_
  refine g_puti (pc := 27) hC hU hH hS gk1_0 g_cl11 4 (by decide) kf_X11_164 rfl rfl rfl rfl dX11_token_27 (fun H locs hH hS => ?_)
  refine lv_goto (tgt := 0) (pc := 30) hx hb dX11_token_30 (by decide) ?_
  exact hk0 hf hH hS (lv_sub hl [0] rfl)
def fX11_token_0  (k0 : gS → Option (gS))  (st : gS) : Option (gS) :=
  (fX11_here 0 st).bind fun q0_1 => (if q0_1.1 = 32 then (fX11_token_20 k0 q0_1.2) else ((fX11_here 0 q0_1.2).bind fun q0_2 => (if q0_2.1 = 10 then (fX11_token_20 k0 q0_2.2) else ((fX11_here 0 (wi q0_2.2 0 7 (q0_2.2.1 0 4))).bind fun q0_3 => (if 0 ≤ q0_3.1 then ((fX11_isLetter q0_3.1 (wi (wl q0_3.2 0 9 0) 0 8 0)).bind fun q0_4 => (if q0_4.1 = 0 then ((fX11_isDigit q0_3.1 q0_4.2).bind fun q0_5 => (if q0_5.1 = 0 then ((fX11_isSign q0_3.1 q0_5.2).bind fun q0_6 => (if q0_6.1 = 0 then (fX11_token_229 1 3 q0_6.2) else (fX11_token_229 1 q0_3.1 q0_6.2))) else (hX11_token_144 FU 0 q0_5.2))) else (hX11_token_78 FU 0 q0_4.2))) else (fX11_token_232 0 (wi (wi (wl q0_3.2 0 9 0) 0 8 0) 0 6 0)))))))
set_option maxRecDepth 100000 in
set_option maxHeartbeats 4000000 in
theorem bX11_token_0  (hC : CallFix p m c cX11_token 3 s args lw_good RX11) (hret : meth.sig.returnType = none) (hlk : meth.locks = false) (hU : gU 1 D cA ad s)  {st' : gS} {k0 : gS → Option (gS)} (hk0 : ∀  {st : gS} {H : Heap} {locs : List Loc} {ls : Array Slot}, k0  st = some st' → gP0 1 D cA ad st H → va_S (gA 1 ad) s.heap H locs → lv_has ls 3 [(0, .ref (ad 0))] → W p l e (gRm 2) s m args below meth c H locs 0 0 (MQ below (gQc 1 D cA ad st' none) args s 0 0 (gA 1 ad)) (F0 m 0 ls []))  {st : gS} {H : Heap} {locs : List Loc} {ls : Array Slot} (hf : fX11_token_0 k0 st = some st') (hH : gP0 1 D cA ad st H) (hS : va_S (gA 1 ad) s.heap H locs) (hl : lv_has ls 3 [(0, .ref (ad 0))]) : W p l e (gRm 2) s m args below meth c H locs 0 0 (MQ below (gQc 1 D cA ad st' none) args s 0 0 (gA 1 ad)) (F0 m 0 ls []) := by
  obtain ⟨hx, hb, hml, hown, hts⟩ := id hC
  unfold fX11_token_0 at hf
  refine lv_aload_n (pc := 0) hx hb dX11_token_0 rfl (lv_at hl 0 rfl) ?_
  refine lv_iconst (v := 0) (pc := 1) hx hb dX11_token_1 (by decide) ?_
  obtain ⟨q0_1, hq0_1, hf⟩ := gbd hf
  refine g_callVi (pc := 2) (rest := []) hC hU hH hS hl.1 gk1_0 rfl (by decide) (mX11_here  hq0_1) ky_X11_here km_X11_170 ⟨Nat.le_of_ble_eq_true rfl, Nat.le_of_ble_eq_true rfl⟩ ⟨Nat.zero_le _, Nat.zero_le _⟩ rfl (Nat.le_of_ble_eq_true rfl) dX11_token_2 rfl (fun H locs hH hS => ?_)
  refine lv_bipush (v := 32) (pc := 5) hx hb dX11_token_5 (by decide) ?_
  refine lv_icmp_eq (tgt := 20) (pc := 7) hx hb dX11_token_7 (by decide) (fun hc => ?_) (fun hc => ?_)
  · have hf := gif_p hc hf
    exact bX11_token_20 hC hret hlk hU hk0 hf hH hS (lv_sub hl [0] rfl)
  · have hf := gif_n hc hf
    refine lv_aload_n (pc := 10) hx hb dX11_token_10 rfl (lv_at hl 0 rfl) ?_
    refine lv_iconst (v := 0) (pc := 11) hx hb dX11_token_11 (by decide) ?_
    obtain ⟨q0_2, hq0_2, hf⟩ := gbd hf
    refine g_callVi (pc := 12) (rest := []) hC hU hH hS hl.1 gk1_0 rfl (by decide) (mX11_here  hq0_2) ky_X11_here km_X11_170 ⟨Nat.le_of_ble_eq_true rfl, Nat.le_of_ble_eq_true rfl⟩ ⟨Nat.zero_le _, Nat.zero_le _⟩ rfl (Nat.le_of_ble_eq_true rfl) dX11_token_12 rfl (fun H locs hH hS => ?_)
    refine lv_bipush (v := 10) (pc := 15) hx hb dX11_token_15 (by decide) ?_
    refine lv_icmp_ne (tgt := 33) (pc := 17) hx hb dX11_token_17 (by decide) (fun hc => ?_) (fun hc => ?_)
    · have hf := gif_n hc hf
      refine lv_aload_n (pc := 33) hx hb dX11_token_33 rfl (lv_at hl 0 rfl) ?_
      refine lv_aload_n (pc := 34) hx hb dX11_token_34 rfl (lv_at hl 0 rfl) ?_
      refine g_get (pc := 35) (v := .int (q0_2.2.1 0 4)) hC hU hH gk1_0 g_cl11 4 (by decide) kf_X11_164 rfl dX11_token_35 ?_
      refine g_puti (pc := 38) hC hU hH hS gk1_0 g_cl11 7 (by decide) kf_X11_174 rfl rfl rfl rfl dX11_token_38 (fun H locs hH hS => ?_)
      refine lv_aload_n (pc := 41) hx hb dX11_token_41 rfl (lv_at hl 0 rfl) ?_
      refine lv_iconst (v := 0) (pc := 42) hx hb dX11_token_42 (by decide) ?_
      obtain ⟨q0_3, hq0_3, hf⟩ := gbd hf
      refine g_callVi (pc := 43) (rest := []) hC hU hH hS hl.1 gk1_0 rfl (by decide) (mX11_here  hq0_3) ky_X11_here km_X11_170 ⟨Nat.le_of_ble_eq_true rfl, Nat.le_of_ble_eq_true rfl⟩ ⟨Nat.zero_le _, Nat.zero_le _⟩ rfl (Nat.le_of_ble_eq_true rfl) dX11_token_43 rfl (fun H locs hH hS => ?_)
      refine lv_istore_n (lv' := [(1, .int q0_3.1), (0, .ref (ad 0))]) (pc := 46) hx hb dX11_token_46 rfl hl (by decide) rfl (fun ls hl => ?_)
      refine lv_iconst (v := 0) (pc := 47) hx hb dX11_token_47 (by decide) ?_
      refine lv_istore_n (lv' := [(2, .int 0), (1, .int q0_3.1), (0, .ref (ad 0))]) (pc := 48) hx hb dX11_token_48 rfl hl (by decide) rfl (fun ls hl => ?_)
      refine lv_aload_n (pc := 49) hx hb dX11_token_49 rfl (lv_at hl 2 rfl) ?_
      refine lv_lconst (v := 0) (pc := 50) hx hb dX11_token_50 (by decide) ?_
      refine g_putl (pc := 51) hC hU hH hS gk1_0 g_cl11 9 (by decide) kf_X11_177 rfl rfl rfl rfl dX11_token_51 (fun H locs hH hS => ?_)
      refine lv_aload_n (pc := 54) hx hb dX11_token_54 rfl (lv_at hl 2 rfl) ?_
      refine lv_iconst (v := 0) (pc := 55) hx hb dX11_token_55 (by decide) ?_
      refine g_puti (pc := 56) hC hU hH hS gk1_0 g_cl11 8 (by decide) kf_X11_181 rfl rfl rfl rfl dX11_token_56 (fun H locs hH hS => ?_)
      refine lv_iload_n (pc := 59) hx hb dX11_token_59 rfl (lv_at hl 1 rfl) ?_
      refine lv_if_ge (tgt := 71) (pc := 60) hx hb dX11_token_60 (by decide) (fun hc => ?_) (fun hc => ?_)
      · have hf := gif_p hc hf
        refine lv_iload_n (pc := 71) hx hb dX11_token_71 rfl (lv_at hl 1 rfl) ?_
        obtain ⟨q0_4, hq0_4, hf⟩ := gbd hf
        refine g_callSi (pc := 72) (rest := []) hC hU hH hS hl.1 (mX11_isLetter  hq0_4) ky_X11_isLetter km_X11_187 ⟨Nat.le_of_ble_eq_true rfl, Nat.le_of_ble_eq_true rfl⟩ ⟨Nat.zero_le _, Nat.zero_le _⟩ rfl (Nat.le_of_ble_eq_true rfl) dX11_token_72 rfl (fun H locs hH hS => ?_)
        refine lv_if_eq (tgt := 137) (pc := 75) hx hb dX11_token_75 (by decide) (fun hc => ?_) (fun hc => ?_)
        · have hf := gif_p hc hf
          refine lv_iload_n (pc := 137) hx hb dX11_token_137 rfl (lv_at hl 1 rfl) ?_
          obtain ⟨q0_5, hq0_5, hf⟩ := gbd hf
          refine g_callSi (pc := 138) (rest := []) hC hU hH hS hl.1 (mX11_isDigit  hq0_5) ky_X11_isDigit km_X11_191 ⟨Nat.le_of_ble_eq_true rfl, Nat.le_of_ble_eq_true rfl⟩ ⟨Nat.zero_le _, Nat.zero_le _⟩ rfl (Nat.le_of_ble_eq_true rfl) dX11_token_138 rfl (fun H locs hH hS => ?_)
          refine lv_if_eq (tgt := 214) (pc := 141) hx hb dX11_token_141 (by decide) (fun hc => ?_) (fun hc => ?_)
          · have hf := gif_p hc hf
            refine lv_iconst (v := 1) (pc := 214) hx hb dX11_token_214 (by decide) ?_
            refine lv_istore_n (lv' := [(2, .int 1), (1, .int q0_3.1), (0, .ref (ad 0))]) (pc := 215) hx hb dX11_token_215 rfl hl (by decide) rfl (fun ls hl => ?_)
            refine lv_aload_n (pc := 216) hx hb dX11_token_216 rfl (lv_at hl 2 rfl) ?_
            refine lv_iload_n (pc := 217) hx hb dX11_token_217 rfl (lv_at hl 1 rfl) ?_
            obtain ⟨q0_6, hq0_6, hf⟩ := gbd hf
            refine g_callSi (pc := 218) (rest := [.ref (ad 0)]) hC hU hH hS hl.1 (mX11_isSign  hq0_6) ky_X11_isSign km_X11_194 ⟨Nat.le_of_ble_eq_true rfl, Nat.le_of_ble_eq_true rfl⟩ ⟨Nat.zero_le _, Nat.zero_le _⟩ rfl (Nat.le_of_ble_eq_true rfl) dX11_token_218 rfl (fun H locs hH hS => ?_)
            refine lv_if_eq (tgt := 228) (pc := 221) hx hb dX11_token_221 (by decide) (fun hc => ?_) (fun hc => ?_)
            · have hf := gif_p hc hf
              refine lv_iconst (v := 3) (pc := 228) hx hb dX11_token_228 (by decide) ?_
              exact bX11_token_229 hC hret hlk hU hf hH hS (lv_sub hl [2, 0] rfl)
            · have hf := gif_n hc hf
              refine lv_iload_n (pc := 224) hx hb dX11_token_224 rfl (lv_at hl 1 rfl) ?_
              refine lv_goto (tgt := 229) (pc := 225) hx hb dX11_token_225 (by decide) ?_
              exact bX11_token_229 hC hret hlk hU hf hH hS (lv_sub hl [2, 0] rfl)
          · have hf := gif_n hc hf
            exact wX11_token_144 hC hret hlk hU FU hf hH hS (lv_sub hl [2, 0] rfl)
        · have hf := gif_n hc hf
          exact wX11_token_78 hC hret hlk hU FU hf hH hS (lv_sub hl [2, 0] rfl)
      · have hf := gif_n hc hf
        refine lv_aload_n (pc := 63) hx hb dX11_token_63 rfl (lv_at hl 2 rfl) ?_
        refine lv_iconst (v := 0) (pc := 64) hx hb dX11_token_64 (by decide) ?_
        refine g_puti (pc := 65) hC hU hH hS gk1_0 g_cl11 6 (by decide) kf_X11_184 rfl rfl rfl rfl dX11_token_65 (fun H locs hH hS => ?_)
        refine lv_goto (tgt := 232) (pc := 68) hx hb dX11_token_68 (by decide) ?_
        exact bX11_token_232 hC hret hlk hU hf hH hS (lv_sub hl [2, 0] rfl)
    · have hf := gif_p hc hf
      exact bX11_token_20 hC hret hlk hU hk0 hf hH hS (lv_sub hl [0] rfl)
def hX11_token_0   : Nat → gS → Option (gS)
  | 0 => fun _ => none
  | n + 1 => fun  st => fX11_token_0 (hX11_token_0  n) st
set_option maxRecDepth 100000 in
set_option maxHeartbeats 4000000 in
theorem wX11_token_0  (hC : CallFix p m c cX11_token 3 s args lw_good RX11) (hret : meth.sig.returnType = none) (hlk : meth.locks = false) (hU : gU 1 D cA ad s)  {st' : gS}  : ∀ (n : Nat)  {st : gS} {H : Heap} {locs : List Loc} {ls : Array Slot}, hX11_token_0  n  st = some st' → gP0 1 D cA ad st H → va_S (gA 1 ad) s.heap H locs → lv_has ls 3 [(0, .ref (ad 0))] → W p l e (gRm 2) s m args below meth c H locs 0 0 (MQ below (gQc 1 D cA ad st' none) args s 0 0 (gA 1 ad)) (F0 m 0 ls []) := by
  intro n
  induction n with
  | zero => intro  st H locs ls hf hH hS hl; cases hf
  | succ n ih =>
    intro  st H locs ls hf hH hS hl
    exact bX11_token_0  hC hret hlk hU (fun hf hH hS hl => ih hf hH hS hl) hf hH hS hl
def fX11_token  (st : gS) : Option (gS) := hX11_token_0 FU st
set_option maxRecDepth 100000 in
set_option maxHeartbeats 4000000 in
theorem mX11_token {l : Launch} {D : va_G} {cA : Nat → ClassId} {ad : Nat → Nat}   {st st' : gS} (hf : fX11_token  st = some st') : gM l yX11_token cX11_token 3 none 2 1 D cA ad st [.ref (ad 0)] none st' := by
  refine g_met (by decide) (Nat.le_of_ble_eq_true rfl) ?_
  intro p e s m args below meth c ls hC hret hlk hU hH hl
  exact wX11_token_0 hC hret hlk hU FU hf hH va_S.rf hl
def fX11_isWord (a1 : Int64)   (st : gS) : Option (Int32 × gS) :=
  if (st.1 0 6) = 1 then (if (lg_cmp (st.2.1 0 9) a1) = 0 then (some (1, st)) else (some (0, st))) else (some (0, st))
set_option maxRecDepth 100000 in
set_option maxHeartbeats 4000000 in
theorem bX11_isWord_0 {a1 : Int64} (hC : CallFix p m c cX11_isWord 3 s args lw_good RX11) (hret : meth.sig.returnType = (some .boolean)) (hlk : meth.locks = false) (hU : gU 1 D cA ad s)  {r : Int32} {st' : gS}   {st : gS} {H : Heap} {locs : List Loc} {ls : Array Slot} (hf : fX11_isWord a1 st = some (r, st')) (hH : gP0 1 D cA ad st H) (hS : va_S (gA 1 ad) s.heap H locs) (hl : lv_has ls 3 [(0, .ref (ad 0)), (1, .long a1)]) : W p l e (gRm 1) s m args below meth c H locs 0 0 (MQ below (gQc 1 D cA ad st' (some (.int r))) args s 0 0 (gA 1 ad)) (F0 m 0 ls []) := by
  obtain ⟨hx, hb, hml, hown, hts⟩ := id hC
  unfold fX11_isWord at hf
  refine lv_aload_n (pc := 0) hx hb dX11_isWord_0 rfl (lv_at hl 0 rfl) ?_
  refine g_get (pc := 1) (v := .int (st.1 0 6)) hC hU hH gk1_0 g_cl11 6 (by decide) kf_X11_184 rfl dX11_isWord_1 ?_
  refine lv_iconst (v := 1) (pc := 4) hx hb dX11_isWord_4 (by decide) ?_
  refine lv_icmp_ne (tgt := 21) (pc := 5) hx hb dX11_isWord_5 (by decide) (fun hc => ?_) (fun hc => ?_)
  · have hf := gif_n hc hf
    refine lv_iconst (v := 0) (pc := 21) hx hb dX11_isWord_21 (by decide) ?_
    exact g_zret (pc := 22) hC hret hlk hH hS (by decide) hf dX11_isWord_22
  · have hf := gif_p hc hf
    refine lv_aload_n (pc := 8) hx hb dX11_isWord_8 rfl (lv_at hl 0 rfl) ?_
    refine g_get (pc := 9) (v := .long (st.2.1 0 9)) hC hU hH gk1_0 g_cl11 9 (by decide) kf_X11_177 rfl dX11_isWord_9 ?_
    refine lv_lload_n (pc := 12) hx hb dX11_isWord_12 rfl (lv_at hl 1 rfl) ?_
    refine W.lcmp hx hb (pc := 13) dX11_isWord_13 ?_
    refine lv_if_ne (tgt := 21) (pc := 14) hx hb dX11_isWord_14 (by decide) (fun hc => ?_) (fun hc => ?_)
    · have hf := gif_n hc hf
      refine lv_iconst (v := 0) (pc := 21) hx hb dX11_isWord_21 (by decide) ?_
      exact g_zret (pc := 22) hC hret hlk hH hS (by decide) hf dX11_isWord_22
    · have hf := gif_p hc hf
      refine lv_iconst (v := 1) (pc := 17) hx hb dX11_isWord_17 (by decide) ?_
      refine lv_goto (tgt := 22) (pc := 18) hx hb dX11_isWord_18 (by decide) ?_
      exact g_zret (pc := 22) hC hret hlk hH hS (by decide) hf dX11_isWord_22
set_option maxRecDepth 100000 in
set_option maxHeartbeats 4000000 in
theorem mX11_isWord {l : Launch} {D : va_G} {cA : Nat → ClassId} {ad : Nat → Nat} {a1 : Int64}  {r : Int32} {st st' : gS} (hf : fX11_isWord a1 st = some (r, st')) : gM l yX11_isWord cX11_isWord 3 (some .boolean) 1 1 D cA ad st [.ref (ad 0), .long a1] (some (.int r)) st' := by
  refine g_met (by decide) (Nat.le_of_ble_eq_true rfl) ?_
  intro p e s m args below meth c ls hC hret hlk hU hH hl
  exact bX11_isWord_0 hC hret hlk hU hf hH va_S.rf hl
def fX11_isOwn    (st : gS) : Option (Int32 × gS) :=
  if (lg_cmp (st.2.1 0 9) 112602893349477) = 0 then (some (1, st)) else (if (lg_cmp (st.2.1 0 9) 500135715429) = 0 then (some (1, st)) else (if (lg_cmp (st.2.1 0 9) 495723310188) = 0 then (some (1, st)) else (if (lg_cmp (st.2.1 0 9) 495874303590) = 0 then (some (1, st)) else (if (lg_cmp (st.2.1 0 9) 30796712728556147) = 0 then (some (1, st)) else (if (lg_cmp (st.2.1 0 9) 1836021349) = 0 then (some (1, st)) else (if (lg_cmp (st.2.1 0 9) 112603009869170) = 0 then (some (1, st)) else (if (lg_cmp (st.2.1 0 9) 1751216740) = 0 then (some (1, st)) else (if (lg_cmp (st.2.1 0 9) 513021013607) = 0 then (some (1, st)) else (if (lg_cmp (st.2.1 0 9) 512970880104) = 0 then (some (1, st)) else (if (lg_cmp (st.2.1 0 9) 1936484720) = 0 then (some (1, st)) else (if (lg_cmp (st.2.1 0 9) 1668248164) = 0 then (some (1, st)) else (if (lg_cmp (st.2.1 0 9) 1685217655) = 0 then (some (1, st)) else (if (lg_cmp (st.2.1 0 9) 2003792494) = 0 then (some (1, st)) else (if (lg_cmp (st.2.1 0 9) 7824756) = 0 then (some (1, st)) else (if (lg_cmp (st.2.1 0 9) 6578553) = 0 then (some (1, st)) else (if (lg_cmp (st.2.1 0 9) 6385252) = 0 then (some (1, st)) else (if (lg_cmp (st.2.1 0 9) 28530) = 0 then (some (1, st)) else (if (lg_cmp (st.2.1 0 9) 7237492) = 0 then (some (1, st)) else (some (0, st))))))))))))))))))))
set_option maxRecDepth 100000 in
set_option maxHeartbeats 4000000 in
theorem bX11_isOwn_0  (hC : CallFix p m c cX11_isOwn 1 s args lw_good RX11) (hret : meth.sig.returnType = (some .boolean)) (hlk : meth.locks = false) (hU : gU 1 D cA ad s)  {r : Int32} {st' : gS}   {st : gS} {H : Heap} {locs : List Loc} {ls : Array Slot} (hf : fX11_isOwn st = some (r, st')) (hH : gP0 1 D cA ad st H) (hS : va_S (gA 1 ad) s.heap H locs) (hl : lv_has ls 1 [(0, .ref (ad 0))]) : W p l e (gRm 1) s m args below meth c H locs 0 0 (MQ below (gQc 1 D cA ad st' (some (.int r))) args s 0 0 (gA 1 ad)) (F0 m 0 ls []) := by
  obtain ⟨hx, hb, hml, hown, hts⟩ := id hC
  unfold fX11_isOwn at hf
  refine lv_aload_n (pc := 0) hx hb dX11_isOwn_0 rfl (lv_at hl 0 rfl) ?_
  refine g_get (pc := 1) (v := .long (st.2.1 0 9)) hC hU hH gk1_0 g_cl11 9 (by decide) kf_X11_177 rfl dX11_isOwn_1 ?_
  refine lv_ldc2 (pc := 4) hx hb hown (hts _ kc_X11_200) dX11_isOwn_4 ?_
  refine W.lcmp hx hb (pc := 7) dX11_isOwn_7 ?_
  refine lv_if_eq (tgt := 209) (pc := 8) hx hb dX11_isOwn_8 (by decide) (fun hc => ?_) (fun hc => ?_)
  · have hf := gif_p hc hf
    refine lv_iconst (v := 1) (pc := 209) hx hb dX11_isOwn_209 (by decide) ?_
    refine lv_goto (tgt := 214) (pc := 210) hx hb dX11_isOwn_210 (by decide) ?_
    exact g_zret (pc := 214) hC hret hlk hH hS (by decide) hf dX11_isOwn_214
  · have hf := gif_n hc hf
    refine lv_aload_n (pc := 11) hx hb dX11_isOwn_11 rfl (lv_at hl 0 rfl) ?_
    refine g_get (pc := 12) (v := .long (st.2.1 0 9)) hC hU hH gk1_0 g_cl11 9 (by decide) kf_X11_177 rfl dX11_isOwn_12 ?_
    refine lv_ldc2 (pc := 15) hx hb hown (hts _ kc_X11_202) dX11_isOwn_15 ?_
    refine W.lcmp hx hb (pc := 18) dX11_isOwn_18 ?_
    refine lv_if_eq (tgt := 209) (pc := 19) hx hb dX11_isOwn_19 (by decide) (fun hc => ?_) (fun hc => ?_)
    · have hf := gif_p hc hf
      refine lv_iconst (v := 1) (pc := 209) hx hb dX11_isOwn_209 (by decide) ?_
      refine lv_goto (tgt := 214) (pc := 210) hx hb dX11_isOwn_210 (by decide) ?_
      exact g_zret (pc := 214) hC hret hlk hH hS (by decide) hf dX11_isOwn_214
    · have hf := gif_n hc hf
      refine lv_aload_n (pc := 22) hx hb dX11_isOwn_22 rfl (lv_at hl 0 rfl) ?_
      refine g_get (pc := 23) (v := .long (st.2.1 0 9)) hC hU hH gk1_0 g_cl11 9 (by decide) kf_X11_177 rfl dX11_isOwn_23 ?_
      refine lv_ldc2 (pc := 26) hx hb hown (hts _ kc_X11_204) dX11_isOwn_26 ?_
      refine W.lcmp hx hb (pc := 29) dX11_isOwn_29 ?_
      refine lv_if_eq (tgt := 209) (pc := 30) hx hb dX11_isOwn_30 (by decide) (fun hc => ?_) (fun hc => ?_)
      · have hf := gif_p hc hf
        refine lv_iconst (v := 1) (pc := 209) hx hb dX11_isOwn_209 (by decide) ?_
        refine lv_goto (tgt := 214) (pc := 210) hx hb dX11_isOwn_210 (by decide) ?_
        exact g_zret (pc := 214) hC hret hlk hH hS (by decide) hf dX11_isOwn_214
      · have hf := gif_n hc hf
        refine lv_aload_n (pc := 33) hx hb dX11_isOwn_33 rfl (lv_at hl 0 rfl) ?_
        refine g_get (pc := 34) (v := .long (st.2.1 0 9)) hC hU hH gk1_0 g_cl11 9 (by decide) kf_X11_177 rfl dX11_isOwn_34 ?_
        refine lv_ldc2 (pc := 37) hx hb hown (hts _ kc_X11_206) dX11_isOwn_37 ?_
        refine W.lcmp hx hb (pc := 40) dX11_isOwn_40 ?_
        refine lv_if_eq (tgt := 209) (pc := 41) hx hb dX11_isOwn_41 (by decide) (fun hc => ?_) (fun hc => ?_)
        · have hf := gif_p hc hf
          refine lv_iconst (v := 1) (pc := 209) hx hb dX11_isOwn_209 (by decide) ?_
          refine lv_goto (tgt := 214) (pc := 210) hx hb dX11_isOwn_210 (by decide) ?_
          exact g_zret (pc := 214) hC hret hlk hH hS (by decide) hf dX11_isOwn_214
        · have hf := gif_n hc hf
          refine lv_aload_n (pc := 44) hx hb dX11_isOwn_44 rfl (lv_at hl 0 rfl) ?_
          refine g_get (pc := 45) (v := .long (st.2.1 0 9)) hC hU hH gk1_0 g_cl11 9 (by decide) kf_X11_177 rfl dX11_isOwn_45 ?_
          refine lv_ldc2 (pc := 48) hx hb hown (hts _ kc_X11_208) dX11_isOwn_48 ?_
          refine W.lcmp hx hb (pc := 51) dX11_isOwn_51 ?_
          refine lv_if_eq (tgt := 209) (pc := 52) hx hb dX11_isOwn_52 (by decide) (fun hc => ?_) (fun hc => ?_)
          · have hf := gif_p hc hf
            refine lv_iconst (v := 1) (pc := 209) hx hb dX11_isOwn_209 (by decide) ?_
            refine lv_goto (tgt := 214) (pc := 210) hx hb dX11_isOwn_210 (by decide) ?_
            exact g_zret (pc := 214) hC hret hlk hH hS (by decide) hf dX11_isOwn_214
          · have hf := gif_n hc hf
            refine lv_aload_n (pc := 55) hx hb dX11_isOwn_55 rfl (lv_at hl 0 rfl) ?_
            refine g_get (pc := 56) (v := .long (st.2.1 0 9)) hC hU hH gk1_0 g_cl11 9 (by decide) kf_X11_177 rfl dX11_isOwn_56 ?_
            refine lv_ldc2 (pc := 59) hx hb hown (hts _ kc_X11_210) dX11_isOwn_59 ?_
            refine W.lcmp hx hb (pc := 62) dX11_isOwn_62 ?_
            refine lv_if_eq (tgt := 209) (pc := 63) hx hb dX11_isOwn_63 (by decide) (fun hc => ?_) (fun hc => ?_)
            · have hf := gif_p hc hf
              refine lv_iconst (v := 1) (pc := 209) hx hb dX11_isOwn_209 (by decide) ?_
              refine lv_goto (tgt := 214) (pc := 210) hx hb dX11_isOwn_210 (by decide) ?_
              exact g_zret (pc := 214) hC hret hlk hH hS (by decide) hf dX11_isOwn_214
            · have hf := gif_n hc hf
              refine lv_aload_n (pc := 66) hx hb dX11_isOwn_66 rfl (lv_at hl 0 rfl) ?_
              refine g_get (pc := 67) (v := .long (st.2.1 0 9)) hC hU hH gk1_0 g_cl11 9 (by decide) kf_X11_177 rfl dX11_isOwn_67 ?_
              refine lv_ldc2 (pc := 70) hx hb hown (hts _ kc_X11_212) dX11_isOwn_70 ?_
              refine W.lcmp hx hb (pc := 73) dX11_isOwn_73 ?_
              refine lv_if_eq (tgt := 209) (pc := 74) hx hb dX11_isOwn_74 (by decide) (fun hc => ?_) (fun hc => ?_)
              · have hf := gif_p hc hf
                refine lv_iconst (v := 1) (pc := 209) hx hb dX11_isOwn_209 (by decide) ?_
                refine lv_goto (tgt := 214) (pc := 210) hx hb dX11_isOwn_210 (by decide) ?_
                exact g_zret (pc := 214) hC hret hlk hH hS (by decide) hf dX11_isOwn_214
              · have hf := gif_n hc hf
                refine lv_aload_n (pc := 77) hx hb dX11_isOwn_77 rfl (lv_at hl 0 rfl) ?_
                refine g_get (pc := 78) (v := .long (st.2.1 0 9)) hC hU hH gk1_0 g_cl11 9 (by decide) kf_X11_177 rfl dX11_isOwn_78 ?_
                refine lv_ldc2 (pc := 81) hx hb hown (hts _ kc_X11_214) dX11_isOwn_81 ?_
                refine W.lcmp hx hb (pc := 84) dX11_isOwn_84 ?_
                refine lv_if_eq (tgt := 209) (pc := 85) hx hb dX11_isOwn_85 (by decide) (fun hc => ?_) (fun hc => ?_)
                · have hf := gif_p hc hf
                  refine lv_iconst (v := 1) (pc := 209) hx hb dX11_isOwn_209 (by decide) ?_
                  refine lv_goto (tgt := 214) (pc := 210) hx hb dX11_isOwn_210 (by decide) ?_
                  exact g_zret (pc := 214) hC hret hlk hH hS (by decide) hf dX11_isOwn_214
                · have hf := gif_n hc hf
                  refine lv_aload_n (pc := 88) hx hb dX11_isOwn_88 rfl (lv_at hl 0 rfl) ?_
                  refine g_get (pc := 89) (v := .long (st.2.1 0 9)) hC hU hH gk1_0 g_cl11 9 (by decide) kf_X11_177 rfl dX11_isOwn_89 ?_
                  refine lv_ldc2 (pc := 92) hx hb hown (hts _ kc_X11_216) dX11_isOwn_92 ?_
                  refine W.lcmp hx hb (pc := 95) dX11_isOwn_95 ?_
                  refine lv_if_eq (tgt := 209) (pc := 96) hx hb dX11_isOwn_96 (by decide) (fun hc => ?_) (fun hc => ?_)
                  · have hf := gif_p hc hf
                    refine lv_iconst (v := 1) (pc := 209) hx hb dX11_isOwn_209 (by decide) ?_
                    refine lv_goto (tgt := 214) (pc := 210) hx hb dX11_isOwn_210 (by decide) ?_
                    exact g_zret (pc := 214) hC hret hlk hH hS (by decide) hf dX11_isOwn_214
                  · have hf := gif_n hc hf
                    refine lv_aload_n (pc := 99) hx hb dX11_isOwn_99 rfl (lv_at hl 0 rfl) ?_
                    refine g_get (pc := 100) (v := .long (st.2.1 0 9)) hC hU hH gk1_0 g_cl11 9 (by decide) kf_X11_177 rfl dX11_isOwn_100 ?_
                    refine lv_ldc2 (pc := 103) hx hb hown (hts _ kc_X11_218) dX11_isOwn_103 ?_
                    refine W.lcmp hx hb (pc := 106) dX11_isOwn_106 ?_
                    refine lv_if_eq (tgt := 209) (pc := 107) hx hb dX11_isOwn_107 (by decide) (fun hc => ?_) (fun hc => ?_)
                    · have hf := gif_p hc hf
                      refine lv_iconst (v := 1) (pc := 209) hx hb dX11_isOwn_209 (by decide) ?_
                      refine lv_goto (tgt := 214) (pc := 210) hx hb dX11_isOwn_210 (by decide) ?_
                      exact g_zret (pc := 214) hC hret hlk hH hS (by decide) hf dX11_isOwn_214
                    · have hf := gif_n hc hf
                      refine lv_aload_n (pc := 110) hx hb dX11_isOwn_110 rfl (lv_at hl 0 rfl) ?_
                      refine g_get (pc := 111) (v := .long (st.2.1 0 9)) hC hU hH gk1_0 g_cl11 9 (by decide) kf_X11_177 rfl dX11_isOwn_111 ?_
                      refine lv_ldc2 (pc := 114) hx hb hown (hts _ kc_X11_220) dX11_isOwn_114 ?_
                      refine W.lcmp hx hb (pc := 117) dX11_isOwn_117 ?_
                      refine lv_if_eq (tgt := 209) (pc := 118) hx hb dX11_isOwn_118 (by decide) (fun hc => ?_) (fun hc => ?_)
                      · have hf := gif_p hc hf
                        refine lv_iconst (v := 1) (pc := 209) hx hb dX11_isOwn_209 (by decide) ?_
                        refine lv_goto (tgt := 214) (pc := 210) hx hb dX11_isOwn_210 (by decide) ?_
                        exact g_zret (pc := 214) hC hret hlk hH hS (by decide) hf dX11_isOwn_214
                      · have hf := gif_n hc hf
                        refine lv_aload_n (pc := 121) hx hb dX11_isOwn_121 rfl (lv_at hl 0 rfl) ?_
                        refine g_get (pc := 122) (v := .long (st.2.1 0 9)) hC hU hH gk1_0 g_cl11 9 (by decide) kf_X11_177 rfl dX11_isOwn_122 ?_
                        refine lv_ldc2 (pc := 125) hx hb hown (hts _ kc_X11_222) dX11_isOwn_125 ?_
                        refine W.lcmp hx hb (pc := 128) dX11_isOwn_128 ?_
                        refine lv_if_eq (tgt := 209) (pc := 129) hx hb dX11_isOwn_129 (by decide) (fun hc => ?_) (fun hc => ?_)
                        · have hf := gif_p hc hf
                          refine lv_iconst (v := 1) (pc := 209) hx hb dX11_isOwn_209 (by decide) ?_
                          refine lv_goto (tgt := 214) (pc := 210) hx hb dX11_isOwn_210 (by decide) ?_
                          exact g_zret (pc := 214) hC hret hlk hH hS (by decide) hf dX11_isOwn_214
                        · have hf := gif_n hc hf
                          refine lv_aload_n (pc := 132) hx hb dX11_isOwn_132 rfl (lv_at hl 0 rfl) ?_
                          refine g_get (pc := 133) (v := .long (st.2.1 0 9)) hC hU hH gk1_0 g_cl11 9 (by decide) kf_X11_177 rfl dX11_isOwn_133 ?_
                          refine lv_ldc2 (pc := 136) hx hb hown (hts _ kc_X11_224) dX11_isOwn_136 ?_
                          refine W.lcmp hx hb (pc := 139) dX11_isOwn_139 ?_
                          refine lv_if_eq (tgt := 209) (pc := 140) hx hb dX11_isOwn_140 (by decide) (fun hc => ?_) (fun hc => ?_)
                          · have hf := gif_p hc hf
                            refine lv_iconst (v := 1) (pc := 209) hx hb dX11_isOwn_209 (by decide) ?_
                            refine lv_goto (tgt := 214) (pc := 210) hx hb dX11_isOwn_210 (by decide) ?_
                            exact g_zret (pc := 214) hC hret hlk hH hS (by decide) hf dX11_isOwn_214
                          · have hf := gif_n hc hf
                            refine lv_aload_n (pc := 143) hx hb dX11_isOwn_143 rfl (lv_at hl 0 rfl) ?_
                            refine g_get (pc := 144) (v := .long (st.2.1 0 9)) hC hU hH gk1_0 g_cl11 9 (by decide) kf_X11_177 rfl dX11_isOwn_144 ?_
                            refine lv_ldc2 (pc := 147) hx hb hown (hts _ kc_X11_226) dX11_isOwn_147 ?_
                            refine W.lcmp hx hb (pc := 150) dX11_isOwn_150 ?_
                            refine lv_if_eq (tgt := 209) (pc := 151) hx hb dX11_isOwn_151 (by decide) (fun hc => ?_) (fun hc => ?_)
                            · have hf := gif_p hc hf
                              refine lv_iconst (v := 1) (pc := 209) hx hb dX11_isOwn_209 (by decide) ?_
                              refine lv_goto (tgt := 214) (pc := 210) hx hb dX11_isOwn_210 (by decide) ?_
                              exact g_zret (pc := 214) hC hret hlk hH hS (by decide) hf dX11_isOwn_214
                            · have hf := gif_n hc hf
                              refine lv_aload_n (pc := 154) hx hb dX11_isOwn_154 rfl (lv_at hl 0 rfl) ?_
                              refine g_get (pc := 155) (v := .long (st.2.1 0 9)) hC hU hH gk1_0 g_cl11 9 (by decide) kf_X11_177 rfl dX11_isOwn_155 ?_
                              refine lv_ldc2 (pc := 158) hx hb hown (hts _ kc_X11_228) dX11_isOwn_158 ?_
                              refine W.lcmp hx hb (pc := 161) dX11_isOwn_161 ?_
                              refine lv_if_eq (tgt := 209) (pc := 162) hx hb dX11_isOwn_162 (by decide) (fun hc => ?_) (fun hc => ?_)
                              · have hf := gif_p hc hf
                                refine lv_iconst (v := 1) (pc := 209) hx hb dX11_isOwn_209 (by decide) ?_
                                refine lv_goto (tgt := 214) (pc := 210) hx hb dX11_isOwn_210 (by decide) ?_
                                exact g_zret (pc := 214) hC hret hlk hH hS (by decide) hf dX11_isOwn_214
                              · have hf := gif_n hc hf
                                refine lv_aload_n (pc := 165) hx hb dX11_isOwn_165 rfl (lv_at hl 0 rfl) ?_
                                refine g_get (pc := 166) (v := .long (st.2.1 0 9)) hC hU hH gk1_0 g_cl11 9 (by decide) kf_X11_177 rfl dX11_isOwn_166 ?_
                                refine lv_ldc2 (pc := 169) hx hb hown (hts _ kc_X11_230) dX11_isOwn_169 ?_
                                refine W.lcmp hx hb (pc := 172) dX11_isOwn_172 ?_
                                refine lv_if_eq (tgt := 209) (pc := 173) hx hb dX11_isOwn_173 (by decide) (fun hc => ?_) (fun hc => ?_)
                                · have hf := gif_p hc hf
                                  refine lv_iconst (v := 1) (pc := 209) hx hb dX11_isOwn_209 (by decide) ?_
                                  refine lv_goto (tgt := 214) (pc := 210) hx hb dX11_isOwn_210 (by decide) ?_
                                  exact g_zret (pc := 214) hC hret hlk hH hS (by decide) hf dX11_isOwn_214
                                · have hf := gif_n hc hf
                                  refine lv_aload_n (pc := 176) hx hb dX11_isOwn_176 rfl (lv_at hl 0 rfl) ?_
                                  refine g_get (pc := 177) (v := .long (st.2.1 0 9)) hC hU hH gk1_0 g_cl11 9 (by decide) kf_X11_177 rfl dX11_isOwn_177 ?_
                                  refine lv_ldc2 (pc := 180) hx hb hown (hts _ kc_X11_232) dX11_isOwn_180 ?_
                                  refine W.lcmp hx hb (pc := 183) dX11_isOwn_183 ?_
                                  refine lv_if_eq (tgt := 209) (pc := 184) hx hb dX11_isOwn_184 (by decide) (fun hc => ?_) (fun hc => ?_)
                                  · have hf := gif_p hc hf
                                    refine lv_iconst (v := 1) (pc := 209) hx hb dX11_isOwn_209 (by decide) ?_
                                    refine lv_goto (tgt := 214) (pc := 210) hx hb dX11_isOwn_210 (by decide) ?_
                                    exact g_zret (pc := 214) hC hret hlk hH hS (by decide) hf dX11_isOwn_214
                                  · have hf := gif_n hc hf
                                    refine lv_aload_n (pc := 187) hx hb dX11_isOwn_187 rfl (lv_at hl 0 rfl) ?_
                                    refine g_get (pc := 188) (v := .long (st.2.1 0 9)) hC hU hH gk1_0 g_cl11 9 (by decide) kf_X11_177 rfl dX11_isOwn_188 ?_
                                    refine lv_ldc2 (pc := 191) hx hb hown (hts _ kc_X11_234) dX11_isOwn_191 ?_
                                    refine W.lcmp hx hb (pc := 194) dX11_isOwn_194 ?_
                                    refine lv_if_eq (tgt := 209) (pc := 195) hx hb dX11_isOwn_195 (by decide) (fun hc => ?_) (fun hc => ?_)
                                    · have hf := gif_p hc hf
                                      refine lv_iconst (v := 1) (pc := 209) hx hb dX11_isOwn_209 (by decide) ?_
                                      refine lv_goto (tgt := 214) (pc := 210) hx hb dX11_isOwn_210 (by decide) ?_
                                      exact g_zret (pc := 214) hC hret hlk hH hS (by decide) hf dX11_isOwn_214
                                    · have hf := gif_n hc hf
                                      refine lv_aload_n (pc := 198) hx hb dX11_isOwn_198 rfl (lv_at hl 0 rfl) ?_
                                      refine g_get (pc := 199) (v := .long (st.2.1 0 9)) hC hU hH gk1_0 g_cl11 9 (by decide) kf_X11_177 rfl dX11_isOwn_199 ?_
                                      refine lv_ldc2 (pc := 202) hx hb hown (hts _ kc_X11_236) dX11_isOwn_202 ?_
                                      refine W.lcmp hx hb (pc := 205) dX11_isOwn_205 ?_
                                      refine lv_if_ne (tgt := 213) (pc := 206) hx hb dX11_isOwn_206 (by decide) (fun hc => ?_) (fun hc => ?_)
                                      · have hf := gif_n hc hf
                                        refine lv_iconst (v := 0) (pc := 213) hx hb dX11_isOwn_213 (by decide) ?_
                                        exact g_zret (pc := 214) hC hret hlk hH hS (by decide) hf dX11_isOwn_214
                                      · have hf := gif_p hc hf
                                        refine lv_iconst (v := 1) (pc := 209) hx hb dX11_isOwn_209 (by decide) ?_
                                        refine lv_goto (tgt := 214) (pc := 210) hx hb dX11_isOwn_210 (by decide) ?_
                                        exact g_zret (pc := 214) hC hret hlk hH hS (by decide) hf dX11_isOwn_214
set_option maxRecDepth 100000 in
set_option maxHeartbeats 4000000 in
theorem mX11_isOwn {l : Launch} {D : va_G} {cA : Nat → ClassId} {ad : Nat → Nat}   {r : Int32} {st st' : gS} (hf : fX11_isOwn  st = some (r, st')) : gM l yX11_isOwn cX11_isOwn 1 (some .boolean) 1 1 D cA ad st [.ref (ad 0)] (some (.int r)) st' := by
  refine g_met (by decide) (Nat.le_of_ble_eq_true rfl) ?_
  intro p e s m args below meth c ls hC hret hlk hU hH hl
  exact bX11_isOwn_0 hC hret hlk hU hf hH va_S.rf hl
def fX11_isName    (st : gS) : Option (Int32 × gS) :=
  if (st.1 0 6) = 1 then ((fX11_isOwn st).bind fun q0_1 => (if q0_1.1 = 0 then (some (1, q0_1.2)) else (some (0, q0_1.2)))) else (some (0, st))
set_option maxRecDepth 100000 in
set_option maxHeartbeats 4000000 in
theorem bX11_isName_0  (hC : CallFix p m c cX11_isName 1 s args lw_good RX11) (hret : meth.sig.returnType = (some .boolean)) (hlk : meth.locks = false) (hU : gU 1 D cA ad s)  {r : Int32} {st' : gS}   {st : gS} {H : Heap} {locs : List Loc} {ls : Array Slot} (hf : fX11_isName st = some (r, st')) (hH : gP0 1 D cA ad st H) (hS : va_S (gA 1 ad) s.heap H locs) (hl : lv_has ls 1 [(0, .ref (ad 0))]) : W p l e (gRm 2) s m args below meth c H locs 0 0 (MQ below (gQc 1 D cA ad st' (some (.int r))) args s 0 0 (gA 1 ad)) (F0 m 0 ls []) := by
  obtain ⟨hx, hb, hml, hown, hts⟩ := id hC
  unfold fX11_isName at hf
  refine lv_aload_n (pc := 0) hx hb dX11_isName_0 rfl (lv_at hl 0 rfl) ?_
  refine g_get (pc := 1) (v := .int (st.1 0 6)) hC hU hH gk1_0 g_cl11 6 (by decide) kf_X11_184 rfl dX11_isName_1 ?_
  refine lv_iconst (v := 1) (pc := 4) hx hb dX11_isName_4 (by decide) ?_
  refine lv_icmp_ne (tgt := 19) (pc := 5) hx hb dX11_isName_5 (by decide) (fun hc => ?_) (fun hc => ?_)
  · have hf := gif_n hc hf
    refine lv_iconst (v := 0) (pc := 19) hx hb dX11_isName_19 (by decide) ?_
    exact g_zret (pc := 20) hC hret hlk hH hS (by decide) hf dX11_isName_20
  · have hf := gif_p hc hf
    refine lv_aload_n (pc := 8) hx hb dX11_isName_8 rfl (lv_at hl 0 rfl) ?_
    obtain ⟨q0_1, hq0_1, hf⟩ := gbd hf
    refine g_callVi (pc := 9) (rest := []) hC hU hH hS hl.1 gk1_0 rfl (by decide) (mX11_isOwn  hq0_1) ky_X11_isOwn km_X11_238 ⟨Nat.le_of_ble_eq_true rfl, Nat.le_of_ble_eq_true rfl⟩ ⟨Nat.zero_le _, Nat.zero_le _⟩ rfl (Nat.le_of_ble_eq_true rfl) dX11_isName_9 rfl (fun H locs hH hS => ?_)
    refine lv_if_ne (tgt := 19) (pc := 12) hx hb dX11_isName_12 (by decide) (fun hc => ?_) (fun hc => ?_)
    · have hf := gif_n hc hf
      refine lv_iconst (v := 0) (pc := 19) hx hb dX11_isName_19 (by decide) ?_
      exact g_zret (pc := 20) hC hret hlk hH hS (by decide) hf dX11_isName_20
    · have hf := gif_p hc hf
      refine lv_iconst (v := 1) (pc := 15) hx hb dX11_isName_15 (by decide) ?_
      refine lv_goto (tgt := 20) (pc := 16) hx hb dX11_isName_16 (by decide) ?_
      exact g_zret (pc := 20) hC hret hlk hH hS (by decide) hf dX11_isName_20
set_option maxRecDepth 100000 in
set_option maxHeartbeats 4000000 in
theorem mX11_isName {l : Launch} {D : va_G} {cA : Nat → ClassId} {ad : Nat → Nat}   {r : Int32} {st st' : gS} (hf : fX11_isName  st = some (r, st')) : gM l yX11_isName cX11_isName 1 (some .boolean) 2 1 D cA ad st [.ref (ad 0)] (some (.int r)) st' := by
  refine g_met (by decide) (Nat.le_of_ble_eq_true rfl) ?_
  intro p e s m args below meth c ls hC hret hlk hU hH hl
  exact bX11_isName_0 hC hret hlk hU hf hH va_S.rf hl
def fX11_wrong_22 (a1 : Int32)  (s0 : Int32) (st : gS) : Option (gS) :=
  some (wi (wi st 0 2 s0) 0 3 ((wi st 0 2 s0).1 0 7))
set_option maxRecDepth 100000 in
set_option maxHeartbeats 4000000 in
theorem bX11_wrong_22 {a1 : Int32} (hC : CallFix p m c cX11_wrong 2 s args lw_good RX11) (hret : meth.sig.returnType = none) (hlk : meth.locks = false) (hU : gU 1 D cA ad s)  {st' : gS}  {s0 : Int32} {st : gS} {H : Heap} {locs : List Loc} {ls : Array Slot} (hf : fX11_wrong_22 a1 s0 st = some st') (hH : gP0 1 D cA ad st H) (hS : va_S (gA 1 ad) s.heap H locs) (hl : lv_has ls 2 [(0, .ref (ad 0))]) : W p l e (gRm 1) s m args below meth c H locs 0 0 (MQ below (gQc 1 D cA ad st' none) args s 0 0 (gA 1 ad)) (F0 m 22 ls [.int s0, .ref (ad 0)]) := by
  obtain ⟨hx, hb, hml, hown, hts⟩ := id hC
  unfold fX11_wrong_22 at hf
  refine g_puti (pc := 22) hC hU hH hS gk1_0 g_cl11 2 (by decide) kf_X11_197 rfl rfl rfl rfl dX11_wrong_22 (fun H locs hH hS => ?_)
  refine lv_aload_n (pc := 25) hx hb dX11_wrong_25 rfl (lv_at hl 0 rfl) ?_
  refine lv_aload_n (pc := 26) hx hb dX11_wrong_26 rfl (lv_at hl 0 rfl) ?_
  refine g_get (pc := 27) (v := .int ((wi st 0 2 s0).1 0 7)) hC hU hH gk1_0 g_cl11 7 (by decide) kf_X11_174 rfl dX11_wrong_27 ?_
  refine g_puti (pc := 30) hC hU hH hS gk1_0 g_cl11 3 (by decide) kf_X11_13 rfl rfl rfl rfl dX11_wrong_30 (fun H locs hH hS => ?_)
  exact g_vret (pc := 33) hC hret hlk hH hS hf dX11_wrong_33
def fX11_wrong (a1 : Int32)   (st : gS) : Option (gS) :=
  if (st.1 0 2) ≤ 0 then (if (st.1 0 6) = 3 then (fX11_wrong_22 a1 1 st) else (fX11_wrong_22 a1 a1 st)) else (some st)
set_option maxRecDepth 100000 in
set_option maxHeartbeats 4000000 in
theorem bX11_wrong_0 {a1 : Int32} (hC : CallFix p m c cX11_wrong 2 s args lw_good RX11) (hret : meth.sig.returnType = none) (hlk : meth.locks = false) (hU : gU 1 D cA ad s)  {st' : gS}   {st : gS} {H : Heap} {locs : List Loc} {ls : Array Slot} (hf : fX11_wrong a1 st = some st') (hH : gP0 1 D cA ad st H) (hS : va_S (gA 1 ad) s.heap H locs) (hl : lv_has ls 2 [(0, .ref (ad 0)), (1, .int a1)]) : W p l e (gRm 1) s m args below meth c H locs 0 0 (MQ below (gQc 1 D cA ad st' none) args s 0 0 (gA 1 ad)) (F0 m 0 ls []) := by
  obtain ⟨hx, hb, hml, hown, hts⟩ := id hC
  unfold fX11_wrong at hf
  refine lv_aload_n (pc := 0) hx hb dX11_wrong_0 rfl (lv_at hl 0 rfl) ?_
  refine g_get (pc := 1) (v := .int (st.1 0 2)) hC hU hH gk1_0 g_cl11 2 (by decide) kf_X11_197 rfl dX11_wrong_1 ?_
  refine lv_if_le (tgt := 8) (pc := 4) hx hb dX11_wrong_4 (by decide) (fun hc => ?_) (fun hc => ?_)
  · have hf := gif_p hc hf
    refine lv_aload_n (pc := 8) hx hb dX11_wrong_8 rfl (lv_at hl 0 rfl) ?_
    refine lv_aload_n (pc := 9) hx hb dX11_wrong_9 rfl (lv_at hl 0 rfl) ?_
    refine g_get (pc := 10) (v := .int (st.1 0 6)) hC hU hH gk1_0 g_cl11 6 (by decide) kf_X11_184 rfl dX11_wrong_10 ?_
    refine lv_iconst (v := 3) (pc := 13) hx hb dX11_wrong_13 (by decide) ?_
    refine lv_icmp_ne (tgt := 21) (pc := 14) hx hb dX11_wrong_14 (by decide) (fun hc => ?_) (fun hc => ?_)
    · have hf := gif_n hc hf
      refine lv_iload_n (pc := 21) hx hb dX11_wrong_21 rfl (lv_at hl 1 rfl) ?_
      exact bX11_wrong_22 hC hret hlk hU hf hH hS (lv_sub hl [0] rfl)
    · have hf := gif_p hc hf
      refine lv_iconst (v := 1) (pc := 17) hx hb dX11_wrong_17 (by decide) ?_
      refine lv_goto (tgt := 22) (pc := 18) hx hb dX11_wrong_18 (by decide) ?_
      exact bX11_wrong_22 hC hret hlk hU hf hH hS (lv_sub hl [0] rfl)
  · have hf := gif_n hc hf
    exact g_vret (pc := 7) hC hret hlk hH hS hf dX11_wrong_7
set_option maxRecDepth 100000 in
set_option maxHeartbeats 4000000 in
theorem mX11_wrong {l : Launch} {D : va_G} {cA : Nat → ClassId} {ad : Nat → Nat} {a1 : Int32}  {st st' : gS} (hf : fX11_wrong a1 st = some st') : gM l yX11_wrong cX11_wrong 2 none 1 1 D cA ad st [.ref (ad 0), .int a1] none st' := by
  refine g_met (by decide) (Nat.le_of_ble_eq_true rfl) ?_
  intro p e s m args below meth c ls hC hret hlk hU hH hl
  exact bX11_wrong_0 hC hret hlk hU hf hH va_S.rf hl
def fX11_find_5 (a1 : Int32) (a2 : Int32) (k5 : Int32 → Int32 → gS → Option (Int32 × gS)) (l3 : Int32) (l4 : Int32) (st : gS) : Option (Int32 × gS) :=
  if a2 ≤ l4 then (some (l3, st)) else (gc (gI (a1 + l4) 13) (if (lg_cmp (st.2.1 2 (a1 + l4).toNatClampNeg) (st.2.1 0 9)) = 0 then (k5 l4 (l4 + 1) st) else (k5 l3 (l4 + 1) st)))
set_option maxRecDepth 100000 in
set_option maxHeartbeats 4000000 in
theorem bX11_find_5 {a1 : Int32} {a2 : Int32} (hC : CallFix p m c cX11_find 5 s args lw_good RX11) (hret : meth.sig.returnType = (some .int)) (hlk : meth.locks = false) (hU : gU 1 D cA ad s)  {r : Int32} {st' : gS} {k5 : Int32 → Int32 → gS → Option (Int32 × gS)} (hk5 : ∀ {l3 : Int32} {l4 : Int32} {st : gS} {H : Heap} {locs : List Loc} {ls : Array Slot}, k5 l3 l4 st = some (r, st') → gP0 1 D cA ad st H → va_S (gA 1 ad) s.heap H locs → lv_has ls 5 [(0, .ref (ad 0)), (1, .int a1), (2, .int a2), (3, .int l3), (4, .int l4)] → W p l e (gRm 1) s m args below meth c H locs 0 0 (MQ below (gQc 1 D cA ad st' (some (.int r))) args s 0 0 (gA 1 ad)) (F0 m 5 ls [])) {l3 : Int32} {l4 : Int32} {st : gS} {H : Heap} {locs : List Loc} {ls : Array Slot} (hf : fX11_find_5 a1 a2 k5 l3 l4 st = some (r, st')) (hH : gP0 1 D cA ad st H) (hS : va_S (gA 1 ad) s.heap H locs) (hl : lv_has ls 5 [(0, .ref (ad 0)), (1, .int a1), (2, .int a2), (3, .int l3), (4, .int l4)]) : W p l e (gRm 1) s m args below meth c H locs 0 0 (MQ below (gQc 1 D cA ad st' (some (.int r))) args s 0 0 (gA 1 ad)) (F0 m 5 ls []) := by
  obtain ⟨hx, hb, hml, hown, hts⟩ := id hC
  unfold fX11_find_5 at hf
  refine lv_iload (pc := 5) hx hb dX11_find_5 (lv_at hl 4 rfl) ?_
  refine lv_iload_n (pc := 7) hx hb dX11_find_7 rfl (lv_at hl 2 rfl) ?_
  refine lv_icmp_ge (tgt := 41) (pc := 8) hx hb dX11_find_8 (by decide) (fun hc => ?_) (fun hc => ?_)
  · have hf := gif_p hc hf
    refine lv_iload_n (pc := 41) hx hb dX11_find_41 rfl (lv_at hl 3 rfl) ?_
    exact g_iret (pc := 42) hC hret hlk hH hS hf dX11_find_42
  · have hf := gif_n hc hf
    refine lv_aload_n (pc := 11) hx hb dX11_find_11 rfl (lv_at hl 0 rfl) ?_
    refine g_get (pc := 12) (v := .ref (ad 2)) hC hU hH gk1_0 g_cl11 10 (by decide) kf_X11_17 rfl dX11_find_12 ?_
    refine lv_iload_n (pc := 15) hx hb dX11_find_15 rfl (lv_at hl 1 rfl) ?_
    refine lv_iload (pc := 16) hx hb dX11_find_16 (lv_at hl 4 rfl) ?_
    refine lv_iadd (pc := 18) hx hb dX11_find_18 ?_
    obtain ⟨h5_1, hf⟩ := gc_s hf
    refine g_lald (pc := 19) hC hU hH gk1_2 gn1_2 h5_1 dX11_find_19 ?_
    refine lv_aload_n (pc := 20) hx hb dX11_find_20 rfl (lv_at hl 0 rfl) ?_
    refine g_get (pc := 21) (v := .long (st.2.1 0 9)) hC hU hH gk1_0 g_cl11 9 (by decide) kf_X11_177 rfl dX11_find_21 ?_
    refine W.lcmp hx hb (pc := 24) dX11_find_24 ?_
    refine lv_if_ne (tgt := 33) (pc := 25) hx hb dX11_find_25 (by decide) (fun hc => ?_) (fun hc => ?_)
    · have hf := gif_n hc hf
      refine lv_iload_n (pc := 33) hx hb dX11_find_33 rfl (lv_at hl 3 rfl) ?_
      refine lv_istore_n (lv' := [(3, .int l3), (0, .ref (ad 0)), (1, .int a1), (2, .int a2), (4, .int l4)]) (pc := 34) hx hb dX11_find_34 rfl hl (by decide) rfl (fun ls hl => ?_)
      refine lv_iinc (v := l4 + 1) (lv' := [(4, .int (l4 + 1)), (3, .int l3), (0, .ref (ad 0)), (1, .int a1), (2, .int a2)]) (k := 4) (pc := 35) hx hb dX11_find_35 hl rfl rfl (by decide) rfl (fun ls hl => ?_)
      refine lv_goto (tgt := 5) (pc := 38) hx hb dX11_find_38 (by decide) ?_
      exact hk5 hf hH hS (lv_sub hl [2, 3, 4, 1, 0] rfl)
    · have hf := gif_p hc hf
      refine lv_iload (pc := 28) hx hb dX11_find_28 (lv_at hl 4 rfl) ?_
      refine lv_goto (tgt := 34) (pc := 30) hx hb dX11_find_30 (by decide) ?_
      refine lv_istore_n (lv' := [(3, .int l4), (0, .ref (ad 0)), (1, .int a1), (2, .int a2), (4, .int l4)]) (pc := 34) hx hb dX11_find_34 rfl hl (by decide) rfl (fun ls hl => ?_)
      refine lv_iinc (v := l4 + 1) (lv' := [(4, .int (l4 + 1)), (3, .int l4), (0, .ref (ad 0)), (1, .int a1), (2, .int a2)]) (k := 4) (pc := 35) hx hb dX11_find_35 hl rfl rfl (by decide) rfl (fun ls hl => ?_)
      refine lv_goto (tgt := 5) (pc := 38) hx hb dX11_find_38 (by decide) ?_
      exact hk5 hf hH hS (lv_sub hl [2, 3, 4, 1, 0] rfl)
def hX11_find_5 (a1 : Int32) (a2 : Int32)  : Nat → Int32 → Int32 → gS → Option (Int32 × gS)
  | 0 => fun _ _ _ => none
  | n + 1 => fun l3 l4 st => fX11_find_5 a1 a2 (hX11_find_5 a1 a2 n) l3 l4 st
set_option maxRecDepth 100000 in
set_option maxHeartbeats 4000000 in
theorem wX11_find_5 {a1 : Int32} {a2 : Int32} (hC : CallFix p m c cX11_find 5 s args lw_good RX11) (hret : meth.sig.returnType = (some .int)) (hlk : meth.locks = false) (hU : gU 1 D cA ad s)  {r : Int32} {st' : gS}  : ∀ (n : Nat) {l3 : Int32} {l4 : Int32} {st : gS} {H : Heap} {locs : List Loc} {ls : Array Slot}, hX11_find_5 a1 a2 n l3 l4 st = some (r, st') → gP0 1 D cA ad st H → va_S (gA 1 ad) s.heap H locs → lv_has ls 5 [(0, .ref (ad 0)), (1, .int a1), (2, .int a2), (3, .int l3), (4, .int l4)] → W p l e (gRm 1) s m args below meth c H locs 0 0 (MQ below (gQc 1 D cA ad st' (some (.int r))) args s 0 0 (gA 1 ad)) (F0 m 5 ls []) := by
  intro n
  induction n with
  | zero => intro l3 l4 st H locs ls hf hH hS hl; cases hf
  | succ n ih =>
    intro l3 l4 st H locs ls hf hH hS hl
    exact bX11_find_5 (a1 := a1) (a2 := a2) hC hret hlk hU (fun hf hH hS hl => ih hf hH hS hl) hf hH hS hl
def fX11_find (a1 : Int32) (a2 : Int32)   (st : gS) : Option (Int32 × gS) :=
  hX11_find_5 a1 a2 FU (-1) 0 st
set_option maxRecDepth 100000 in
set_option maxHeartbeats 4000000 in
theorem bX11_find_0 {a1 : Int32} {a2 : Int32} (hC : CallFix p m c cX11_find 5 s args lw_good RX11) (hret : meth.sig.returnType = (some .int)) (hlk : meth.locks = false) (hU : gU 1 D cA ad s)  {r : Int32} {st' : gS}   {st : gS} {H : Heap} {locs : List Loc} {ls : Array Slot} (hf : fX11_find a1 a2 st = some (r, st')) (hH : gP0 1 D cA ad st H) (hS : va_S (gA 1 ad) s.heap H locs) (hl : lv_has ls 5 [(0, .ref (ad 0)), (1, .int a1), (2, .int a2)]) : W p l e (gRm 1) s m args below meth c H locs 0 0 (MQ below (gQc 1 D cA ad st' (some (.int r))) args s 0 0 (gA 1 ad)) (F0 m 0 ls []) := by
  obtain ⟨hx, hb, hml, hown, hts⟩ := id hC
  unfold fX11_find at hf
  refine lv_iconst (v := (-1)) (pc := 0) hx hb dX11_find_0 (by decide) ?_
  refine lv_istore_n (lv' := [(3, .int (-1)), (0, .ref (ad 0)), (1, .int a1), (2, .int a2)]) (pc := 1) hx hb dX11_find_1 rfl hl (by decide) rfl (fun ls hl => ?_)
  refine lv_iconst (v := 0) (pc := 2) hx hb dX11_find_2 (by decide) ?_
  refine lv_istore (lv' := [(4, .int 0), (3, .int (-1)), (0, .ref (ad 0)), (1, .int a1), (2, .int a2)]) (pc := 3) hx hb dX11_find_3 hl (by decide) rfl (fun ls hl => ?_)
  exact wX11_find_5 hC hret hlk hU FU hf hH hS (lv_sub hl [2, 3, 4, 1, 0] rfl)
set_option maxRecDepth 100000 in
set_option maxHeartbeats 4000000 in
theorem mX11_find {l : Launch} {D : va_G} {cA : Nat → ClassId} {ad : Nat → Nat} {a1 : Int32} {a2 : Int32}  {r : Int32} {st st' : gS} (hf : fX11_find a1 a2 st = some (r, st')) : gM l yX11_find cX11_find 5 (some .int) 1 1 D cA ad st [.ref (ad 0), .int a1, .int a2] (some (.int r)) st' := by
  refine g_met (by decide) (Nat.le_of_ble_eq_true rfl) ?_
  intro p e s m args below meth c ls hC hret hlk hU hH hl
  exact bX11_find_0 hC hret hlk hU hf hH va_S.rf hl
def fX11_newName_33 (a1 : Int32) (a2 : Int32)   (st : gS) : Option (gS) :=
  if (st.1 0 2) ≤ 0 then (gc (gI (a1 + a2) 13) ((fX11_token (wl st 2 (a1 + a2).toNatClampNeg (st.2.1 0 9))).bind fun q33_1 => (some q33_1))) else (some st)
set_option maxRecDepth 100000 in
set_option maxHeartbeats 4000000 in
theorem bX11_newName_33 {a1 : Int32} {a2 : Int32} (hC : CallFix p m c cX11_newName 3 s args lw_good RX11) (hret : meth.sig.returnType = none) (hlk : meth.locks = false) (hU : gU 1 D cA ad s)  {st' : gS}   {st : gS} {H : Heap} {locs : List Loc} {ls : Array Slot} (hf : fX11_newName_33 a1 a2 st = some st') (hH : gP0 1 D cA ad st H) (hS : va_S (gA 1 ad) s.heap H locs) (hl : lv_has ls 3 [(0, .ref (ad 0)), (1, .int a1), (2, .int a2)]) : W p l e (gRm 3) s m args below meth c H locs 0 0 (MQ below (gQc 1 D cA ad st' none) args s 0 0 (gA 1 ad)) (F0 m 33 ls []) := by
  obtain ⟨hx, hb, hml, hown, hts⟩ := id hC
  unfold fX11_newName_33 at hf
  refine lv_aload_n (pc := 33) hx hb dX11_newName_33 rfl (lv_at hl 0 rfl) ?_
  refine g_get (pc := 34) (v := .int (st.1 0 2)) hC hU hH gk1_0 g_cl11 2 (by decide) kf_X11_197 rfl dX11_newName_34 ?_
  refine lv_if_le (tgt := 41) (pc := 37) hx hb dX11_newName_37 (by decide) (fun hc => ?_) (fun hc => ?_)
  · have hf := gif_p hc hf
    refine lv_aload_n (pc := 41) hx hb dX11_newName_41 rfl (lv_at hl 0 rfl) ?_
    refine g_get (pc := 42) (v := .ref (ad 2)) hC hU hH gk1_0 g_cl11 10 (by decide) kf_X11_17 rfl dX11_newName_42 ?_
    refine lv_iload_n (pc := 45) hx hb dX11_newName_45 rfl (lv_at hl 1 rfl) ?_
    refine lv_iload_n (pc := 46) hx hb dX11_newName_46 rfl (lv_at hl 2 rfl) ?_
    refine lv_iadd (pc := 47) hx hb dX11_newName_47 ?_
    refine lv_aload_n (pc := 48) hx hb dX11_newName_48 rfl (lv_at hl 0 rfl) ?_
    refine g_get (pc := 49) (v := .long (st.2.1 0 9)) hC hU hH gk1_0 g_cl11 9 (by decide) kf_X11_177 rfl dX11_newName_49 ?_
    obtain ⟨h33_1, hf⟩ := gc_s hf
    refine g_last (pc := 52) hC hU hH hS gk1_2 gn1_2 h33_1 dX11_newName_52 (fun H locs hH hS => ?_)
    refine lv_aload_n (pc := 53) hx hb dX11_newName_53 rfl (lv_at hl 0 rfl) ?_
    obtain ⟨q33_1, hq33_1, hf⟩ := gbd hf
    refine g_callVv (pc := 54) (rest := []) hC hU hH hS hl.1 gk1_0 rfl (by decide) (mX11_token  hq33_1) ky_X11_token km_X11_249 ⟨Nat.le_of_ble_eq_true rfl, Nat.le_of_ble_eq_true rfl⟩ ⟨Nat.zero_le _, Nat.zero_le _⟩ rfl (Nat.le_of_ble_eq_true rfl) dX11_newName_54 rfl (fun H locs hH hS => ?_)
    exact g_vret (pc := 57) hC hret hlk hH hS hf dX11_newName_57
  · have hf := gif_n hc hf
    exact g_vret (pc := 40) hC hret hlk hH hS hf dX11_newName_40
def fX11_newName (a1 : Int32) (a2 : Int32)   (st : gS) : Option (gS) :=
  (fX11_token st).bind fun q0_1 => ((fX11_isName q0_1).bind fun q0_2 => (if q0_2.1 = 0 then ((fX11_wrong 2 q0_2.2).bind fun q0_5 => (fX11_newName_33 a1 a2 q0_5)) else ((fX11_find a1 a2 q0_2.2).bind fun q0_3 => (if q0_3.1 < 0 then (fX11_newName_33 a1 a2 q0_3.2) else ((fX11_wrong 3 q0_3.2).bind fun q0_4 => (fX11_newName_33 a1 a2 q0_4))))))
set_option maxRecDepth 100000 in
set_option maxHeartbeats 4000000 in
theorem bX11_newName_0 {a1 : Int32} {a2 : Int32} (hC : CallFix p m c cX11_newName 3 s args lw_good RX11) (hret : meth.sig.returnType = none) (hlk : meth.locks = false) (hU : gU 1 D cA ad s)  {st' : gS}   {st : gS} {H : Heap} {locs : List Loc} {ls : Array Slot} (hf : fX11_newName a1 a2 st = some st') (hH : gP0 1 D cA ad st H) (hS : va_S (gA 1 ad) s.heap H locs) (hl : lv_has ls 3 [(0, .ref (ad 0)), (1, .int a1), (2, .int a2)]) : W p l e (gRm 3) s m args below meth c H locs 0 0 (MQ below (gQc 1 D cA ad st' none) args s 0 0 (gA 1 ad)) (F0 m 0 ls []) := by
  obtain ⟨hx, hb, hml, hown, hts⟩ := id hC
  unfold fX11_newName at hf
  refine lv_aload_n (pc := 0) hx hb dX11_newName_0 rfl (lv_at hl 0 rfl) ?_
  obtain ⟨q0_1, hq0_1, hf⟩ := gbd hf
  refine g_callVv (pc := 1) (rest := []) hC hU hH hS hl.1 gk1_0 rfl (by decide) (mX11_token  hq0_1) ky_X11_token km_X11_249 ⟨Nat.le_of_ble_eq_true rfl, Nat.le_of_ble_eq_true rfl⟩ ⟨Nat.zero_le _, Nat.zero_le _⟩ rfl (Nat.le_of_ble_eq_true rfl) dX11_newName_1 rfl (fun H locs hH hS => ?_)
  refine lv_aload_n (pc := 4) hx hb dX11_newName_4 rfl (lv_at hl 0 rfl) ?_
  obtain ⟨q0_2, hq0_2, hf⟩ := gbd hf
  refine g_callVi (pc := 5) (rest := []) hC hU hH hS hl.1 gk1_0 rfl (by decide) (mX11_isName  hq0_2) ky_X11_isName km_X11_260 ⟨Nat.le_of_ble_eq_true rfl, Nat.le_of_ble_eq_true rfl⟩ ⟨Nat.zero_le _, Nat.zero_le _⟩ rfl (Nat.le_of_ble_eq_true rfl) dX11_newName_5 rfl (fun H locs hH hS => ?_)
  refine lv_if_ne (tgt := 19) (pc := 8) hx hb dX11_newName_8 (by decide) (fun hc => ?_) (fun hc => ?_)
  · have hf := gif_n hc hf
    refine lv_aload_n (pc := 19) hx hb dX11_newName_19 rfl (lv_at hl 0 rfl) ?_
    refine lv_iload_n (pc := 20) hx hb dX11_newName_20 rfl (lv_at hl 1 rfl) ?_
    refine lv_iload_n (pc := 21) hx hb dX11_newName_21 rfl (lv_at hl 2 rfl) ?_
    obtain ⟨q0_3, hq0_3, hf⟩ := gbd hf
    refine g_callVi (pc := 22) (rest := []) hC hU hH hS hl.1 gk1_0 rfl (by decide) (mX11_find  hq0_3) ky_X11_find km_X11_263 ⟨Nat.le_of_ble_eq_true rfl, Nat.le_of_ble_eq_true rfl⟩ ⟨Nat.zero_le _, Nat.zero_le _⟩ rfl (Nat.le_of_ble_eq_true rfl) dX11_newName_22 rfl (fun H locs hH hS => ?_)
    refine lv_if_lt (tgt := 33) (pc := 25) hx hb dX11_newName_25 (by decide) (fun hc => ?_) (fun hc => ?_)
    · have hf := gif_p hc hf
      exact bX11_newName_33 hC hret hlk hU hf hH hS (lv_sub hl [0, 1, 2] rfl)
    · have hf := gif_n hc hf
      refine lv_aload_n (pc := 28) hx hb dX11_newName_28 rfl (lv_at hl 0 rfl) ?_
      refine lv_iconst (v := 3) (pc := 29) hx hb dX11_newName_29 (by decide) ?_
      obtain ⟨q0_4, hq0_4, hf⟩ := gbd hf
      refine g_callVv (pc := 30) (rest := []) hC hU hH hS hl.1 gk1_0 rfl (by decide) (mX11_wrong  hq0_4) ky_X11_wrong km_X11_246 ⟨Nat.le_of_ble_eq_true rfl, Nat.le_of_ble_eq_true rfl⟩ ⟨Nat.zero_le _, Nat.zero_le _⟩ rfl (Nat.le_of_ble_eq_true rfl) dX11_newName_30 rfl (fun H locs hH hS => ?_)
      exact bX11_newName_33 hC hret hlk hU hf hH hS (lv_sub hl [0, 1, 2] rfl)
  · have hf := gif_p hc hf
    refine lv_aload_n (pc := 11) hx hb dX11_newName_11 rfl (lv_at hl 0 rfl) ?_
    refine lv_iconst (v := 2) (pc := 12) hx hb dX11_newName_12 (by decide) ?_
    obtain ⟨q0_5, hq0_5, hf⟩ := gbd hf
    refine g_callVv (pc := 13) (rest := []) hC hU hH hS hl.1 gk1_0 rfl (by decide) (mX11_wrong  hq0_5) ky_X11_wrong km_X11_246 ⟨Nat.le_of_ble_eq_true rfl, Nat.le_of_ble_eq_true rfl⟩ ⟨Nat.zero_le _, Nat.zero_le _⟩ rfl (Nat.le_of_ble_eq_true rfl) dX11_newName_13 rfl (fun H locs hH hS => ?_)
    refine lv_goto (tgt := 33) (pc := 16) hx hb dX11_newName_16 (by decide) ?_
    exact bX11_newName_33 hC hret hlk hU hf hH hS (lv_sub hl [0, 1, 2] rfl)
set_option maxRecDepth 100000 in
set_option maxHeartbeats 4000000 in
theorem mX11_newName {l : Launch} {D : va_G} {cA : Nat → ClassId} {ad : Nat → Nat} {a1 : Int32} {a2 : Int32}  {st st' : gS} (hf : fX11_newName a1 a2 st = some st') : gM l yX11_newName cX11_newName 3 none 3 1 D cA ad st [.ref (ad 0), .int a1, .int a2] none st' := by
  refine g_met (by decide) (Nat.le_of_ble_eq_true rfl) ?_
  intro p e s m args below meth c ls hC hret hlk hU hH hl
  exact bX11_newName_0 hC hret hlk hU hf hH va_S.rf hl
def fX11_readFigure    (st : gS) : Option (gS) :=
  (fX11_newName 0 (st.1 0 43) st).bind fun q0_1 => (if (q0_1.1 0 2) = 0 then (some (wi q0_1 0 43 ((q0_1.1 0 43) + 1))) else (some q0_1))
set_option maxRecDepth 100000 in
set_option maxHeartbeats 4000000 in
theorem bX11_readFigure_0  (hC : CallFix p m c cX11_readFigure 1 s args lw_good RX11) (hret : meth.sig.returnType = none) (hlk : meth.locks = false) (hU : gU 1 D cA ad s)  {st' : gS}   {st : gS} {H : Heap} {locs : List Loc} {ls : Array Slot} (hf : fX11_readFigure st = some st') (hH : gP0 1 D cA ad st H) (hS : va_S (gA 1 ad) s.heap H locs) (hl : lv_has ls 1 [(0, .ref (ad 0))]) : W p l e (gRm 4) s m args below meth c H locs 0 0 (MQ below (gQc 1 D cA ad st' none) args s 0 0 (gA 1 ad)) (F0 m 0 ls []) := by
  obtain ⟨hx, hb, hml, hown, hts⟩ := id hC
  unfold fX11_readFigure at hf
  refine lv_aload_n (pc := 0) hx hb dX11_readFigure_0 rfl (lv_at hl 0 rfl) ?_
  refine lv_iconst (v := 0) (pc := 1) hx hb dX11_readFigure_1 (by decide) ?_
  refine lv_aload_n (pc := 2) hx hb dX11_readFigure_2 rfl (lv_at hl 0 rfl) ?_
  refine g_get (pc := 3) (v := .int (st.1 0 43)) hC hU hH gk1_0 g_cl11 43 (by decide) kf_X11_266 rfl dX11_readFigure_3 ?_
  obtain ⟨q0_1, hq0_1, hf⟩ := gbd hf
  refine g_callVv (pc := 6) (rest := []) hC hU hH hS hl.1 gk1_0 rfl (by decide) (mX11_newName  hq0_1) ky_X11_newName km_X11_336 ⟨Nat.le_of_ble_eq_true rfl, Nat.le_of_ble_eq_true rfl⟩ ⟨Nat.zero_le _, Nat.zero_le _⟩ rfl (Nat.le_of_ble_eq_true rfl) dX11_readFigure_6 rfl (fun H locs hH hS => ?_)
  refine lv_aload_n (pc := 9) hx hb dX11_readFigure_9 rfl (lv_at hl 0 rfl) ?_
  refine g_get (pc := 10) (v := .int (q0_1.1 0 2)) hC hU hH gk1_0 g_cl11 2 (by decide) kf_X11_197 rfl dX11_readFigure_10 ?_
  refine lv_if_ne (tgt := 26) (pc := 13) hx hb dX11_readFigure_13 (by decide) (fun hc => ?_) (fun hc => ?_)
  · have hf := gif_n hc hf
    exact g_vret (pc := 26) hC hret hlk hH hS hf dX11_readFigure_26
  · have hf := gif_p hc hf
    refine lv_aload_n (pc := 16) hx hb dX11_readFigure_16 rfl (lv_at hl 0 rfl) ?_
    refine lv_dup (pc := 17) hx hb dX11_readFigure_17 rfl ?_
    refine g_get (pc := 18) (v := .int (q0_1.1 0 43)) hC hU hH gk1_0 g_cl11 43 (by decide) kf_X11_266 rfl dX11_readFigure_18 ?_
    refine lv_iconst (v := 1) (pc := 21) hx hb dX11_readFigure_21 (by decide) ?_
    refine lv_iadd (pc := 22) hx hb dX11_readFigure_22 ?_
    refine g_puti (pc := 23) hC hU hH hS gk1_0 g_cl11 43 (by decide) kf_X11_266 rfl rfl rfl rfl dX11_readFigure_23 (fun H locs hH hS => ?_)
    exact g_vret (pc := 26) hC hret hlk hH hS hf dX11_readFigure_26
set_option maxRecDepth 100000 in
set_option maxHeartbeats 4000000 in
theorem mX11_readFigure {l : Launch} {D : va_G} {cA : Nat → ClassId} {ad : Nat → Nat}   {st st' : gS} (hf : fX11_readFigure  st = some st') : gM l yX11_readFigure cX11_readFigure 1 none 4 1 D cA ad st [.ref (ad 0)] none st' := by
  refine g_met (by decide) (Nat.le_of_ble_eq_true rfl) ?_
  intro p e s m args below meth c ls hC hret hlk hU hH hl
  exact bX11_readFigure_0 hC hret hlk hU hf hH va_S.rf hl
def fX11_want (a1 : Int64)   (st : gS) : Option (gS) :=
  if (st.1 0 2) ≤ 0 then ((fX11_isWord a1 st).bind fun q0_1 => (if q0_1.1 = 0 then ((fX11_wrong 2 q0_1.2).bind fun q0_3 => (some q0_3)) else ((fX11_token q0_1.2).bind fun q0_2 => (some q0_2)))) else (some st)
set_option maxRecDepth 100000 in
set_option maxHeartbeats 4000000 in
theorem bX11_want_0 {a1 : Int64} (hC : CallFix p m c cX11_want 3 s args lw_good RX11) (hret : meth.sig.returnType = none) (hlk : meth.locks = false) (hU : gU 1 D cA ad s)  {st' : gS}   {st : gS} {H : Heap} {locs : List Loc} {ls : Array Slot} (hf : fX11_want a1 st = some st') (hH : gP0 1 D cA ad st H) (hS : va_S (gA 1 ad) s.heap H locs) (hl : lv_has ls 3 [(0, .ref (ad 0)), (1, .long a1)]) : W p l e (gRm 3) s m args below meth c H locs 0 0 (MQ below (gQc 1 D cA ad st' none) args s 0 0 (gA 1 ad)) (F0 m 0 ls []) := by
  obtain ⟨hx, hb, hml, hown, hts⟩ := id hC
  unfold fX11_want at hf
  refine lv_aload_n (pc := 0) hx hb dX11_want_0 rfl (lv_at hl 0 rfl) ?_
  refine g_get (pc := 1) (v := .int (st.1 0 2)) hC hU hH gk1_0 g_cl11 2 (by decide) kf_X11_197 rfl dX11_want_1 ?_
  refine lv_if_le (tgt := 8) (pc := 4) hx hb dX11_want_4 (by decide) (fun hc => ?_) (fun hc => ?_)
  · have hf := gif_p hc hf
    refine lv_aload_n (pc := 8) hx hb dX11_want_8 rfl (lv_at hl 0 rfl) ?_
    refine lv_lload_n (pc := 9) hx hb dX11_want_9 rfl (lv_at hl 1 rfl) ?_
    obtain ⟨q0_1, hq0_1, hf⟩ := gbd hf
    refine g_callVi (pc := 10) (rest := []) hC hU hH hS hl.1 gk1_0 rfl (by decide) (mX11_isWord  hq0_1) ky_X11_isWord km_X11_242 ⟨Nat.le_of_ble_eq_true rfl, Nat.le_of_ble_eq_true rfl⟩ ⟨Nat.zero_le _, Nat.zero_le _⟩ rfl (Nat.le_of_ble_eq_true rfl) dX11_want_10 rfl (fun H locs hH hS => ?_)
    refine lv_if_ne (tgt := 24) (pc := 13) hx hb dX11_want_13 (by decide) (fun hc => ?_) (fun hc => ?_)
    · have hf := gif_n hc hf
      refine lv_aload_n (pc := 24) hx hb dX11_want_24 rfl (lv_at hl 0 rfl) ?_
      obtain ⟨q0_2, hq0_2, hf⟩ := gbd hf
      refine g_callVv (pc := 25) (rest := []) hC hU hH hS hl.1 gk1_0 rfl (by decide) (mX11_token  hq0_2) ky_X11_token km_X11_249 ⟨Nat.le_of_ble_eq_true rfl, Nat.le_of_ble_eq_true rfl⟩ ⟨Nat.zero_le _, Nat.zero_le _⟩ rfl (Nat.le_of_ble_eq_true rfl) dX11_want_25 rfl (fun H locs hH hS => ?_)
      exact g_vret (pc := 28) hC hret hlk hH hS hf dX11_want_28
    · have hf := gif_p hc hf
      refine lv_aload_n (pc := 16) hx hb dX11_want_16 rfl (lv_at hl 0 rfl) ?_
      refine lv_iconst (v := 2) (pc := 17) hx hb dX11_want_17 (by decide) ?_
      obtain ⟨q0_3, hq0_3, hf⟩ := gbd hf
      refine g_callVv (pc := 18) (rest := []) hC hU hH hS hl.1 gk1_0 rfl (by decide) (mX11_wrong  hq0_3) ky_X11_wrong km_X11_246 ⟨Nat.le_of_ble_eq_true rfl, Nat.le_of_ble_eq_true rfl⟩ ⟨Nat.zero_le _, Nat.zero_le _⟩ rfl (Nat.le_of_ble_eq_true rfl) dX11_want_18 rfl (fun H locs hH hS => ?_)
      refine lv_goto (tgt := 28) (pc := 21) hx hb dX11_want_21 (by decide) ?_
      exact g_vret (pc := 28) hC hret hlk hH hS hf dX11_want_28
  · have hf := gif_n hc hf
    exact g_vret (pc := 7) hC hret hlk hH hS hf dX11_want_7
set_option maxRecDepth 100000 in
set_option maxHeartbeats 4000000 in
theorem mX11_want {l : Launch} {D : va_G} {cA : Nat → ClassId} {ad : Nat → Nat} {a1 : Int64}  {st st' : gS} (hf : fX11_want a1 st = some st') : gM l yX11_want cX11_want 3 none 3 1 D cA ad st [.ref (ad 0), .long a1] none st' := by
  refine g_met (by decide) (Nat.le_of_ble_eq_true rfl) ?_
  intro p e s m args below meth c ls hC hret hlk hU hH hl
  exact bX11_want_0 hC hret hlk hU hf hH va_S.rf hl
def fX11_toldNumber_46 (a1 : Int32) (a2 : Int32)   (st : gS) : Option (Int32 × gS) :=
  if (st.1 0 2) = 0 then ((fX11_token st).bind fun q46_1 => (some (st.1 0 8, q46_1))) else (some (st.1 0 8, st))
set_option maxRecDepth 100000 in
set_option maxHeartbeats 4000000 in
theorem bX11_toldNumber_46 {a1 : Int32} {a2 : Int32} (hC : CallFix p m c cX11_toldNumber 4 s args lw_good RX11) (hret : meth.sig.returnType = (some .int)) (hlk : meth.locks = false) (hU : gU 1 D cA ad s)  {r : Int32} {st' : gS}   {st : gS} {H : Heap} {locs : List Loc} {ls : Array Slot} (hf : fX11_toldNumber_46 a1 a2 st = some (r, st')) (hH : gP0 1 D cA ad st H) (hS : va_S (gA 1 ad) s.heap H locs) (hl : lv_has ls 4 [(0, .ref (ad 0))]) : W p l e (gRm 3) s m args below meth c H locs 0 0 (MQ below (gQc 1 D cA ad st' (some (.int r))) args s 0 0 (gA 1 ad)) (F0 m 46 ls []) := by
  obtain ⟨hx, hb, hml, hown, hts⟩ := id hC
  unfold fX11_toldNumber_46 at hf
  refine lv_aload_n (pc := 46) hx hb dX11_toldNumber_46 rfl (lv_at hl 0 rfl) ?_
  refine g_get (pc := 47) (v := .int (st.1 0 8)) hC hU hH gk1_0 g_cl11 8 (by decide) kf_X11_181 rfl dX11_toldNumber_47 ?_
  refine lv_istore_n (lv' := [(3, .int (st.1 0 8)), (0, .ref (ad 0))]) (pc := 50) hx hb dX11_toldNumber_50 rfl hl (by decide) rfl (fun ls hl => ?_)
  refine lv_aload_n (pc := 51) hx hb dX11_toldNumber_51 rfl (lv_at hl 1 rfl) ?_
  refine g_get (pc := 52) (v := .int (st.1 0 2)) hC hU hH gk1_0 g_cl11 2 (by decide) kf_X11_197 rfl dX11_toldNumber_52 ?_
  refine lv_if_ne (tgt := 62) (pc := 55) hx hb dX11_toldNumber_55 (by decide) (fun hc => ?_) (fun hc => ?_)
  · have hf := gif_n hc hf
    refine lv_iload_n (pc := 62) hx hb dX11_toldNumber_62 rfl (lv_at hl 0 rfl) ?_
    exact g_iret (pc := 63) hC hret hlk hH hS hf dX11_toldNumber_63
  · have hf := gif_p hc hf
    refine lv_aload_n (pc := 58) hx hb dX11_toldNumber_58 rfl (lv_at hl 1 rfl) ?_
    obtain ⟨q46_1, hq46_1, hf⟩ := gbd hf
    refine g_callVv (pc := 59) (rest := []) hC hU hH hS hl.1 gk1_0 rfl (by decide) (mX11_token  hq46_1) ky_X11_token km_X11_249 ⟨Nat.le_of_ble_eq_true rfl, Nat.le_of_ble_eq_true rfl⟩ ⟨Nat.zero_le _, Nat.zero_le _⟩ rfl (Nat.le_of_ble_eq_true rfl) dX11_toldNumber_59 rfl (fun H locs hH hS => ?_)
    refine lv_iload_n (pc := 62) hx hb dX11_toldNumber_62 rfl (lv_at hl 0 rfl) ?_
    exact g_iret (pc := 63) hC hret hlk hH hS hf dX11_toldNumber_63
def fX11_toldNumber_41 (a1 : Int32) (a2 : Int32)   (st : gS) : Option (Int32 × gS) :=
  (fX11_wrong 4 st).bind fun q41_1 => (fX11_toldNumber_46 a1 a2 q41_1)
set_option maxRecDepth 100000 in
set_option maxHeartbeats 4000000 in
theorem bX11_toldNumber_41 {a1 : Int32} {a2 : Int32} (hC : CallFix p m c cX11_toldNumber 4 s args lw_good RX11) (hret : meth.sig.returnType = (some .int)) (hlk : meth.locks = false) (hU : gU 1 D cA ad s)  {r : Int32} {st' : gS}   {st : gS} {H : Heap} {locs : List Loc} {ls : Array Slot} (hf : fX11_toldNumber_41 a1 a2 st = some (r, st')) (hH : gP0 1 D cA ad st H) (hS : va_S (gA 1 ad) s.heap H locs) (hl : lv_has ls 4 [(0, .ref (ad 0))]) : W p l e (gRm 3) s m args below meth c H locs 0 0 (MQ below (gQc 1 D cA ad st' (some (.int r))) args s 0 0 (gA 1 ad)) (F0 m 41 ls []) := by
  obtain ⟨hx, hb, hml, hown, hts⟩ := id hC
  unfold fX11_toldNumber_41 at hf
  refine lv_aload_n (pc := 41) hx hb dX11_toldNumber_41 rfl (lv_at hl 0 rfl) ?_
  refine lv_iconst (v := 4) (pc := 42) hx hb dX11_toldNumber_42 (by decide) ?_
  obtain ⟨q41_1, hq41_1, hf⟩ := gbd hf
  refine g_callVv (pc := 43) (rest := []) hC hU hH hS hl.1 gk1_0 rfl (by decide) (mX11_wrong  hq41_1) ky_X11_wrong km_X11_246 ⟨Nat.le_of_ble_eq_true rfl, Nat.le_of_ble_eq_true rfl⟩ ⟨Nat.zero_le _, Nat.zero_le _⟩ rfl (Nat.le_of_ble_eq_true rfl) dX11_toldNumber_43 rfl (fun H locs hH hS => ?_)
  exact bX11_toldNumber_46 hC hret hlk hU hf hH hS (lv_sub hl [0] rfl)
def fX11_toldNumber (a1 : Int32) (a2 : Int32)   (st : gS) : Option (Int32 × gS) :=
  if (st.1 0 2) ≤ 0 then (if (st.1 0 6) = 2 then (if (st.1 0 8) < a1 then (fX11_toldNumber_41 a1 a2 st) else (if (st.1 0 8) ≤ a2 then (fX11_toldNumber_46 a1 a2 st) else (fX11_toldNumber_41 a1 a2 st))) else ((fX11_wrong 2 st).bind fun q0_1 => (fX11_toldNumber_46 a1 a2 q0_1))) else (some (0, st))
set_option maxRecDepth 100000 in
set_option maxHeartbeats 4000000 in
theorem bX11_toldNumber_0 {a1 : Int32} {a2 : Int32} (hC : CallFix p m c cX11_toldNumber 4 s args lw_good RX11) (hret : meth.sig.returnType = (some .int)) (hlk : meth.locks = false) (hU : gU 1 D cA ad s)  {r : Int32} {st' : gS}   {st : gS} {H : Heap} {locs : List Loc} {ls : Array Slot} (hf : fX11_toldNumber a1 a2 st = some (r, st')) (hH : gP0 1 D cA ad st H) (hS : va_S (gA 1 ad) s.heap H locs) (hl : lv_has ls 4 [(0, .ref (ad 0)), (1, .int a1), (2, .int a2)]) : W p l e (gRm 3) s m args below meth c H locs 0 0 (MQ below (gQc 1 D cA ad st' (some (.int r))) args s 0 0 (gA 1 ad)) (F0 m 0 ls []) := by
  obtain ⟨hx, hb, hml, hown, hts⟩ := id hC
  unfold fX11_toldNumber at hf
  refine lv_aload_n (pc := 0) hx hb dX11_toldNumber_0 rfl (lv_at hl 0 rfl) ?_
  refine g_get (pc := 1) (v := .int (st.1 0 2)) hC hU hH gk1_0 g_cl11 2 (by decide) kf_X11_197 rfl dX11_toldNumber_1 ?_
  refine lv_if_le (tgt := 9) (pc := 4) hx hb dX11_toldNumber_4 (by decide) (fun hc => ?_) (fun hc => ?_)
  · have hf := gif_p hc hf
    refine lv_aload_n (pc := 9) hx hb dX11_toldNumber_9 rfl (lv_at hl 0 rfl) ?_
    refine g_get (pc := 10) (v := .int (st.1 0 6)) hC hU hH gk1_0 g_cl11 6 (by decide) kf_X11_184 rfl dX11_toldNumber_10 ?_
    refine lv_iconst (v := 2) (pc := 13) hx hb dX11_toldNumber_13 (by decide) ?_
    refine lv_icmp_eq (tgt := 25) (pc := 14) hx hb dX11_toldNumber_14 (by decide) (fun hc => ?_) (fun hc => ?_)
    · have hf := gif_p hc hf
      refine lv_aload_n (pc := 25) hx hb dX11_toldNumber_25 rfl (lv_at hl 0 rfl) ?_
      refine g_get (pc := 26) (v := .int (st.1 0 8)) hC hU hH gk1_0 g_cl11 8 (by decide) kf_X11_181 rfl dX11_toldNumber_26 ?_
      refine lv_iload_n (pc := 29) hx hb dX11_toldNumber_29 rfl (lv_at hl 1 rfl) ?_
      refine lv_icmp_lt (tgt := 41) (pc := 30) hx hb dX11_toldNumber_30 (by decide) (fun hc => ?_) (fun hc => ?_)
      · have hf := gif_p hc hf
        exact bX11_toldNumber_41 hC hret hlk hU hf hH hS (lv_sub hl [0] rfl)
      · have hf := gif_n hc hf
        refine lv_aload_n (pc := 33) hx hb dX11_toldNumber_33 rfl (lv_at hl 0 rfl) ?_
        refine g_get (pc := 34) (v := .int (st.1 0 8)) hC hU hH gk1_0 g_cl11 8 (by decide) kf_X11_181 rfl dX11_toldNumber_34 ?_
        refine lv_iload_n (pc := 37) hx hb dX11_toldNumber_37 rfl (lv_at hl 2 rfl) ?_
        refine lv_icmp_le (tgt := 46) (pc := 38) hx hb dX11_toldNumber_38 (by decide) (fun hc => ?_) (fun hc => ?_)
        · have hf := gif_p hc hf
          exact bX11_toldNumber_46 hC hret hlk hU hf hH hS (lv_sub hl [0] rfl)
        · have hf := gif_n hc hf
          exact bX11_toldNumber_41 hC hret hlk hU hf hH hS (lv_sub hl [0] rfl)
    · have hf := gif_n hc hf
      refine lv_aload_n (pc := 17) hx hb dX11_toldNumber_17 rfl (lv_at hl 0 rfl) ?_
      refine lv_iconst (v := 2) (pc := 18) hx hb dX11_toldNumber_18 (by decide) ?_
      obtain ⟨q0_1, hq0_1, hf⟩ := gbd hf
      refine g_callVv (pc := 19) (rest := []) hC hU hH hS hl.1 gk1_0 rfl (by decide) (mX11_wrong  hq0_1) ky_X11_wrong km_X11_246 ⟨Nat.le_of_ble_eq_true rfl, Nat.le_of_ble_eq_true rfl⟩ ⟨Nat.zero_le _, Nat.zero_le _⟩ rfl (Nat.le_of_ble_eq_true rfl) dX11_toldNumber_19 rfl (fun H locs hH hS => ?_)
      refine lv_goto (tgt := 46) (pc := 22) hx hb dX11_toldNumber_22 (by decide) ?_
      exact bX11_toldNumber_46 hC hret hlk hU hf hH hS (lv_sub hl [0] rfl)
  · have hf := gif_n hc hf
    refine lv_iconst (v := 0) (pc := 7) hx hb dX11_toldNumber_7 (by decide) ?_
    exact g_iret (pc := 8) hC hret hlk hH hS hf dX11_toldNumber_8
set_option maxRecDepth 100000 in
set_option maxHeartbeats 4000000 in
theorem mX11_toldNumber {l : Launch} {D : va_G} {cA : Nat → ClassId} {ad : Nat → Nat} {a1 : Int32} {a2 : Int32}  {r : Int32} {st st' : gS} (hf : fX11_toldNumber a1 a2 st = some (r, st')) : gM l yX11_toldNumber cX11_toldNumber 4 (some .int) 3 1 D cA ad st [.ref (ad 0), .int a1, .int a2] (some (.int r)) st' := by
  refine g_met (by decide) (Nat.le_of_ble_eq_true rfl) ?_
  intro p e s m args below meth c ls hC hret hlk hU hH hl
  exact bX11_toldNumber_0 hC hret hlk hU hf hH va_S.rf hl
def fX11_told (a1 : Int64) (a3 : Int32) (a4 : Int32)   (st : gS) : Option (Int32 × gS) :=
  (fX11_want a1 st).bind fun q0_1 => ((fX11_toldNumber a3 a4 q0_1).bind fun q0_2 => (some (q0_2.1, q0_2.2)))
set_option maxRecDepth 100000 in
set_option maxHeartbeats 4000000 in
theorem bX11_told_0 {a1 : Int64} {a3 : Int32} {a4 : Int32} (hC : CallFix p m c cX11_told 5 s args lw_good RX11) (hret : meth.sig.returnType = (some .int)) (hlk : meth.locks = false) (hU : gU 1 D cA ad s)  {r : Int32} {st' : gS}   {st : gS} {H : Heap} {locs : List Loc} {ls : Array Slot} (hf : fX11_told a1 a3 a4 st = some (r, st')) (hH : gP0 1 D cA ad st H) (hS : va_S (gA 1 ad) s.heap H locs) (hl : lv_has ls 5 [(0, .ref (ad 0)), (1, .long a1), (3, .int a3), (4, .int a4)]) : W p l e (gRm 4) s m args below meth c H locs 0 0 (MQ below (gQc 1 D cA ad st' (some (.int r))) args s 0 0 (gA 1 ad)) (F0 m 0 ls []) := by
  obtain ⟨hx, hb, hml, hown, hts⟩ := id hC
  unfold fX11_told at hf
  refine lv_aload_n (pc := 0) hx hb dX11_told_0 rfl (lv_at hl 0 rfl) ?_
  refine lv_lload_n (pc := 1) hx hb dX11_told_1 rfl (lv_at hl 1 rfl) ?_
  obtain ⟨q0_1, hq0_1, hf⟩ := gbd hf
  refine g_callVv (pc := 2) (rest := []) hC hU hH hS hl.1 gk1_0 rfl (by decide) (mX11_want  hq0_1) ky_X11_want km_X11_252 ⟨Nat.le_of_ble_eq_true rfl, Nat.le_of_ble_eq_true rfl⟩ ⟨Nat.zero_le _, Nat.zero_le _⟩ rfl (Nat.le_of_ble_eq_true rfl) dX11_told_2 rfl (fun H locs hH hS => ?_)
  refine lv_aload_n (pc := 5) hx hb dX11_told_5 rfl (lv_at hl 0 rfl) ?_
  refine lv_iload_n (pc := 6) hx hb dX11_told_6 rfl (lv_at hl 2 rfl) ?_
  refine lv_iload (pc := 7) hx hb dX11_told_7 (lv_at hl 3 rfl) ?_
  obtain ⟨q0_2, hq0_2, hf⟩ := gbd hf
  refine g_callVi (pc := 9) (rest := []) hC hU hH hS hl.1 gk1_0 rfl (by decide) (mX11_toldNumber  hq0_2) ky_X11_toldNumber km_X11_256 ⟨Nat.le_of_ble_eq_true rfl, Nat.le_of_ble_eq_true rfl⟩ ⟨Nat.zero_le _, Nat.zero_le _⟩ rfl (Nat.le_of_ble_eq_true rfl) dX11_told_9 rfl (fun H locs hH hS => ?_)
  exact g_iret (pc := 12) hC hret hlk hH hS hf dX11_told_12
set_option maxRecDepth 100000 in
set_option maxHeartbeats 4000000 in
theorem mX11_told {l : Launch} {D : va_G} {cA : Nat → ClassId} {ad : Nat → Nat} {a1 : Int64} {a3 : Int32} {a4 : Int32}  {r : Int32} {st st' : gS} (hf : fX11_told a1 a3 a4 st = some (r, st')) : gM l yX11_told cX11_told 5 (some .int) 4 1 D cA ad st [.ref (ad 0), .long a1, .int a3, .int a4] (some (.int r)) st' := by
  refine g_met (by decide) (Nat.le_of_ble_eq_true rfl) ?_
  intro p e s m args below meth c ls hC hret hlk hU hH hl
  exact bX11_told_0 hC hret hlk hU hf hH va_S.rf hl
def fX11_takes_20 (a1 : Int64)  (s0 : Int32) (st : gS) : Option (Int32 × gS) :=
  if s0 = 0 then (gc (gB s0) (some (s0, st))) else ((fX11_token st).bind fun q20_1 => (gc (gB s0) (some (s0, q20_1))))
set_option maxRecDepth 100000 in
set_option maxHeartbeats 4000000 in
theorem bX11_takes_20 {a1 : Int64} (hC : CallFix p m c cX11_takes 4 s args lw_good RX11) (hret : meth.sig.returnType = (some .boolean)) (hlk : meth.locks = false) (hU : gU 1 D cA ad s)  {r : Int32} {st' : gS}  {s0 : Int32} {st : gS} {H : Heap} {locs : List Loc} {ls : Array Slot} (hf : fX11_takes_20 a1 s0 st = some (r, st')) (hH : gP0 1 D cA ad st H) (hS : va_S (gA 1 ad) s.heap H locs) (hl : lv_has ls 4 [(0, .ref (ad 0))]) : W p l e (gRm 3) s m args below meth c H locs 0 0 (MQ below (gQc 1 D cA ad st' (some (.int r))) args s 0 0 (gA 1 ad)) (F0 m 20 ls [.int s0]) := by
  obtain ⟨hx, hb, hml, hown, hts⟩ := id hC
  unfold fX11_takes_20 at hf
  refine lv_istore_n (lv' := [(3, .int s0), (0, .ref (ad 0))]) (pc := 20) hx hb dX11_takes_20 rfl hl (by decide) rfl (fun ls hl => ?_)
  refine lv_iload_n (pc := 21) hx hb dX11_takes_21 rfl (lv_at hl 0 rfl) ?_
  refine lv_if_eq (tgt := 29) (pc := 22) hx hb dX11_takes_22 (by decide) (fun hc => ?_) (fun hc => ?_)
  · have hf := gif_p hc hf
    refine lv_iload_n (pc := 29) hx hb dX11_takes_29 rfl (lv_at hl 0 rfl) ?_
    obtain ⟨h20_1, hf⟩ := gc_s hf
    exact g_zret (pc := 30) hC hret hlk hH hS h20_1 hf dX11_takes_30
  · have hf := gif_n hc hf
    refine lv_aload_n (pc := 25) hx hb dX11_takes_25 rfl (lv_at hl 1 rfl) ?_
    obtain ⟨q20_1, hq20_1, hf⟩ := gbd hf
    refine g_callVv (pc := 26) (rest := []) hC hU hH hS hl.1 gk1_0 rfl (by decide) (mX11_token  hq20_1) ky_X11_token km_X11_249 ⟨Nat.le_of_ble_eq_true rfl, Nat.le_of_ble_eq_true rfl⟩ ⟨Nat.zero_le _, Nat.zero_le _⟩ rfl (Nat.le_of_ble_eq_true rfl) dX11_takes_26 rfl (fun H locs hH hS => ?_)
    refine lv_iload_n (pc := 29) hx hb dX11_takes_29 rfl (lv_at hl 0 rfl) ?_
    obtain ⟨h20_2, hf⟩ := gc_s hf
    exact g_zret (pc := 30) hC hret hlk hH hS h20_2 hf dX11_takes_30
def fX11_takes_19 (a1 : Int64)   (st : gS) : Option (Int32 × gS) :=
  fX11_takes_20 a1 0 st
set_option maxRecDepth 100000 in
set_option maxHeartbeats 4000000 in
theorem bX11_takes_19 {a1 : Int64} (hC : CallFix p m c cX11_takes 4 s args lw_good RX11) (hret : meth.sig.returnType = (some .boolean)) (hlk : meth.locks = false) (hU : gU 1 D cA ad s)  {r : Int32} {st' : gS}   {st : gS} {H : Heap} {locs : List Loc} {ls : Array Slot} (hf : fX11_takes_19 a1 st = some (r, st')) (hH : gP0 1 D cA ad st H) (hS : va_S (gA 1 ad) s.heap H locs) (hl : lv_has ls 4 [(0, .ref (ad 0))]) : W p l e (gRm 3) s m args below meth c H locs 0 0 (MQ below (gQc 1 D cA ad st' (some (.int r))) args s 0 0 (gA 1 ad)) (F0 m 19 ls []) := by
  obtain ⟨hx, hb, hml, hown, hts⟩ := id hC
  unfold fX11_takes_19 at hf
  refine lv_iconst (v := 0) (pc := 19) hx hb dX11_takes_19 (by decide) ?_
  exact bX11_takes_20 hC hret hlk hU hf hH hS (lv_sub hl [0] rfl)
def fX11_takes (a1 : Int64)   (st : gS) : Option (Int32 × gS) :=
  if (st.1 0 2) = 0 then ((fX11_isWord a1 st).bind fun q0_1 => (if q0_1.1 = 0 then (fX11_takes_19 a1 q0_1.2) else (fX11_takes_20 a1 1 q0_1.2))) else (fX11_takes_19 a1 st)
set_option maxRecDepth 100000 in
set_option maxHeartbeats 4000000 in
theorem bX11_takes_0 {a1 : Int64} (hC : CallFix p m c cX11_takes 4 s args lw_good RX11) (hret : meth.sig.returnType = (some .boolean)) (hlk : meth.locks = false) (hU : gU 1 D cA ad s)  {r : Int32} {st' : gS}   {st : gS} {H : Heap} {locs : List Loc} {ls : Array Slot} (hf : fX11_takes a1 st = some (r, st')) (hH : gP0 1 D cA ad st H) (hS : va_S (gA 1 ad) s.heap H locs) (hl : lv_has ls 4 [(0, .ref (ad 0)), (1, .long a1)]) : W p l e (gRm 3) s m args below meth c H locs 0 0 (MQ below (gQc 1 D cA ad st' (some (.int r))) args s 0 0 (gA 1 ad)) (F0 m 0 ls []) := by
  obtain ⟨hx, hb, hml, hown, hts⟩ := id hC
  unfold fX11_takes at hf
  refine lv_aload_n (pc := 0) hx hb dX11_takes_0 rfl (lv_at hl 0 rfl) ?_
  refine g_get (pc := 1) (v := .int (st.1 0 2)) hC hU hH gk1_0 g_cl11 2 (by decide) kf_X11_197 rfl dX11_takes_1 ?_
  refine lv_if_ne (tgt := 19) (pc := 4) hx hb dX11_takes_4 (by decide) (fun hc => ?_) (fun hc => ?_)
  · have hf := gif_n hc hf
    exact bX11_takes_19 hC hret hlk hU hf hH hS (lv_sub hl [0] rfl)
  · have hf := gif_p hc hf
    refine lv_aload_n (pc := 7) hx hb dX11_takes_7 rfl (lv_at hl 0 rfl) ?_
    refine lv_lload_n (pc := 8) hx hb dX11_takes_8 rfl (lv_at hl 1 rfl) ?_
    obtain ⟨q0_1, hq0_1, hf⟩ := gbd hf
    refine g_callVi (pc := 9) (rest := []) hC hU hH hS hl.1 gk1_0 rfl (by decide) (mX11_isWord  hq0_1) ky_X11_isWord km_X11_242 ⟨Nat.le_of_ble_eq_true rfl, Nat.le_of_ble_eq_true rfl⟩ ⟨Nat.zero_le _, Nat.zero_le _⟩ rfl (Nat.le_of_ble_eq_true rfl) dX11_takes_9 rfl (fun H locs hH hS => ?_)
    refine lv_if_eq (tgt := 19) (pc := 12) hx hb dX11_takes_12 (by decide) (fun hc => ?_) (fun hc => ?_)
    · have hf := gif_p hc hf
      exact bX11_takes_19 hC hret hlk hU hf hH hS (lv_sub hl [0] rfl)
    · have hf := gif_n hc hf
      refine lv_iconst (v := 1) (pc := 15) hx hb dX11_takes_15 (by decide) ?_
      refine lv_goto (tgt := 20) (pc := 16) hx hb dX11_takes_16 (by decide) ?_
      exact bX11_takes_20 hC hret hlk hU hf hH hS (lv_sub hl [0] rfl)
set_option maxRecDepth 100000 in
set_option maxHeartbeats 4000000 in
theorem mX11_takes {l : Launch} {D : va_G} {cA : Nat → ClassId} {ad : Nat → Nat} {a1 : Int64}  {r : Int32} {st st' : gS} (hf : fX11_takes a1 st = some (r, st')) : gM l yX11_takes cX11_takes 4 (some .boolean) 3 1 D cA ad st [.ref (ad 0), .long a1] (some (.int r)) st' := by
  refine g_met (by decide) (Nat.le_of_ble_eq_true rfl) ?_
  intro p e s m args below meth c ls hC hret hlk hU hH hl
  exact bX11_takes_0 hC hret hlk hU hf hH va_S.rf hl
def fX11_readTribe_140  (k140 : Int32 → Int32 → gS → Option (gS)) (l1 : Int32) (l2 : Int32) (st : gS) : Option (gS) :=
  if 8 ≤ l2 then (some (wi st 0 44 ((st.1 0 44) + 1))) else (gc (gI ((8 * l1) + l2) 40) (k140 l1 (l2 + 1) (wi st 14 ((8 * l1) + l2).toNatClampNeg (-1))))
set_option maxRecDepth 100000 in
set_option maxHeartbeats 4000000 in
theorem bX11_readTribe_140  (hC : CallFix p m c cX11_readTribe 3 s args lw_good RX11) (hret : meth.sig.returnType = none) (hlk : meth.locks = false) (hU : gU 1 D cA ad s)  {st' : gS} {k140 : Int32 → Int32 → gS → Option (gS)} (hk140 : ∀ {l1 : Int32} {l2 : Int32} {st : gS} {H : Heap} {locs : List Loc} {ls : Array Slot}, k140 l1 l2 st = some st' → gP0 1 D cA ad st H → va_S (gA 1 ad) s.heap H locs → lv_has ls 3 [(0, .ref (ad 0)), (1, .int l1), (2, .int l2)] → W p l e (gRm 5) s m args below meth c H locs 0 0 (MQ below (gQc 1 D cA ad st' none) args s 0 0 (gA 1 ad)) (F0 m 140 ls [])) {l1 : Int32} {l2 : Int32} {st : gS} {H : Heap} {locs : List Loc} {ls : Array Slot} (hf : fX11_readTribe_140 k140 l1 l2 st = some st') (hH : gP0 1 D cA ad st H) (hS : va_S (gA 1 ad) s.heap H locs) (hl : lv_has ls 3 [(0, .ref (ad 0)), (1, .int l1), (2, .int l2)]) : W p l e (gRm 5) s m args below meth c H locs 0 0 (MQ below (gQc 1 D cA ad st' none) args s 0 0 (gA 1 ad)) (F0 m 140 ls []) := by
  obtain ⟨hx, hb, hml, hown, hts⟩ := id hC
  unfold fX11_readTribe_140 at hf
  refine lv_iload_n (pc := 140) hx hb dX11_readTribe_140 rfl (lv_at hl 2 rfl) ?_
  refine lv_bipush (v := 8) (pc := 141) hx hb dX11_readTribe_141 (by decide) ?_
  refine lv_icmp_ge (tgt := 164) (pc := 143) hx hb dX11_readTribe_143 (by decide) (fun hc => ?_) (fun hc => ?_)
  · have hf := gif_p hc hf
    refine lv_aload_n (pc := 164) hx hb dX11_readTribe_164 rfl (lv_at hl 0 rfl) ?_
    refine lv_dup (pc := 165) hx hb dX11_readTribe_165 rfl ?_
    refine g_get (pc := 166) (v := .int (st.1 0 44)) hC hU hH gk1_0 g_cl11 44 (by decide) kf_X11_339 rfl dX11_readTribe_166 ?_
    refine lv_iconst (v := 1) (pc := 169) hx hb dX11_readTribe_169 (by decide) ?_
    refine lv_iadd (pc := 170) hx hb dX11_readTribe_170 ?_
    refine g_puti (pc := 171) hC hU hH hS gk1_0 g_cl11 44 (by decide) kf_X11_339 rfl rfl rfl rfl dX11_readTribe_171 (fun H locs hH hS => ?_)
    exact g_vret (pc := 174) hC hret hlk hH hS hf dX11_readTribe_174
  · have hf := gif_n hc hf
    refine lv_aload_n (pc := 146) hx hb dX11_readTribe_146 rfl (lv_at hl 0 rfl) ?_
    refine g_get (pc := 147) (v := .ref (ad 14)) hC hU hH gk1_0 g_cl11 29 (by decide) kf_X11_54 rfl dX11_readTribe_147 ?_
    refine lv_bipush (v := 8) (pc := 150) hx hb dX11_readTribe_150 (by decide) ?_
    refine lv_iload_n (pc := 152) hx hb dX11_readTribe_152 rfl (lv_at hl 1 rfl) ?_
    refine lv_imul (pc := 153) hx hb dX11_readTribe_153 ?_
    refine lv_iload_n (pc := 154) hx hb dX11_readTribe_154 rfl (lv_at hl 2 rfl) ?_
    refine lv_iadd (pc := 155) hx hb dX11_readTribe_155 ?_
    refine lv_iconst (v := (-1)) (pc := 156) hx hb dX11_readTribe_156 (by decide) ?_
    obtain ⟨h140_1, hf⟩ := gc_s hf
    refine g_iast (pc := 157) hC hU hH hS gk1_14 gn1_14 h140_1 dX11_readTribe_157 (fun H locs hH hS => ?_)
    refine lv_iinc (v := l2 + 1) (lv' := [(2, .int (l2 + 1)), (0, .ref (ad 0)), (1, .int l1)]) (k := 2) (pc := 158) hx hb dX11_readTribe_158 hl rfl rfl (by decide) rfl (fun ls hl => ?_)
    refine lv_goto (tgt := 140) (pc := 161) hx hb dX11_readTribe_161 (by decide) ?_
    exact hk140 hf hH hS (lv_sub hl [1, 2, 0] rfl)
def hX11_readTribe_140   : Nat → Int32 → Int32 → gS → Option (gS)
  | 0 => fun _ _ _ => none
  | n + 1 => fun l1 l2 st => fX11_readTribe_140 (hX11_readTribe_140  n) l1 l2 st
set_option maxRecDepth 100000 in
set_option maxHeartbeats 4000000 in
theorem wX11_readTribe_140  (hC : CallFix p m c cX11_readTribe 3 s args lw_good RX11) (hret : meth.sig.returnType = none) (hlk : meth.locks = false) (hU : gU 1 D cA ad s)  {st' : gS}  : ∀ (n : Nat) {l1 : Int32} {l2 : Int32} {st : gS} {H : Heap} {locs : List Loc} {ls : Array Slot}, hX11_readTribe_140  n l1 l2 st = some st' → gP0 1 D cA ad st H → va_S (gA 1 ad) s.heap H locs → lv_has ls 3 [(0, .ref (ad 0)), (1, .int l1), (2, .int l2)] → W p l e (gRm 5) s m args below meth c H locs 0 0 (MQ below (gQc 1 D cA ad st' none) args s 0 0 (gA 1 ad)) (F0 m 140 ls []) := by
  intro n
  induction n with
  | zero => intro l1 l2 st H locs ls hf hH hS hl; cases hf
  | succ n ih =>
    intro l1 l2 st H locs ls hf hH hS hl
    exact bX11_readTribe_140  hC hret hlk hU (fun hf hH hS hl => ih hf hH hS hl) hf hH hS hl
def fX11_readTribe_87  (k38 : Int32 → gS → Option (gS)) (l1 : Int32) (st : gS) : Option (gS) :=
  (fX11_toldNumber 0 9 st).bind fun q87_1 => (if (q87_1.2.1 0 2) = 0 then (gc (gI l1 5) (gc (gI l1 5) (k38 l1 (wi q87_1.2 11 l1.toNatClampNeg ((q87_1.2.1 11 l1.toNatClampNeg) ||| (1 <<< (q87_1.1 &&& 31))))))) else (k38 l1 q87_1.2))
set_option maxRecDepth 100000 in
set_option maxHeartbeats 4000000 in
theorem bX11_readTribe_87  (hC : CallFix p m c cX11_readTribe 3 s args lw_good RX11) (hret : meth.sig.returnType = none) (hlk : meth.locks = false) (hU : gU 1 D cA ad s)  {st' : gS} {k38 : Int32 → gS → Option (gS)} (hk38 : ∀ {l1 : Int32} {st : gS} {H : Heap} {locs : List Loc} {ls : Array Slot}, k38 l1 st = some st' → gP0 1 D cA ad st H → va_S (gA 1 ad) s.heap H locs → lv_has ls 3 [(0, .ref (ad 0)), (1, .int l1)] → W p l e (gRm 5) s m args below meth c H locs 0 0 (MQ below (gQc 1 D cA ad st' none) args s 0 0 (gA 1 ad)) (F0 m 38 ls [])) {l1 : Int32} {st : gS} {H : Heap} {locs : List Loc} {ls : Array Slot} (hf : fX11_readTribe_87 k38 l1 st = some st') (hH : gP0 1 D cA ad st H) (hS : va_S (gA 1 ad) s.heap H locs) (hl : lv_has ls 3 [(0, .ref (ad 0)), (1, .int l1)]) : W p l e (gRm 5) s m args below meth c H locs 0 0 (MQ below (gQc 1 D cA ad st' none) args s 0 0 (gA 1 ad)) (F0 m 87 ls []) := by
  obtain ⟨hx, hb, hml, hown, hts⟩ := id hC
  unfold fX11_readTribe_87 at hf
  refine lv_aload_n (pc := 87) hx hb dX11_readTribe_87 rfl (lv_at hl 0 rfl) ?_
  refine lv_iconst (v := 0) (pc := 88) hx hb dX11_readTribe_88 (by decide) ?_
  refine lv_bipush (v := 9) (pc := 89) hx hb dX11_readTribe_89 (by decide) ?_
  obtain ⟨q87_1, hq87_1, hf⟩ := gbd hf
  refine g_callVi (pc := 91) (rest := []) hC hU hH hS hl.1 gk1_0 rfl (by decide) (mX11_toldNumber  hq87_1) ky_X11_toldNumber km_X11_256 ⟨Nat.le_of_ble_eq_true rfl, Nat.le_of_ble_eq_true rfl⟩ ⟨Nat.zero_le _, Nat.zero_le _⟩ rfl (Nat.le_of_ble_eq_true rfl) dX11_readTribe_91 rfl (fun H locs hH hS => ?_)
  refine lv_istore_n (lv' := [(2, .int q87_1.1), (0, .ref (ad 0)), (1, .int l1)]) (pc := 94) hx hb dX11_readTribe_94 rfl hl (by decide) rfl (fun ls hl => ?_)
  refine lv_aload_n (pc := 95) hx hb dX11_readTribe_95 rfl (lv_at hl 1 rfl) ?_
  refine g_get (pc := 96) (v := .int (q87_1.2.1 0 2)) hC hU hH gk1_0 g_cl11 2 (by decide) kf_X11_197 rfl dX11_readTribe_96 ?_
  refine lv_if_ne (tgt := 114) (pc := 99) hx hb dX11_readTribe_99 (by decide) (fun hc => ?_) (fun hc => ?_)
  · have hf := gif_n hc hf
    refine lv_goto (tgt := 38) (pc := 114) hx hb dX11_readTribe_114 (by decide) ?_
    exact hk38 hf hH hS (lv_sub hl [1, 2] rfl)
  · have hf := gif_p hc hf
    refine lv_aload_n (pc := 102) hx hb dX11_readTribe_102 rfl (lv_at hl 1 rfl) ?_
    refine g_get (pc := 103) (v := .ref (ad 11)) hC hU hH gk1_0 g_cl11 26 (by decide) kf_X11_45 rfl dX11_readTribe_103 ?_
    refine lv_iload_n (pc := 106) hx hb dX11_readTribe_106 rfl (lv_at hl 2 rfl) ?_
    refine lv_dup2_11 (pc := 107) hx hb dX11_readTribe_107 rfl rfl ?_
    obtain ⟨h87_1, hf⟩ := gc_s hf
    refine g_iald (pc := 108) hC hU hH gk1_11 gn1_11 h87_1 dX11_readTribe_108 ?_
    refine lv_iconst (v := 1) (pc := 109) hx hb dX11_readTribe_109 (by decide) ?_
    refine lv_iload_n (pc := 110) hx hb dX11_readTribe_110 rfl (lv_at hl 0 rfl) ?_
    refine lv_ishl (pc := 111) hx hb dX11_readTribe_111 ?_
    refine lv_ior (pc := 112) hx hb dX11_readTribe_112 ?_
    obtain ⟨h87_2, hf⟩ := gc_s hf
    refine g_iast (pc := 113) hC hU hH hS gk1_11 gn1_11 h87_2 dX11_readTribe_113 (fun H locs hH hS => ?_)
    refine lv_goto (tgt := 38) (pc := 114) hx hb dX11_readTribe_114 (by decide) ?_
    exact hk38 hf hH hS (lv_sub hl [1, 2] rfl)
def fX11_readTribe_38  (k38 : Int32 → gS → Option (gS)) (l1 : Int32) (st : gS) : Option (gS) :=
  (fX11_takes 495874303590 st).bind fun q38_1 => (if q38_1.1 = 0 then ((fX11_takes 30796712728556147 q38_1.2).bind fun q38_2 => (gc (gI l1 5) (if ((wi q38_2.2 26 l1.toNatClampNeg (vp_nar .boolean q38_2.1)).1 0 2) ≤ 0 then (hX11_readTribe_140 FU l1 0 (wi q38_2.2 26 l1.toNatClampNeg (vp_nar .boolean q38_2.1))) else (some (wi q38_2.2 26 l1.toNatClampNeg (vp_nar .boolean q38_2.1)))))) else (if (q38_1.2.1 0 6) = 2 then (if 10 ≤ (q38_1.2.1 0 8) then (fX11_readTribe_87 k38 l1 q38_1.2) else (gc (gI l1 5) (if (((q38_1.2.1 11 l1.toNatClampNeg) >>> ((q38_1.2.1 0 8) &&& 31)) &&& 1) = 1 then ((fX11_wrong 3 q38_1.2).bind fun q38_3 => (fX11_readTribe_87 k38 l1 q38_3)) else (fX11_readTribe_87 k38 l1 q38_1.2)))) else (fX11_readTribe_87 k38 l1 q38_1.2)))
set_option maxRecDepth 100000 in
set_option maxHeartbeats 4000000 in
theorem bX11_readTribe_38  (hC : CallFix p m c cX11_readTribe 3 s args lw_good RX11) (hret : meth.sig.returnType = none) (hlk : meth.locks = false) (hU : gU 1 D cA ad s)  {st' : gS} {k38 : Int32 → gS → Option (gS)} (hk38 : ∀ {l1 : Int32} {st : gS} {H : Heap} {locs : List Loc} {ls : Array Slot}, k38 l1 st = some st' → gP0 1 D cA ad st H → va_S (gA 1 ad) s.heap H locs → lv_has ls 3 [(0, .ref (ad 0)), (1, .int l1)] → W p l e (gRm 5) s m args below meth c H locs 0 0 (MQ below (gQc 1 D cA ad st' none) args s 0 0 (gA 1 ad)) (F0 m 38 ls [])) {l1 : Int32} {st : gS} {H : Heap} {locs : List Loc} {ls : Array Slot} (hf : fX11_readTribe_38 k38 l1 st = some st') (hH : gP0 1 D cA ad st H) (hS : va_S (gA 1 ad) s.heap H locs) (hl : lv_has ls 3 [(0, .ref (ad 0)), (1, .int l1)]) : W p l e (gRm 5) s m args below meth c H locs 0 0 (MQ below (gQc 1 D cA ad st' none) args s 0 0 (gA 1 ad)) (F0 m 38 ls []) := by
  obtain ⟨hx, hb, hml, hown, hts⟩ := id hC
  unfold fX11_readTribe_38 at hf
  refine lv_aload_n (pc := 38) hx hb dX11_readTribe_38 rfl (lv_at hl 0 rfl) ?_
  refine lv_ldc2 (pc := 39) hx hb hown (hts _ kc_X11_206) dX11_readTribe_39 ?_
  obtain ⟨q38_1, hq38_1, hf⟩ := gbd hf
  refine g_callVi (pc := 42) (rest := []) hC hU hH hS hl.1 gk1_0 rfl (by decide) (mX11_takes  hq38_1) ky_X11_takes km_X11_346 ⟨Nat.le_of_ble_eq_true rfl, Nat.le_of_ble_eq_true rfl⟩ ⟨Nat.zero_le _, Nat.zero_le _⟩ rfl (Nat.le_of_ble_eq_true rfl) dX11_readTribe_42 rfl (fun H locs hH hS => ?_)
  refine lv_if_eq (tgt := 117) (pc := 45) hx hb dX11_readTribe_45 (by decide) (fun hc => ?_) (fun hc => ?_)
  · have hf := gif_p hc hf
    refine lv_aload_n (pc := 117) hx hb dX11_readTribe_117 rfl (lv_at hl 0 rfl) ?_
    refine g_get (pc := 118) (v := .ref (ad 26)) hC hU hH gk1_0 g_cl11 41 (by decide) kf_X11_90 rfl dX11_readTribe_118 ?_
    refine lv_iload_n (pc := 121) hx hb dX11_readTribe_121 rfl (lv_at hl 1 rfl) ?_
    refine lv_aload_n (pc := 122) hx hb dX11_readTribe_122 rfl (lv_at hl 0 rfl) ?_
    refine lv_ldc2 (pc := 123) hx hb hown (hts _ kc_X11_208) dX11_readTribe_123 ?_
    obtain ⟨q38_2, hq38_2, hf⟩ := gbd hf
    refine g_callVi (pc := 126) (rest := [.int l1, .ref (ad 26)]) hC hU hH hS hl.1 gk1_0 rfl (by decide) (mX11_takes  hq38_2) ky_X11_takes km_X11_346 ⟨Nat.le_of_ble_eq_true rfl, Nat.le_of_ble_eq_true rfl⟩ ⟨Nat.zero_le _, Nat.zero_le _⟩ rfl (Nat.le_of_ble_eq_true rfl) dX11_readTribe_126 rfl (fun H locs hH hS => ?_)
    obtain ⟨h38_1, hf⟩ := gc_s hf
    refine g_zast (pc := 129) hC hU hH hS gk1_26 gn1_26 h38_1 dX11_readTribe_129 (fun H locs hH hS => ?_)
    refine lv_aload_n (pc := 130) hx hb dX11_readTribe_130 rfl (lv_at hl 0 rfl) ?_
    refine g_get (pc := 131) (v := .int ((wi q38_2.2 26 l1.toNatClampNeg (vp_nar .boolean q38_2.1)).1 0 2)) hC hU hH gk1_0 g_cl11 2 (by decide) kf_X11_197 rfl dX11_readTribe_131 ?_
    refine lv_if_le (tgt := 138) (pc := 134) hx hb dX11_readTribe_134 (by decide) (fun hc => ?_) (fun hc => ?_)
    · have hf := gif_p hc hf
      refine lv_iconst (v := 0) (pc := 138) hx hb dX11_readTribe_138 (by decide) ?_
      refine lv_istore_n (lv' := [(2, .int 0), (0, .ref (ad 0)), (1, .int l1)]) (pc := 139) hx hb dX11_readTribe_139 rfl hl (by decide) rfl (fun ls hl => ?_)
      exact wX11_readTribe_140 hC hret hlk hU FU hf hH hS (lv_sub hl [1, 2, 0] rfl)
    · have hf := gif_n hc hf
      exact g_vret (pc := 137) hC hret hlk hH hS hf dX11_readTribe_137
  · have hf := gif_n hc hf
    refine lv_aload_n (pc := 48) hx hb dX11_readTribe_48 rfl (lv_at hl 0 rfl) ?_
    refine g_get (pc := 49) (v := .int (q38_1.2.1 0 6)) hC hU hH gk1_0 g_cl11 6 (by decide) kf_X11_184 rfl dX11_readTribe_49 ?_
    refine lv_iconst (v := 2) (pc := 52) hx hb dX11_readTribe_52 (by decide) ?_
    refine lv_icmp_ne (tgt := 87) (pc := 53) hx hb dX11_readTribe_53 (by decide) (fun hc => ?_) (fun hc => ?_)
    · have hf := gif_n hc hf
      exact bX11_readTribe_87 hC hret hlk hU hk38 hf hH hS (lv_sub hl [0, 1] rfl)
    · have hf := gif_p hc hf
      refine lv_aload_n (pc := 56) hx hb dX11_readTribe_56 rfl (lv_at hl 0 rfl) ?_
      refine g_get (pc := 57) (v := .int (q38_1.2.1 0 8)) hC hU hH gk1_0 g_cl11 8 (by decide) kf_X11_181 rfl dX11_readTribe_57 ?_
      refine lv_bipush (v := 10) (pc := 60) hx hb dX11_readTribe_60 (by decide) ?_
      refine lv_icmp_ge (tgt := 87) (pc := 62) hx hb dX11_readTribe_62 (by decide) (fun hc => ?_) (fun hc => ?_)
      · have hf := gif_p hc hf
        exact bX11_readTribe_87 hC hret hlk hU hk38 hf hH hS (lv_sub hl [0, 1] rfl)
      · have hf := gif_n hc hf
        refine lv_aload_n (pc := 65) hx hb dX11_readTribe_65 rfl (lv_at hl 0 rfl) ?_
        refine g_get (pc := 66) (v := .ref (ad 11)) hC hU hH gk1_0 g_cl11 26 (by decide) kf_X11_45 rfl dX11_readTribe_66 ?_
        refine lv_iload_n (pc := 69) hx hb dX11_readTribe_69 rfl (lv_at hl 1 rfl) ?_
        obtain ⟨h38_2, hf⟩ := gc_s hf
        refine g_iald (pc := 70) hC hU hH gk1_11 gn1_11 h38_2 dX11_readTribe_70 ?_
        refine lv_aload_n (pc := 71) hx hb dX11_readTribe_71 rfl (lv_at hl 0 rfl) ?_
        refine g_get (pc := 72) (v := .int (q38_1.2.1 0 8)) hC hU hH gk1_0 g_cl11 8 (by decide) kf_X11_181 rfl dX11_readTribe_72 ?_
        refine lv_ishr (pc := 75) hx hb dX11_readTribe_75 ?_
        refine lv_iconst (v := 1) (pc := 76) hx hb dX11_readTribe_76 (by decide) ?_
        refine lv_iand (pc := 77) hx hb dX11_readTribe_77 ?_
        refine lv_iconst (v := 1) (pc := 78) hx hb dX11_readTribe_78 (by decide) ?_
        refine lv_icmp_ne (tgt := 87) (pc := 79) hx hb dX11_readTribe_79 (by decide) (fun hc => ?_) (fun hc => ?_)
        · have hf := gif_n hc hf
          exact bX11_readTribe_87 hC hret hlk hU hk38 hf hH hS (lv_sub hl [0, 1] rfl)
        · have hf := gif_p hc hf
          refine lv_aload_n (pc := 82) hx hb dX11_readTribe_82 rfl (lv_at hl 0 rfl) ?_
          refine lv_iconst (v := 3) (pc := 83) hx hb dX11_readTribe_83 (by decide) ?_
          obtain ⟨q38_3, hq38_3, hf⟩ := gbd hf
          refine g_callVv (pc := 84) (rest := []) hC hU hH hS hl.1 gk1_0 rfl (by decide) (mX11_wrong  hq38_3) ky_X11_wrong km_X11_246 ⟨Nat.le_of_ble_eq_true rfl, Nat.le_of_ble_eq_true rfl⟩ ⟨Nat.zero_le _, Nat.zero_le _⟩ rfl (Nat.le_of_ble_eq_true rfl) dX11_readTribe_84 rfl (fun H locs hH hS => ?_)
          exact bX11_readTribe_87 hC hret hlk hU hk38 hf hH hS (lv_sub hl [0, 1] rfl)
def hX11_readTribe_38   : Nat → Int32 → gS → Option (gS)
  | 0 => fun _ _ => none
  | n + 1 => fun l1 st => fX11_readTribe_38 (hX11_readTribe_38  n) l1 st
set_option maxRecDepth 100000 in
set_option maxHeartbeats 4000000 in
theorem wX11_readTribe_38  (hC : CallFix p m c cX11_readTribe 3 s args lw_good RX11) (hret : meth.sig.returnType = none) (hlk : meth.locks = false) (hU : gU 1 D cA ad s)  {st' : gS}  : ∀ (n : Nat) {l1 : Int32} {st : gS} {H : Heap} {locs : List Loc} {ls : Array Slot}, hX11_readTribe_38  n l1 st = some st' → gP0 1 D cA ad st H → va_S (gA 1 ad) s.heap H locs → lv_has ls 3 [(0, .ref (ad 0)), (1, .int l1)] → W p l e (gRm 5) s m args below meth c H locs 0 0 (MQ below (gQc 1 D cA ad st' none) args s 0 0 (gA 1 ad)) (F0 m 38 ls []) := by
  intro n
  induction n with
  | zero => intro l1 st H locs ls hf hH hS hl; cases hf
  | succ n ih =>
    intro l1 st H locs ls hf hH hS hl
    exact bX11_readTribe_38  hC hret hlk hU (fun hf hH hS hl => ih hf hH hS hl) hf hH hS hl
def fX11_readTribe    (st : gS) : Option (gS) :=
  (fX11_newName 8 (st.1 0 44) st).bind fun q0_1 => ((fX11_told 495723310188 0 9 q0_1).bind fun q0_2 => (gc (gI (q0_1.1 0 44) 5) (gc (gI (q0_1.1 0 44) 5) (hX11_readTribe_38 FU (q0_1.1 0 44) (wi (wi q0_2.2 10 (q0_1.1 0 44).toNatClampNeg q0_2.1) 11 (q0_1.1 0 44).toNatClampNeg 0)))))
set_option maxRecDepth 100000 in
set_option maxHeartbeats 4000000 in
theorem bX11_readTribe_0  (hC : CallFix p m c cX11_readTribe 3 s args lw_good RX11) (hret : meth.sig.returnType = none) (hlk : meth.locks = false) (hU : gU 1 D cA ad s)  {st' : gS}   {st : gS} {H : Heap} {locs : List Loc} {ls : Array Slot} (hf : fX11_readTribe st = some st') (hH : gP0 1 D cA ad st H) (hS : va_S (gA 1 ad) s.heap H locs) (hl : lv_has ls 3 [(0, .ref (ad 0))]) : W p l e (gRm 5) s m args below meth c H locs 0 0 (MQ below (gQc 1 D cA ad st' none) args s 0 0 (gA 1 ad)) (F0 m 0 ls []) := by
  obtain ⟨hx, hb, hml, hown, hts⟩ := id hC
  unfold fX11_readTribe at hf
  refine lv_aload_n (pc := 0) hx hb dX11_readTribe_0 rfl (lv_at hl 0 rfl) ?_
  refine lv_bipush (v := 8) (pc := 1) hx hb dX11_readTribe_1 (by decide) ?_
  refine lv_aload_n (pc := 3) hx hb dX11_readTribe_3 rfl (lv_at hl 0 rfl) ?_
  refine g_get (pc := 4) (v := .int (st.1 0 44)) hC hU hH gk1_0 g_cl11 44 (by decide) kf_X11_339 rfl dX11_readTribe_4 ?_
  obtain ⟨q0_1, hq0_1, hf⟩ := gbd hf
  refine g_callVv (pc := 7) (rest := []) hC hU hH hS hl.1 gk1_0 rfl (by decide) (mX11_newName  hq0_1) ky_X11_newName km_X11_336 ⟨Nat.le_of_ble_eq_true rfl, Nat.le_of_ble_eq_true rfl⟩ ⟨Nat.zero_le _, Nat.zero_le _⟩ rfl (Nat.le_of_ble_eq_true rfl) dX11_readTribe_7 rfl (fun H locs hH hS => ?_)
  refine lv_aload_n (pc := 10) hx hb dX11_readTribe_10 rfl (lv_at hl 0 rfl) ?_
  refine g_get (pc := 11) (v := .int (q0_1.1 0 44)) hC hU hH gk1_0 g_cl11 44 (by decide) kf_X11_339 rfl dX11_readTribe_11 ?_
  refine lv_istore_n (lv' := [(1, .int (q0_1.1 0 44)), (0, .ref (ad 0))]) (pc := 14) hx hb dX11_readTribe_14 rfl hl (by decide) rfl (fun ls hl => ?_)
  refine lv_aload_n (pc := 15) hx hb dX11_readTribe_15 rfl (lv_at hl 1 rfl) ?_
  refine g_get (pc := 16) (v := .ref (ad 10)) hC hU hH gk1_0 g_cl11 25 (by decide) kf_X11_42 rfl dX11_readTribe_16 ?_
  refine lv_iload_n (pc := 19) hx hb dX11_readTribe_19 rfl (lv_at hl 0 rfl) ?_
  refine lv_aload_n (pc := 20) hx hb dX11_readTribe_20 rfl (lv_at hl 1 rfl) ?_
  refine lv_ldc2 (pc := 21) hx hb hown (hts _ kc_X11_204) dX11_readTribe_21 ?_
  refine lv_iconst (v := 0) (pc := 24) hx hb dX11_readTribe_24 (by decide) ?_
  refine lv_bipush (v := 9) (pc := 25) hx hb dX11_readTribe_25 (by decide) ?_
  obtain ⟨q0_2, hq0_2, hf⟩ := gbd hf
  refine g_callVi (pc := 27) (rest := [.int (q0_1.1 0 44), .ref (ad 10)]) hC hU hH hS hl.1 gk1_0 rfl (by decide) (mX11_told  hq0_2) ky_X11_told km_X11_342 ⟨Nat.le_of_ble_eq_true rfl, Nat.le_of_ble_eq_true rfl⟩ ⟨Nat.zero_le _, Nat.zero_le _⟩ rfl (Nat.le_of_ble_eq_true rfl) dX11_readTribe_27 rfl (fun H locs hH hS => ?_)
  obtain ⟨h0_1, hf⟩ := gc_s hf
  refine g_iast (pc := 30) hC hU hH hS gk1_10 gn1_10 h0_1 dX11_readTribe_30 (fun H locs hH hS => ?_)
  refine lv_aload_n (pc := 31) hx hb dX11_readTribe_31 rfl (lv_at hl 1 rfl) ?_
  refine g_get (pc := 32) (v := .ref (ad 11)) hC hU hH gk1_0 g_cl11 26 (by decide) kf_X11_45 rfl dX11_readTribe_32 ?_
  refine lv_iload_n (pc := 35) hx hb dX11_readTribe_35 rfl (lv_at hl 0 rfl) ?_
  refine lv_iconst (v := 0) (pc := 36) hx hb dX11_readTribe_36 (by decide) ?_
  obtain ⟨h0_2, hf⟩ := gc_s hf
  refine g_iast (pc := 37) hC hU hH hS gk1_11 gn1_11 h0_2 dX11_readTribe_37 (fun H locs hH hS => ?_)
  exact wX11_readTribe_38 hC hret hlk hU FU hf hH hS (lv_sub hl [1, 0] rfl)
set_option maxRecDepth 100000 in
set_option maxHeartbeats 4000000 in
theorem mX11_readTribe {l : Launch} {D : va_G} {cA : Nat → ClassId} {ad : Nat → Nat}   {st st' : gS} (hf : fX11_readTribe  st = some st') : gM l yX11_readTribe cX11_readTribe 3 none 5 1 D cA ad st [.ref (ad 0)] none st' := by
  refine g_met (by decide) (Nat.le_of_ble_eq_true rfl) ?_
  intro p e s m args below meth c ls hC hret hlk hU hH hl
  exact bX11_readTribe_0 hC hret hlk hU hf hH va_S.rf hl
def fX11_oldName_38 (a1 : Int32) (a2 : Int32)   (st : gS) : Option (Int32 × gS) :=
  if (st.1 0 2) ≤ 0 then ((fX11_find a1 a2 st).bind fun q38_1 => (some (q38_1.1, q38_1.2))) else (some (0, st))
set_option maxRecDepth 100000 in
set_option maxHeartbeats 4000000 in
theorem bX11_oldName_38 {a1 : Int32} {a2 : Int32} (hC : CallFix p m c cX11_oldName 3 s args lw_good RX11) (hret : meth.sig.returnType = (some .int)) (hlk : meth.locks = false) (hU : gU 1 D cA ad s)  {r : Int32} {st' : gS}   {st : gS} {H : Heap} {locs : List Loc} {ls : Array Slot} (hf : fX11_oldName_38 a1 a2 st = some (r, st')) (hH : gP0 1 D cA ad st H) (hS : va_S (gA 1 ad) s.heap H locs) (hl : lv_has ls 3 [(0, .ref (ad 0)), (1, .int a1), (2, .int a2)]) : W p l e (gRm 3) s m args below meth c H locs 0 0 (MQ below (gQc 1 D cA ad st' (some (.int r))) args s 0 0 (gA 1 ad)) (F0 m 38 ls []) := by
  obtain ⟨hx, hb, hml, hown, hts⟩ := id hC
  unfold fX11_oldName_38 at hf
  refine lv_aload_n (pc := 38) hx hb dX11_oldName_38 rfl (lv_at hl 0 rfl) ?_
  refine g_get (pc := 39) (v := .int (st.1 0 2)) hC hU hH gk1_0 g_cl11 2 (by decide) kf_X11_197 rfl dX11_oldName_39 ?_
  refine lv_if_le (tgt := 49) (pc := 42) hx hb dX11_oldName_42 (by decide) (fun hc => ?_) (fun hc => ?_)
  · have hf := gif_p hc hf
    refine lv_aload_n (pc := 49) hx hb dX11_oldName_49 rfl (lv_at hl 0 rfl) ?_
    refine lv_iload_n (pc := 50) hx hb dX11_oldName_50 rfl (lv_at hl 1 rfl) ?_
    refine lv_iload_n (pc := 51) hx hb dX11_oldName_51 rfl (lv_at hl 2 rfl) ?_
    obtain ⟨q38_1, hq38_1, hf⟩ := gbd hf
    refine g_callVi (pc := 52) (rest := []) hC hU hH hS hl.1 gk1_0 rfl (by decide) (mX11_find  hq38_1) ky_X11_find km_X11_263 ⟨Nat.le_of_ble_eq_true rfl, Nat.le_of_ble_eq_true rfl⟩ ⟨Nat.zero_le _, Nat.zero_le _⟩ rfl (Nat.le_of_ble_eq_true rfl) dX11_oldName_52 rfl (fun H locs hH hS => ?_)
    exact g_iret (pc := 55) hC hret hlk hH hS hf dX11_oldName_55
  · have hf := gif_n hc hf
    refine lv_iconst (v := 0) (pc := 45) hx hb dX11_oldName_45 (by decide) ?_
    refine lv_goto (tgt := 55) (pc := 46) hx hb dX11_oldName_46 (by decide) ?_
    exact g_iret (pc := 55) hC hret hlk hH hS hf dX11_oldName_55
def fX11_oldName (a1 : Int32) (a2 : Int32)   (st : gS) : Option (Int32 × gS) :=
  if (st.1 0 2) ≤ 0 then ((fX11_isName st).bind fun q0_1 => (if q0_1.1 = 0 then ((fX11_wrong 2 q0_1.2).bind fun q0_4 => (fX11_oldName_38 a1 a2 q0_4)) else ((fX11_find a1 a2 q0_1.2).bind fun q0_2 => (if 0 ≤ q0_2.1 then (fX11_oldName_38 a1 a2 q0_2.2) else ((fX11_wrong 5 q0_2.2).bind fun q0_3 => (fX11_oldName_38 a1 a2 q0_3)))))) else (some (0, st))
set_option maxRecDepth 100000 in
set_option maxHeartbeats 4000000 in
theorem bX11_oldName_0 {a1 : Int32} {a2 : Int32} (hC : CallFix p m c cX11_oldName 3 s args lw_good RX11) (hret : meth.sig.returnType = (some .int)) (hlk : meth.locks = false) (hU : gU 1 D cA ad s)  {r : Int32} {st' : gS}   {st : gS} {H : Heap} {locs : List Loc} {ls : Array Slot} (hf : fX11_oldName a1 a2 st = some (r, st')) (hH : gP0 1 D cA ad st H) (hS : va_S (gA 1 ad) s.heap H locs) (hl : lv_has ls 3 [(0, .ref (ad 0)), (1, .int a1), (2, .int a2)]) : W p l e (gRm 3) s m args below meth c H locs 0 0 (MQ below (gQc 1 D cA ad st' (some (.int r))) args s 0 0 (gA 1 ad)) (F0 m 0 ls []) := by
  obtain ⟨hx, hb, hml, hown, hts⟩ := id hC
  unfold fX11_oldName at hf
  refine lv_aload_n (pc := 0) hx hb dX11_oldName_0 rfl (lv_at hl 0 rfl) ?_
  refine g_get (pc := 1) (v := .int (st.1 0 2)) hC hU hH gk1_0 g_cl11 2 (by decide) kf_X11_197 rfl dX11_oldName_1 ?_
  refine lv_if_le (tgt := 9) (pc := 4) hx hb dX11_oldName_4 (by decide) (fun hc => ?_) (fun hc => ?_)
  · have hf := gif_p hc hf
    refine lv_aload_n (pc := 9) hx hb dX11_oldName_9 rfl (lv_at hl 0 rfl) ?_
    obtain ⟨q0_1, hq0_1, hf⟩ := gbd hf
    refine g_callVi (pc := 10) (rest := []) hC hU hH hS hl.1 gk1_0 rfl (by decide) (mX11_isName  hq0_1) ky_X11_isName km_X11_260 ⟨Nat.le_of_ble_eq_true rfl, Nat.le_of_ble_eq_true rfl⟩ ⟨Nat.zero_le _, Nat.zero_le _⟩ rfl (Nat.le_of_ble_eq_true rfl) dX11_oldName_10 rfl (fun H locs hH hS => ?_)
    refine lv_if_ne (tgt := 24) (pc := 13) hx hb dX11_oldName_13 (by decide) (fun hc => ?_) (fun hc => ?_)
    · have hf := gif_n hc hf
      refine lv_aload_n (pc := 24) hx hb dX11_oldName_24 rfl (lv_at hl 0 rfl) ?_
      refine lv_iload_n (pc := 25) hx hb dX11_oldName_25 rfl (lv_at hl 1 rfl) ?_
      refine lv_iload_n (pc := 26) hx hb dX11_oldName_26 rfl (lv_at hl 2 rfl) ?_
      obtain ⟨q0_2, hq0_2, hf⟩ := gbd hf
      refine g_callVi (pc := 27) (rest := []) hC hU hH hS hl.1 gk1_0 rfl (by decide) (mX11_find  hq0_2) ky_X11_find km_X11_263 ⟨Nat.le_of_ble_eq_true rfl, Nat.le_of_ble_eq_true rfl⟩ ⟨Nat.zero_le _, Nat.zero_le _⟩ rfl (Nat.le_of_ble_eq_true rfl) dX11_oldName_27 rfl (fun H locs hH hS => ?_)
      refine lv_if_ge (tgt := 38) (pc := 30) hx hb dX11_oldName_30 (by decide) (fun hc => ?_) (fun hc => ?_)
      · have hf := gif_p hc hf
        exact bX11_oldName_38 hC hret hlk hU hf hH hS (lv_sub hl [0, 1, 2] rfl)
      · have hf := gif_n hc hf
        refine lv_aload_n (pc := 33) hx hb dX11_oldName_33 rfl (lv_at hl 0 rfl) ?_
        refine lv_iconst (v := 5) (pc := 34) hx hb dX11_oldName_34 (by decide) ?_
        obtain ⟨q0_3, hq0_3, hf⟩ := gbd hf
        refine g_callVv (pc := 35) (rest := []) hC hU hH hS hl.1 gk1_0 rfl (by decide) (mX11_wrong  hq0_3) ky_X11_wrong km_X11_246 ⟨Nat.le_of_ble_eq_true rfl, Nat.le_of_ble_eq_true rfl⟩ ⟨Nat.zero_le _, Nat.zero_le _⟩ rfl (Nat.le_of_ble_eq_true rfl) dX11_oldName_35 rfl (fun H locs hH hS => ?_)
        exact bX11_oldName_38 hC hret hlk hU hf hH hS (lv_sub hl [0, 1, 2] rfl)
    · have hf := gif_p hc hf
      refine lv_aload_n (pc := 16) hx hb dX11_oldName_16 rfl (lv_at hl 0 rfl) ?_
      refine lv_iconst (v := 2) (pc := 17) hx hb dX11_oldName_17 (by decide) ?_
      obtain ⟨q0_4, hq0_4, hf⟩ := gbd hf
      refine g_callVv (pc := 18) (rest := []) hC hU hH hS hl.1 gk1_0 rfl (by decide) (mX11_wrong  hq0_4) ky_X11_wrong km_X11_246 ⟨Nat.le_of_ble_eq_true rfl, Nat.le_of_ble_eq_true rfl⟩ ⟨Nat.zero_le _, Nat.zero_le _⟩ rfl (Nat.le_of_ble_eq_true rfl) dX11_oldName_18 rfl (fun H locs hH hS => ?_)
      refine lv_goto (tgt := 38) (pc := 21) hx hb dX11_oldName_21 (by decide) ?_
      exact bX11_oldName_38 hC hret hlk hU hf hH hS (lv_sub hl [0, 1, 2] rfl)
  · have hf := gif_n hc hf
    refine lv_iconst (v := 0) (pc := 7) hx hb dX11_oldName_7 (by decide) ?_
    exact g_iret (pc := 8) hC hret hlk hH hS hf dX11_oldName_8
set_option maxRecDepth 100000 in
set_option maxHeartbeats 4000000 in
theorem mX11_oldName {l : Launch} {D : va_G} {cA : Nat → ClassId} {ad : Nat → Nat} {a1 : Int32} {a2 : Int32}  {r : Int32} {st st' : gS} (hf : fX11_oldName a1 a2 st = some (r, st')) : gM l yX11_oldName cX11_oldName 3 (some .int) 3 1 D cA ad st [.ref (ad 0), .int a1, .int a2] (some (.int r)) st' := by
  refine g_met (by decide) (Nat.le_of_ble_eq_true rfl) ?_
  intro p e s m args below meth c ls hC hret hlk hU hH hl
  exact bX11_oldName_0 hC hret hlk hU hf hH va_S.rf hl
def fX11_figure    (st : gS) : Option (Int32 × gS) :=
  (fX11_oldName 0 (st.1 0 43) st).bind fun q0_1 => (if (q0_1.2.1 0 2) = 0 then ((fX11_token q0_1.2).bind fun q0_2 => (some (q0_1.1, q0_2))) else (some (q0_1.1, q0_1.2)))
set_option maxRecDepth 100000 in
set_option maxHeartbeats 4000000 in
theorem bX11_figure_0  (hC : CallFix p m c cX11_figure 2 s args lw_good RX11) (hret : meth.sig.returnType = (some .int)) (hlk : meth.locks = false) (hU : gU 1 D cA ad s)  {r : Int32} {st' : gS}   {st : gS} {H : Heap} {locs : List Loc} {ls : Array Slot} (hf : fX11_figure st = some (r, st')) (hH : gP0 1 D cA ad st H) (hS : va_S (gA 1 ad) s.heap H locs) (hl : lv_has ls 2 [(0, .ref (ad 0))]) : W p l e (gRm 4) s m args below meth c H locs 0 0 (MQ below (gQc 1 D cA ad st' (some (.int r))) args s 0 0 (gA 1 ad)) (F0 m 0 ls []) := by
  obtain ⟨hx, hb, hml, hown, hts⟩ := id hC
  unfold fX11_figure at hf
  refine lv_aload_n (pc := 0) hx hb dX11_figure_0 rfl (lv_at hl 0 rfl) ?_
  refine lv_iconst (v := 0) (pc := 1) hx hb dX11_figure_1 (by decide) ?_
  refine lv_aload_n (pc := 2) hx hb dX11_figure_2 rfl (lv_at hl 0 rfl) ?_
  refine g_get (pc := 3) (v := .int (st.1 0 43)) hC hU hH gk1_0 g_cl11 43 (by decide) kf_X11_266 rfl dX11_figure_3 ?_
  obtain ⟨q0_1, hq0_1, hf⟩ := gbd hf
  refine g_callVi (pc := 6) (rest := []) hC hU hH hS hl.1 gk1_0 rfl (by decide) (mX11_oldName  hq0_1) ky_X11_oldName km_X11_269 ⟨Nat.le_of_ble_eq_true rfl, Nat.le_of_ble_eq_true rfl⟩ ⟨Nat.zero_le _, Nat.zero_le _⟩ rfl (Nat.le_of_ble_eq_true rfl) dX11_figure_6 rfl (fun H locs hH hS => ?_)
  refine lv_istore_n (lv' := [(1, .int q0_1.1), (0, .ref (ad 0))]) (pc := 9) hx hb dX11_figure_9 rfl hl (by decide) rfl (fun ls hl => ?_)
  refine lv_aload_n (pc := 10) hx hb dX11_figure_10 rfl (lv_at hl 1 rfl) ?_
  refine g_get (pc := 11) (v := .int (q0_1.2.1 0 2)) hC hU hH gk1_0 g_cl11 2 (by decide) kf_X11_197 rfl dX11_figure_11 ?_
  refine lv_if_ne (tgt := 21) (pc := 14) hx hb dX11_figure_14 (by decide) (fun hc => ?_) (fun hc => ?_)
  · have hf := gif_n hc hf
    refine lv_iload_n (pc := 21) hx hb dX11_figure_21 rfl (lv_at hl 0 rfl) ?_
    exact g_iret (pc := 22) hC hret hlk hH hS hf dX11_figure_22
  · have hf := gif_p hc hf
    refine lv_aload_n (pc := 17) hx hb dX11_figure_17 rfl (lv_at hl 1 rfl) ?_
    obtain ⟨q0_2, hq0_2, hf⟩ := gbd hf
    refine g_callVv (pc := 18) (rest := []) hC hU hH hS hl.1 gk1_0 rfl (by decide) (mX11_token  hq0_2) ky_X11_token km_X11_249 ⟨Nat.le_of_ble_eq_true rfl, Nat.le_of_ble_eq_true rfl⟩ ⟨Nat.zero_le _, Nat.zero_le _⟩ rfl (Nat.le_of_ble_eq_true rfl) dX11_figure_18 rfl (fun H locs hH hS => ?_)
    refine lv_iload_n (pc := 21) hx hb dX11_figure_21 rfl (lv_at hl 0 rfl) ?_
    exact g_iret (pc := 22) hC hret hlk hH hS hf dX11_figure_22
set_option maxRecDepth 100000 in
set_option maxHeartbeats 4000000 in
theorem mX11_figure {l : Launch} {D : va_G} {cA : Nat → ClassId} {ad : Nat → Nat}   {r : Int32} {st st' : gS} (hf : fX11_figure  st = some (r, st')) : gM l yX11_figure cX11_figure 2 (some .int) 4 1 D cA ad st [.ref (ad 0)] (some (.int r)) st' := by
  refine g_met (by decide) (Nat.le_of_ble_eq_true rfl) ?_
  intro p e s m args below meth c ls hC hret hlk hU hH hl
  exact bX11_figure_0 hC hret hlk hU hf hH va_S.rf hl
def fX11_readMove_84   (s0 : Int32) (s1 : Int32) (st : gS) : Option (gS) :=
  gc (gI s1 16) (if ((wi st 20 s1.toNatClampNeg s0).1 0 2) = 0 then (some (wi (wi st 20 s1.toNatClampNeg s0) 0 45 (((wi st 20 s1.toNatClampNeg s0).1 0 45) + 1))) else (some (wi st 20 s1.toNatClampNeg s0)))
set_option maxRecDepth 100000 in
set_option maxHeartbeats 4000000 in
theorem bX11_readMove_84  (hC : CallFix p m c cX11_readMove 2 s args lw_good RX11) (hret : meth.sig.returnType = none) (hlk : meth.locks = false) (hU : gU 1 D cA ad s)  {st' : gS}  {s0 : Int32} {s1 : Int32} {st : gS} {H : Heap} {locs : List Loc} {ls : Array Slot} (hf : fX11_readMove_84 s0 s1 st = some st') (hH : gP0 1 D cA ad st H) (hS : va_S (gA 1 ad) s.heap H locs) (hl : lv_has ls 2 [(0, .ref (ad 0))]) : W p l e (gRm 5) s m args below meth c H locs 0 0 (MQ below (gQc 1 D cA ad st' none) args s 0 0 (gA 1 ad)) (F0 m 84 ls [.int s0, .int s1, .ref (ad 20)]) := by
  obtain ⟨hx, hb, hml, hown, hts⟩ := id hC
  unfold fX11_readMove_84 at hf
  obtain ⟨h84_1, hf⟩ := gc_s hf
  refine g_iast (pc := 84) hC hU hH hS gk1_20 gn1_20 h84_1 dX11_readMove_84 (fun H locs hH hS => ?_)
  refine lv_aload_n (pc := 85) hx hb dX11_readMove_85 rfl (lv_at hl 0 rfl) ?_
  refine g_get (pc := 86) (v := .int ((wi st 20 s1.toNatClampNeg s0).1 0 2)) hC hU hH gk1_0 g_cl11 2 (by decide) kf_X11_197 rfl dX11_readMove_86 ?_
  refine lv_if_ne (tgt := 102) (pc := 89) hx hb dX11_readMove_89 (by decide) (fun hc => ?_) (fun hc => ?_)
  · have hf := gif_n hc hf
    exact g_vret (pc := 102) hC hret hlk hH hS hf dX11_readMove_102
  · have hf := gif_p hc hf
    refine lv_aload_n (pc := 92) hx hb dX11_readMove_92 rfl (lv_at hl 0 rfl) ?_
    refine lv_dup (pc := 93) hx hb dX11_readMove_93 rfl ?_
    refine g_get (pc := 94) (v := .int ((wi st 20 s1.toNatClampNeg s0).1 0 45)) hC hU hH gk1_0 g_cl11 45 (by decide) kf_X11_349 rfl dX11_readMove_94 ?_
    refine lv_iconst (v := 1) (pc := 97) hx hb dX11_readMove_97 (by decide) ?_
    refine lv_iadd (pc := 98) hx hb dX11_readMove_98 ?_
    refine g_puti (pc := 99) hC hU hH hS gk1_0 g_cl11 45 (by decide) kf_X11_349 rfl rfl rfl rfl dX11_readMove_99 (fun H locs hH hS => ?_)
    exact g_vret (pc := 102) hC hret hlk hH hS hf dX11_readMove_102
def fX11_readMove    (st : gS) : Option (gS) :=
  (fX11_token st).bind fun q0_1 => ((fX11_figure q0_1).bind fun q0_2 => (gc (gI (q0_1.1 0 45) 16) ((fX11_figure (wi q0_2.2 16 (q0_1.1 0 45).toNatClampNeg q0_2.1)).bind fun q0_3 => (gc (gI (q0_1.1 0 45) 16) ((fX11_told 112603009869170 0 9 (wi q0_3.2 17 (q0_1.1 0 45).toNatClampNeg q0_3.1)).bind fun q0_4 => (gc (gI (q0_1.1 0 45) 16) ((fX11_told 1751216740 0 9 (wi q0_4.2 18 (q0_1.1 0 45).toNatClampNeg q0_4.1)).bind fun q0_5 => (gc (gI (q0_1.1 0 45) 16) ((fX11_takes 513021013607 (wi q0_5.2 19 (q0_1.1 0 45).toNatClampNeg q0_5.1)).bind fun q0_6 => (if q0_6.1 = 0 then (fX11_readMove_84 (-1) (q0_1.1 0 45) q0_6.2) else ((fX11_figure q0_6.2).bind fun q0_7 => (fX11_readMove_84 q0_7.1 (q0_1.1 0 45) q0_7.2))))))))))))
set_option maxRecDepth 100000 in
set_option maxHeartbeats 4000000 in
theorem bX11_readMove_0  (hC : CallFix p m c cX11_readMove 2 s args lw_good RX11) (hret : meth.sig.returnType = none) (hlk : meth.locks = false) (hU : gU 1 D cA ad s)  {st' : gS}   {st : gS} {H : Heap} {locs : List Loc} {ls : Array Slot} (hf : fX11_readMove st = some st') (hH : gP0 1 D cA ad st H) (hS : va_S (gA 1 ad) s.heap H locs) (hl : lv_has ls 2 [(0, .ref (ad 0))]) : W p l e (gRm 5) s m args below meth c H locs 0 0 (MQ below (gQc 1 D cA ad st' none) args s 0 0 (gA 1 ad)) (F0 m 0 ls []) := by
  obtain ⟨hx, hb, hml, hown, hts⟩ := id hC
  unfold fX11_readMove at hf
  refine lv_aload_n (pc := 0) hx hb dX11_readMove_0 rfl (lv_at hl 0 rfl) ?_
  obtain ⟨q0_1, hq0_1, hf⟩ := gbd hf
  refine g_callVv (pc := 1) (rest := []) hC hU hH hS hl.1 gk1_0 rfl (by decide) (mX11_token  hq0_1) ky_X11_token km_X11_249 ⟨Nat.le_of_ble_eq_true rfl, Nat.le_of_ble_eq_true rfl⟩ ⟨Nat.zero_le _, Nat.zero_le _⟩ rfl (Nat.le_of_ble_eq_true rfl) dX11_readMove_1 rfl (fun H locs hH hS => ?_)
  refine lv_aload_n (pc := 4) hx hb dX11_readMove_4 rfl (lv_at hl 0 rfl) ?_
  refine g_get (pc := 5) (v := .int (q0_1.1 0 45)) hC hU hH gk1_0 g_cl11 45 (by decide) kf_X11_349 rfl dX11_readMove_5 ?_
  refine lv_istore_n (lv' := [(1, .int (q0_1.1 0 45)), (0, .ref (ad 0))]) (pc := 8) hx hb dX11_readMove_8 rfl hl (by decide) rfl (fun ls hl => ?_)
  refine lv_aload_n (pc := 9) hx hb dX11_readMove_9 rfl (lv_at hl 1 rfl) ?_
  refine g_get (pc := 10) (v := .ref (ad 16)) hC hU hH gk1_0 g_cl11 31 (by decide) kf_X11_60 rfl dX11_readMove_10 ?_
  refine lv_iload_n (pc := 13) hx hb dX11_readMove_13 rfl (lv_at hl 0 rfl) ?_
  refine lv_aload_n (pc := 14) hx hb dX11_readMove_14 rfl (lv_at hl 1 rfl) ?_
  obtain ⟨q0_2, hq0_2, hf⟩ := gbd hf
  refine g_callVi (pc := 15) (rest := [.int (q0_1.1 0 45), .ref (ad 16)]) hC hU hH hS hl.1 gk1_0 rfl (by decide) (mX11_figure  hq0_2) ky_X11_figure km_X11_352 ⟨Nat.le_of_ble_eq_true rfl, Nat.le_of_ble_eq_true rfl⟩ ⟨Nat.zero_le _, Nat.zero_le _⟩ rfl (Nat.le_of_ble_eq_true rfl) dX11_readMove_15 rfl (fun H locs hH hS => ?_)
  obtain ⟨h0_1, hf⟩ := gc_s hf
  refine g_iast (pc := 18) hC hU hH hS gk1_16 gn1_16 h0_1 dX11_readMove_18 (fun H locs hH hS => ?_)
  refine lv_aload_n (pc := 19) hx hb dX11_readMove_19 rfl (lv_at hl 1 rfl) ?_
  refine g_get (pc := 20) (v := .ref (ad 17)) hC hU hH gk1_0 g_cl11 32 (by decide) kf_X11_63 rfl dX11_readMove_20 ?_
  refine lv_iload_n (pc := 23) hx hb dX11_readMove_23 rfl (lv_at hl 0 rfl) ?_
  refine lv_aload_n (pc := 24) hx hb dX11_readMove_24 rfl (lv_at hl 1 rfl) ?_
  obtain ⟨q0_3, hq0_3, hf⟩ := gbd hf
  refine g_callVi (pc := 25) (rest := [.int (q0_1.1 0 45), .ref (ad 17)]) hC hU hH hS hl.1 gk1_0 rfl (by decide) (mX11_figure  hq0_3) ky_X11_figure km_X11_352 ⟨Nat.le_of_ble_eq_true rfl, Nat.le_of_ble_eq_true rfl⟩ ⟨Nat.zero_le _, Nat.zero_le _⟩ rfl (Nat.le_of_ble_eq_true rfl) dX11_readMove_25 rfl (fun H locs hH hS => ?_)
  obtain ⟨h0_2, hf⟩ := gc_s hf
  refine g_iast (pc := 28) hC hU hH hS gk1_17 gn1_17 h0_2 dX11_readMove_28 (fun H locs hH hS => ?_)
  refine lv_aload_n (pc := 29) hx hb dX11_readMove_29 rfl (lv_at hl 1 rfl) ?_
  refine g_get (pc := 30) (v := .ref (ad 18)) hC hU hH gk1_0 g_cl11 33 (by decide) kf_X11_66 rfl dX11_readMove_30 ?_
  refine lv_iload_n (pc := 33) hx hb dX11_readMove_33 rfl (lv_at hl 0 rfl) ?_
  refine lv_aload_n (pc := 34) hx hb dX11_readMove_34 rfl (lv_at hl 1 rfl) ?_
  refine lv_ldc2 (pc := 35) hx hb hown (hts _ kc_X11_212) dX11_readMove_35 ?_
  refine lv_iconst (v := 0) (pc := 38) hx hb dX11_readMove_38 (by decide) ?_
  refine lv_bipush (v := 9) (pc := 39) hx hb dX11_readMove_39 (by decide) ?_
  obtain ⟨q0_4, hq0_4, hf⟩ := gbd hf
  refine g_callVi (pc := 41) (rest := [.int (q0_1.1 0 45), .ref (ad 18)]) hC hU hH hS hl.1 gk1_0 rfl (by decide) (mX11_told  hq0_4) ky_X11_told km_X11_342 ⟨Nat.le_of_ble_eq_true rfl, Nat.le_of_ble_eq_true rfl⟩ ⟨Nat.zero_le _, Nat.zero_le _⟩ rfl (Nat.le_of_ble_eq_true rfl) dX11_readMove_41 rfl (fun H locs hH hS => ?_)
  obtain ⟨h0_3, hf⟩ := gc_s hf
  refine g_iast (pc := 44) hC hU hH hS gk1_18 gn1_18 h0_3 dX11_readMove_44 (fun H locs hH hS => ?_)
  refine lv_aload_n (pc := 45) hx hb dX11_readMove_45 rfl (lv_at hl 1 rfl) ?_
  refine g_get (pc := 46) (v := .ref (ad 19)) hC hU hH gk1_0 g_cl11 34 (by decide) kf_X11_69 rfl dX11_readMove_46 ?_
  refine lv_iload_n (pc := 49) hx hb dX11_readMove_49 rfl (lv_at hl 0 rfl) ?_
  refine lv_aload_n (pc := 50) hx hb dX11_readMove_50 rfl (lv_at hl 1 rfl) ?_
  refine lv_ldc2 (pc := 51) hx hb hown (hts _ kc_X11_214) dX11_readMove_51 ?_
  refine lv_iconst (v := 0) (pc := 54) hx hb dX11_readMove_54 (by decide) ?_
  refine lv_bipush (v := 9) (pc := 55) hx hb dX11_readMove_55 (by decide) ?_
  obtain ⟨q0_5, hq0_5, hf⟩ := gbd hf
  refine g_callVi (pc := 57) (rest := [.int (q0_1.1 0 45), .ref (ad 19)]) hC hU hH hS hl.1 gk1_0 rfl (by decide) (mX11_told  hq0_5) ky_X11_told km_X11_342 ⟨Nat.le_of_ble_eq_true rfl, Nat.le_of_ble_eq_true rfl⟩ ⟨Nat.zero_le _, Nat.zero_le _⟩ rfl (Nat.le_of_ble_eq_true rfl) dX11_readMove_57 rfl (fun H locs hH hS => ?_)
  obtain ⟨h0_4, hf⟩ := gc_s hf
  refine g_iast (pc := 60) hC hU hH hS gk1_19 gn1_19 h0_4 dX11_readMove_60 (fun H locs hH hS => ?_)
  refine lv_aload_n (pc := 61) hx hb dX11_readMove_61 rfl (lv_at hl 1 rfl) ?_
  refine g_get (pc := 62) (v := .ref (ad 20)) hC hU hH gk1_0 g_cl11 35 (by decide) kf_X11_72 rfl dX11_readMove_62 ?_
  refine lv_iload_n (pc := 65) hx hb dX11_readMove_65 rfl (lv_at hl 0 rfl) ?_
  refine lv_aload_n (pc := 66) hx hb dX11_readMove_66 rfl (lv_at hl 1 rfl) ?_
  refine lv_ldc2 (pc := 67) hx hb hown (hts _ kc_X11_216) dX11_readMove_67 ?_
  obtain ⟨q0_6, hq0_6, hf⟩ := gbd hf
  refine g_callVi (pc := 70) (rest := [.int (q0_1.1 0 45), .ref (ad 20)]) hC hU hH hS hl.1 gk1_0 rfl (by decide) (mX11_takes  hq0_6) ky_X11_takes km_X11_346 ⟨Nat.le_of_ble_eq_true rfl, Nat.le_of_ble_eq_true rfl⟩ ⟨Nat.zero_le _, Nat.zero_le _⟩ rfl (Nat.le_of_ble_eq_true rfl) dX11_readMove_70 rfl (fun H locs hH hS => ?_)
  refine lv_if_eq (tgt := 83) (pc := 73) hx hb dX11_readMove_73 (by decide) (fun hc => ?_) (fun hc => ?_)
  · have hf := gif_p hc hf
    refine lv_iconst (v := (-1)) (pc := 83) hx hb dX11_readMove_83 (by decide) ?_
    exact bX11_readMove_84 hC hret hlk hU hf hH hS (lv_sub hl [1] rfl)
  · have hf := gif_n hc hf
    refine lv_aload_n (pc := 76) hx hb dX11_readMove_76 rfl (lv_at hl 1 rfl) ?_
    obtain ⟨q0_7, hq0_7, hf⟩ := gbd hf
    refine g_callVi (pc := 77) (rest := [.int (q0_1.1 0 45), .ref (ad 20)]) hC hU hH hS hl.1 gk1_0 rfl (by decide) (mX11_figure  hq0_7) ky_X11_figure km_X11_352 ⟨Nat.le_of_ble_eq_true rfl, Nat.le_of_ble_eq_true rfl⟩ ⟨Nat.zero_le _, Nat.zero_le _⟩ rfl (Nat.le_of_ble_eq_true rfl) dX11_readMove_77 rfl (fun H locs hH hS => ?_)
    refine lv_goto (tgt := 84) (pc := 80) hx hb dX11_readMove_80 (by decide) ?_
    exact bX11_readMove_84 hC hret hlk hU hf hH hS (lv_sub hl [1] rfl)
set_option maxRecDepth 100000 in
set_option maxHeartbeats 4000000 in
theorem mX11_readMove {l : Launch} {D : va_G} {cA : Nat → ClassId} {ad : Nat → Nat}   {st st' : gS} (hf : fX11_readMove  st = some st') : gM l yX11_readMove cX11_readMove 2 none 5 1 D cA ad st [.ref (ad 0)] none st' := by
  refine g_met (by decide) (Nat.le_of_ble_eq_true rfl) ?_
  intro p e s m args below meth c ls hC hret hlk hU hH hl
  exact bX11_readMove_0 hC hret hlk hU hf hH va_S.rf hl
def fX11_readWorth_73   (l1 : Int32) (l2 : Int32) (st : gS) : Option (gS) :=
  (fX11_toldNumber 0 99 st).bind fun q73_1 => (if (q73_1.2.1 0 2) = 0 then (gc (gI ((8 * l1) + l2) 40) (some (wi q73_1.2 14 ((8 * l1) + l2).toNatClampNeg q73_1.1))) else (some q73_1.2))
set_option maxRecDepth 100000 in
set_option maxHeartbeats 4000000 in
theorem bX11_readWorth_73  (hC : CallFix p m c cX11_readWorth 4 s args lw_good RX11) (hret : meth.sig.returnType = none) (hlk : meth.locks = false) (hU : gU 1 D cA ad s)  {st' : gS}  {l1 : Int32} {l2 : Int32} {st : gS} {H : Heap} {locs : List Loc} {ls : Array Slot} (hf : fX11_readWorth_73 l1 l2 st = some st') (hH : gP0 1 D cA ad st H) (hS : va_S (gA 1 ad) s.heap H locs) (hl : lv_has ls 4 [(0, .ref (ad 0)), (1, .int l1), (2, .int l2)]) : W p l e (gRm 4) s m args below meth c H locs 0 0 (MQ below (gQc 1 D cA ad st' none) args s 0 0 (gA 1 ad)) (F0 m 73 ls []) := by
  obtain ⟨hx, hb, hml, hown, hts⟩ := id hC
  unfold fX11_readWorth_73 at hf
  refine lv_aload_n (pc := 73) hx hb dX11_readWorth_73 rfl (lv_at hl 0 rfl) ?_
  refine lv_iconst (v := 0) (pc := 74) hx hb dX11_readWorth_74 (by decide) ?_
  refine lv_bipush (v := 99) (pc := 75) hx hb dX11_readWorth_75 (by decide) ?_
  obtain ⟨q73_1, hq73_1, hf⟩ := gbd hf
  refine g_callVi (pc := 77) (rest := []) hC hU hH hS hl.1 gk1_0 rfl (by decide) (mX11_toldNumber  hq73_1) ky_X11_toldNumber km_X11_256 ⟨Nat.le_of_ble_eq_true rfl, Nat.le_of_ble_eq_true rfl⟩ ⟨Nat.zero_le _, Nat.zero_le _⟩ rfl (Nat.le_of_ble_eq_true rfl) dX11_readWorth_77 rfl (fun H locs hH hS => ?_)
  refine lv_istore_n (lv' := [(3, .int q73_1.1), (0, .ref (ad 0)), (1, .int l1), (2, .int l2)]) (pc := 80) hx hb dX11_readWorth_80 rfl hl (by decide) rfl (fun ls hl => ?_)
  refine lv_aload_n (pc := 81) hx hb dX11_readWorth_81 rfl (lv_at hl 1 rfl) ?_
  refine g_get (pc := 82) (v := .int (q73_1.2.1 0 2)) hC hU hH gk1_0 g_cl11 2 (by decide) kf_X11_197 rfl dX11_readWorth_82 ?_
  refine lv_if_ne (tgt := 100) (pc := 85) hx hb dX11_readWorth_85 (by decide) (fun hc => ?_) (fun hc => ?_)
  · have hf := gif_n hc hf
    exact g_vret (pc := 100) hC hret hlk hH hS hf dX11_readWorth_100
  · have hf := gif_p hc hf
    refine lv_aload_n (pc := 88) hx hb dX11_readWorth_88 rfl (lv_at hl 1 rfl) ?_
    refine g_get (pc := 89) (v := .ref (ad 14)) hC hU hH gk1_0 g_cl11 29 (by decide) kf_X11_54 rfl dX11_readWorth_89 ?_
    refine lv_bipush (v := 8) (pc := 92) hx hb dX11_readWorth_92 (by decide) ?_
    refine lv_iload_n (pc := 94) hx hb dX11_readWorth_94 rfl (lv_at hl 2 rfl) ?_
    refine lv_imul (pc := 95) hx hb dX11_readWorth_95 ?_
    refine lv_iload_n (pc := 96) hx hb dX11_readWorth_96 rfl (lv_at hl 3 rfl) ?_
    refine lv_iadd (pc := 97) hx hb dX11_readWorth_97 ?_
    refine lv_iload_n (pc := 98) hx hb dX11_readWorth_98 rfl (lv_at hl 0 rfl) ?_
    obtain ⟨h73_1, hf⟩ := gc_s hf
    refine g_iast (pc := 99) hC hU hH hS gk1_14 gn1_14 h73_1 dX11_readWorth_99 (fun H locs hH hS => ?_)
    exact g_vret (pc := 100) hC hret hlk hH hS hf dX11_readWorth_100
def fX11_readWorth_62   (l1 : Int32) (l2 : Int32) (st : gS) : Option (gS) :=
  if (st.1 0 2) = 0 then ((fX11_token st).bind fun q62_1 => (fX11_readWorth_73 l1 l2 q62_1)) else (fX11_readWorth_73 l1 l2 st)
set_option maxRecDepth 100000 in
set_option maxHeartbeats 4000000 in
theorem bX11_readWorth_62  (hC : CallFix p m c cX11_readWorth 4 s args lw_good RX11) (hret : meth.sig.returnType = none) (hlk : meth.locks = false) (hU : gU 1 D cA ad s)  {st' : gS}  {l1 : Int32} {l2 : Int32} {st : gS} {H : Heap} {locs : List Loc} {ls : Array Slot} (hf : fX11_readWorth_62 l1 l2 st = some st') (hH : gP0 1 D cA ad st H) (hS : va_S (gA 1 ad) s.heap H locs) (hl : lv_has ls 4 [(0, .ref (ad 0)), (1, .int l1), (2, .int l2)]) : W p l e (gRm 4) s m args below meth c H locs 0 0 (MQ below (gQc 1 D cA ad st' none) args s 0 0 (gA 1 ad)) (F0 m 62 ls []) := by
  obtain ⟨hx, hb, hml, hown, hts⟩ := id hC
  unfold fX11_readWorth_62 at hf
  refine lv_aload_n (pc := 62) hx hb dX11_readWorth_62 rfl (lv_at hl 0 rfl) ?_
  refine g_get (pc := 63) (v := .int (st.1 0 2)) hC hU hH gk1_0 g_cl11 2 (by decide) kf_X11_197 rfl dX11_readWorth_63 ?_
  refine lv_if_ne (tgt := 73) (pc := 66) hx hb dX11_readWorth_66 (by decide) (fun hc => ?_) (fun hc => ?_)
  · have hf := gif_n hc hf
    exact bX11_readWorth_73 hC hret hlk hU hf hH hS (lv_sub hl [0, 1, 2] rfl)
  · have hf := gif_p hc hf
    refine lv_aload_n (pc := 69) hx hb dX11_readWorth_69 rfl (lv_at hl 0 rfl) ?_
    obtain ⟨q62_1, hq62_1, hf⟩ := gbd hf
    refine g_callVv (pc := 70) (rest := []) hC hU hH hS hl.1 gk1_0 rfl (by decide) (mX11_token  hq62_1) ky_X11_token km_X11_249 ⟨Nat.le_of_ble_eq_true rfl, Nat.le_of_ble_eq_true rfl⟩ ⟨Nat.zero_le _, Nat.zero_le _⟩ rfl (Nat.le_of_ble_eq_true rfl) dX11_readWorth_70 rfl (fun H locs hH hS => ?_)
    exact bX11_readWorth_73 hC hret hlk hU hf hH hS (lv_sub hl [0, 1, 2] rfl)
def fX11_readWorth_26   (l1 : Int32) (st : gS) : Option (gS) :=
  (fX11_oldName 0 (st.1 0 43) st).bind fun q26_1 => (if (q26_1.2.1 0 2) = 0 then (gc (gI ((8 * l1) + q26_1.1) 40) (if (q26_1.2.1 14 ((8 * l1) + q26_1.1).toNatClampNeg) < 0 then (fX11_readWorth_62 l1 q26_1.1 q26_1.2) else ((fX11_wrong 3 q26_1.2).bind fun q26_2 => (fX11_readWorth_62 l1 q26_1.1 q26_2)))) else (fX11_readWorth_62 l1 q26_1.1 q26_1.2))
set_option maxRecDepth 100000 in
set_option maxHeartbeats 4000000 in
theorem bX11_readWorth_26  (hC : CallFix p m c cX11_readWorth 4 s args lw_good RX11) (hret : meth.sig.returnType = none) (hlk : meth.locks = false) (hU : gU 1 D cA ad s)  {st' : gS}  {l1 : Int32} {st : gS} {H : Heap} {locs : List Loc} {ls : Array Slot} (hf : fX11_readWorth_26 l1 st = some st') (hH : gP0 1 D cA ad st H) (hS : va_S (gA 1 ad) s.heap H locs) (hl : lv_has ls 4 [(0, .ref (ad 0)), (1, .int l1)]) : W p l e (gRm 4) s m args below meth c H locs 0 0 (MQ below (gQc 1 D cA ad st' none) args s 0 0 (gA 1 ad)) (F0 m 26 ls []) := by
  obtain ⟨hx, hb, hml, hown, hts⟩ := id hC
  unfold fX11_readWorth_26 at hf
  refine lv_aload_n (pc := 26) hx hb dX11_readWorth_26 rfl (lv_at hl 0 rfl) ?_
  refine lv_iconst (v := 0) (pc := 27) hx hb dX11_readWorth_27 (by decide) ?_
  refine lv_aload_n (pc := 28) hx hb dX11_readWorth_28 rfl (lv_at hl 0 rfl) ?_
  refine g_get (pc := 29) (v := .int (st.1 0 43)) hC hU hH gk1_0 g_cl11 43 (by decide) kf_X11_266 rfl dX11_readWorth_29 ?_
  obtain ⟨q26_1, hq26_1, hf⟩ := gbd hf
  refine g_callVi (pc := 32) (rest := []) hC hU hH hS hl.1 gk1_0 rfl (by decide) (mX11_oldName  hq26_1) ky_X11_oldName km_X11_269 ⟨Nat.le_of_ble_eq_true rfl, Nat.le_of_ble_eq_true rfl⟩ ⟨Nat.zero_le _, Nat.zero_le _⟩ rfl (Nat.le_of_ble_eq_true rfl) dX11_readWorth_32 rfl (fun H locs hH hS => ?_)
  refine lv_istore_n (lv' := [(2, .int q26_1.1), (0, .ref (ad 0)), (1, .int l1)]) (pc := 35) hx hb dX11_readWorth_35 rfl hl (by decide) rfl (fun ls hl => ?_)
  refine lv_aload_n (pc := 36) hx hb dX11_readWorth_36 rfl (lv_at hl 1 rfl) ?_
  refine g_get (pc := 37) (v := .int (q26_1.2.1 0 2)) hC hU hH gk1_0 g_cl11 2 (by decide) kf_X11_197 rfl dX11_readWorth_37 ?_
  refine lv_if_ne (tgt := 62) (pc := 40) hx hb dX11_readWorth_40 (by decide) (fun hc => ?_) (fun hc => ?_)
  · have hf := gif_n hc hf
    exact bX11_readWorth_62 hC hret hlk hU hf hH hS (lv_sub hl [1, 2, 0] rfl)
  · have hf := gif_p hc hf
    refine lv_aload_n (pc := 43) hx hb dX11_readWorth_43 rfl (lv_at hl 1 rfl) ?_
    refine g_get (pc := 44) (v := .ref (ad 14)) hC hU hH gk1_0 g_cl11 29 (by decide) kf_X11_54 rfl dX11_readWorth_44 ?_
    refine lv_bipush (v := 8) (pc := 47) hx hb dX11_readWorth_47 (by decide) ?_
    refine lv_iload_n (pc := 49) hx hb dX11_readWorth_49 rfl (lv_at hl 2 rfl) ?_
    refine lv_imul (pc := 50) hx hb dX11_readWorth_50 ?_
    refine lv_iload_n (pc := 51) hx hb dX11_readWorth_51 rfl (lv_at hl 0 rfl) ?_
    refine lv_iadd (pc := 52) hx hb dX11_readWorth_52 ?_
    obtain ⟨h26_1, hf⟩ := gc_s hf
    refine g_iald (pc := 53) hC hU hH gk1_14 gn1_14 h26_1 dX11_readWorth_53 ?_
    refine lv_if_lt (tgt := 62) (pc := 54) hx hb dX11_readWorth_54 (by decide) (fun hc => ?_) (fun hc => ?_)
    · have hf := gif_p hc hf
      exact bX11_readWorth_62 hC hret hlk hU hf hH hS (lv_sub hl [1, 2, 0] rfl)
    · have hf := gif_n hc hf
      refine lv_aload_n (pc := 57) hx hb dX11_readWorth_57 rfl (lv_at hl 1 rfl) ?_
      refine lv_iconst (v := 3) (pc := 58) hx hb dX11_readWorth_58 (by decide) ?_
      obtain ⟨q26_2, hq26_2, hf⟩ := gbd hf
      refine g_callVv (pc := 59) (rest := []) hC hU hH hS hl.1 gk1_0 rfl (by decide) (mX11_wrong  hq26_2) ky_X11_wrong km_X11_246 ⟨Nat.le_of_ble_eq_true rfl, Nat.le_of_ble_eq_true rfl⟩ ⟨Nat.zero_le _, Nat.zero_le _⟩ rfl (Nat.le_of_ble_eq_true rfl) dX11_readWorth_59 rfl (fun H locs hH hS => ?_)
      exact bX11_readWorth_62 hC hret hlk hU hf hH hS (lv_sub hl [1, 2, 0] rfl)
def fX11_readWorth    (st : gS) : Option (gS) :=
  (fX11_token st).bind fun q0_1 => ((fX11_oldName 8 (q0_1.1 0 44) q0_1).bind fun q0_2 => (if (q0_2.2.1 0 2) = 0 then ((fX11_token q0_2.2).bind fun q0_3 => (fX11_readWorth_26 q0_2.1 q0_3)) else (fX11_readWorth_26 q0_2.1 q0_2.2)))
set_option maxRecDepth 100000 in
set_option maxHeartbeats 4000000 in
theorem bX11_readWorth_0  (hC : CallFix p m c cX11_readWorth 4 s args lw_good RX11) (hret : meth.sig.returnType = none) (hlk : meth.locks = false) (hU : gU 1 D cA ad s)  {st' : gS}   {st : gS} {H : Heap} {locs : List Loc} {ls : Array Slot} (hf : fX11_readWorth st = some st') (hH : gP0 1 D cA ad st H) (hS : va_S (gA 1 ad) s.heap H locs) (hl : lv_has ls 4 [(0, .ref (ad 0))]) : W p l e (gRm 4) s m args below meth c H locs 0 0 (MQ below (gQc 1 D cA ad st' none) args s 0 0 (gA 1 ad)) (F0 m 0 ls []) := by
  obtain ⟨hx, hb, hml, hown, hts⟩ := id hC
  unfold fX11_readWorth at hf
  refine lv_aload_n (pc := 0) hx hb dX11_readWorth_0 rfl (lv_at hl 0 rfl) ?_
  obtain ⟨q0_1, hq0_1, hf⟩ := gbd hf
  refine g_callVv (pc := 1) (rest := []) hC hU hH hS hl.1 gk1_0 rfl (by decide) (mX11_token  hq0_1) ky_X11_token km_X11_249 ⟨Nat.le_of_ble_eq_true rfl, Nat.le_of_ble_eq_true rfl⟩ ⟨Nat.zero_le _, Nat.zero_le _⟩ rfl (Nat.le_of_ble_eq_true rfl) dX11_readWorth_1 rfl (fun H locs hH hS => ?_)
  refine lv_aload_n (pc := 4) hx hb dX11_readWorth_4 rfl (lv_at hl 0 rfl) ?_
  refine lv_bipush (v := 8) (pc := 5) hx hb dX11_readWorth_5 (by decide) ?_
  refine lv_aload_n (pc := 7) hx hb dX11_readWorth_7 rfl (lv_at hl 0 rfl) ?_
  refine g_get (pc := 8) (v := .int (q0_1.1 0 44)) hC hU hH gk1_0 g_cl11 44 (by decide) kf_X11_339 rfl dX11_readWorth_8 ?_
  obtain ⟨q0_2, hq0_2, hf⟩ := gbd hf
  refine g_callVi (pc := 11) (rest := []) hC hU hH hS hl.1 gk1_0 rfl (by decide) (mX11_oldName  hq0_2) ky_X11_oldName km_X11_269 ⟨Nat.le_of_ble_eq_true rfl, Nat.le_of_ble_eq_true rfl⟩ ⟨Nat.zero_le _, Nat.zero_le _⟩ rfl (Nat.le_of_ble_eq_true rfl) dX11_readWorth_11 rfl (fun H locs hH hS => ?_)
  refine lv_istore_n (lv' := [(1, .int q0_2.1), (0, .ref (ad 0))]) (pc := 14) hx hb dX11_readWorth_14 rfl hl (by decide) rfl (fun ls hl => ?_)
  refine lv_aload_n (pc := 15) hx hb dX11_readWorth_15 rfl (lv_at hl 1 rfl) ?_
  refine g_get (pc := 16) (v := .int (q0_2.2.1 0 2)) hC hU hH gk1_0 g_cl11 2 (by decide) kf_X11_197 rfl dX11_readWorth_16 ?_
  refine lv_if_ne (tgt := 26) (pc := 19) hx hb dX11_readWorth_19 (by decide) (fun hc => ?_) (fun hc => ?_)
  · have hf := gif_n hc hf
    exact bX11_readWorth_26 hC hret hlk hU hf hH hS (lv_sub hl [1, 0] rfl)
  · have hf := gif_p hc hf
    refine lv_aload_n (pc := 22) hx hb dX11_readWorth_22 rfl (lv_at hl 1 rfl) ?_
    obtain ⟨q0_3, hq0_3, hf⟩ := gbd hf
    refine g_callVv (pc := 23) (rest := []) hC hU hH hS hl.1 gk1_0 rfl (by decide) (mX11_token  hq0_3) ky_X11_token km_X11_249 ⟨Nat.le_of_ble_eq_true rfl, Nat.le_of_ble_eq_true rfl⟩ ⟨Nat.zero_le _, Nat.zero_le _⟩ rfl (Nat.le_of_ble_eq_true rfl) dX11_readWorth_23 rfl (fun H locs hH hS => ?_)
    exact bX11_readWorth_26 hC hret hlk hU hf hH hS (lv_sub hl [1, 0] rfl)
set_option maxRecDepth 100000 in
set_option maxHeartbeats 4000000 in
theorem mX11_readWorth {l : Launch} {D : va_G} {cA : Nat → ClassId} {ad : Nat → Nat}   {st st' : gS} (hf : fX11_readWorth  st = some st') : gM l yX11_readWorth cX11_readWorth 4 none 4 1 D cA ad st [.ref (ad 0)] none st' := by
  refine g_met (by decide) (Nat.le_of_ble_eq_true rfl) ?_
  intro p e s m args below meth c ls hC hret hlk hU hH hl
  exact bX11_readWorth_0 hC hret hlk hU hf hH va_S.rf hl
def fX11_tight (a0 : Int32)   (st : gS) : Option (Int32 × gS) :=
  if a0 = 21 then (some (3, st)) else if a0 = 38 then (some (2, st)) else if a0 = 43 then (some (5, st)) else if a0 = 45 then (some (5, st)) else if a0 = 60 then (some (4, st)) else if a0 = 61 then (some (4, st)) else if a0 = 62 then (some (4, st)) else if a0 = 124 then (some (1, st)) else (some (6, st))
set_option maxRecDepth 100000 in
set_option maxHeartbeats 4000000 in
theorem bX11_tight_0 {a0 : Int32} (hC : CallFix p m c cX11_tight 1 s args lw_good RX11) (hret : meth.sig.returnType = (some .int)) (hlk : meth.locks = false) (hU : gU 1 D cA ad s)  {r : Int32} {st' : gS}   {st : gS} {H : Heap} {locs : List Loc} {ls : Array Slot} (hf : fX11_tight a0 st = some (r, st')) (hH : gP0 1 D cA ad st H) (hS : va_S (gA 1 ad) s.heap H locs) (hl : lv_has ls 1 [(0, .int a0)]) : W p l e (gRm 1) s m args below meth c H locs 0 0 (MQ below (gQc 1 D cA ad st' (some (.int r))) args s 0 0 (gA 1 ad)) (F0 m 0 ls []) := by
  obtain ⟨hx, hb, hml, hown, hts⟩ := id hC
  unfold fX11_tight at hf
  refine lv_iload_n (pc := 0) hx hb dX11_tight_0 rfl (lv_at hl 0 rfl) ?_
  by_cases hw1_21 : a0 = 21
  · have hf := gif_p hw1_21 hf
    refine g_lswI (tgt := 80) (off := 79) (pc := 1) hx hb hw1_21 dX11_tight_1 (by decide) (by decide) (by decide) ?_
    refine lv_iconst (v := 3) (pc := 80) hx hb dX11_tight_80 (by decide) ?_
    exact g_iret (pc := 81) hC hret hlk hH hS hf dX11_tight_81
  · have hf := gif_n hw1_21 hf
    by_cases hw1_38 : a0 = 38
    · have hf := gif_p hw1_38 hf
      refine g_lswI (tgt := 78) (off := 77) (pc := 1) hx hb hw1_38 dX11_tight_1 (by decide) (by decide) (by decide) ?_
      refine lv_iconst (v := 2) (pc := 78) hx hb dX11_tight_78 (by decide) ?_
      exact g_iret (pc := 79) hC hret hlk hH hS hf dX11_tight_79
    · have hf := gif_n hw1_38 hf
      by_cases hw1_43 : a0 = 43
      · have hf := gif_p hw1_43 hf
        refine g_lswI (tgt := 84) (off := 83) (pc := 1) hx hb hw1_43 dX11_tight_1 (by decide) (by decide) (by decide) ?_
        refine lv_iconst (v := 5) (pc := 84) hx hb dX11_tight_84 (by decide) ?_
        exact g_iret (pc := 85) hC hret hlk hH hS hf dX11_tight_85
      · have hf := gif_n hw1_43 hf
        by_cases hw1_45 : a0 = 45
        · have hf := gif_p hw1_45 hf
          refine g_lswI (tgt := 84) (off := 83) (pc := 1) hx hb hw1_45 dX11_tight_1 (by decide) (by decide) (by decide) ?_
          refine lv_iconst (v := 5) (pc := 84) hx hb dX11_tight_84 (by decide) ?_
          exact g_iret (pc := 85) hC hret hlk hH hS hf dX11_tight_85
        · have hf := gif_n hw1_45 hf
          by_cases hw1_60 : a0 = 60
          · have hf := gif_p hw1_60 hf
            refine g_lswI (tgt := 82) (off := 81) (pc := 1) hx hb hw1_60 dX11_tight_1 (by decide) (by decide) (by decide) ?_
            refine lv_iconst (v := 4) (pc := 82) hx hb dX11_tight_82 (by decide) ?_
            exact g_iret (pc := 83) hC hret hlk hH hS hf dX11_tight_83
          · have hf := gif_n hw1_60 hf
            by_cases hw1_61 : a0 = 61
            · have hf := gif_p hw1_61 hf
              refine g_lswI (tgt := 82) (off := 81) (pc := 1) hx hb hw1_61 dX11_tight_1 (by decide) (by decide) (by decide) ?_
              refine lv_iconst (v := 4) (pc := 82) hx hb dX11_tight_82 (by decide) ?_
              exact g_iret (pc := 83) hC hret hlk hH hS hf dX11_tight_83
            · have hf := gif_n hw1_61 hf
              by_cases hw1_62 : a0 = 62
              · have hf := gif_p hw1_62 hf
                refine g_lswI (tgt := 82) (off := 81) (pc := 1) hx hb hw1_62 dX11_tight_1 (by decide) (by decide) (by decide) ?_
                refine lv_iconst (v := 4) (pc := 82) hx hb dX11_tight_82 (by decide) ?_
                exact g_iret (pc := 83) hC hret hlk hH hS hf dX11_tight_83
              · have hf := gif_n hw1_62 hf
                by_cases hw1_124 : a0 = 124
                · have hf := gif_p hw1_124 hf
                  refine g_lswI (tgt := 76) (off := 75) (pc := 1) hx hb hw1_124 dX11_tight_1 (by decide) (by decide) (by decide) ?_
                  refine lv_iconst (v := 1) (pc := 76) hx hb dX11_tight_76 (by decide) ?_
                  exact g_iret (pc := 77) hC hret hlk hH hS hf dX11_tight_77
                · have hf := gif_n hw1_124 hf
                  refine g_lswO (tgt := 86) (pc := 1) hx hb dX11_tight_1 (by decide) (by show Op.lookupswitch.offset [(21, 79), (38, 77), (43, 83), (45, 83), (60, 81), (61, 81), (62, 81), (124, 75)] (85) _ = (85); rw [lv_osw hw1_21 (by decide), lv_osw hw1_38 (by decide), lv_osw hw1_43 (by decide), lv_osw hw1_45 (by decide), lv_osw hw1_60 (by decide), lv_osw hw1_61 (by decide), lv_osw hw1_62 (by decide), lv_osw hw1_124 (by decide)]; rfl) (by decide) ?_
                  refine lv_bipush (v := 6) (pc := 86) hx hb dX11_tight_86 (by decide) ?_
                  exact g_iret (pc := 88) hC hret hlk hH hS hf dX11_tight_88
set_option maxRecDepth 100000 in
set_option maxHeartbeats 4000000 in
theorem mX11_tight {l : Launch} {D : va_G} {cA : Nat → ClassId} {ad : Nat → Nat} {a0 : Int32}  {r : Int32} {st st' : gS} (hf : fX11_tight a0 st = some (r, st')) : gM l yX11_tight cX11_tight 1 (some .int) 1 1 D cA ad st [.int a0] (some (.int r)) st' := by
  refine g_met (by decide) (Nat.le_of_ble_eq_true rfl) ?_
  intro p e s m args below meth c ls hC hret hlk hU hH hl
  exact bX11_tight_0 hC hret hlk hU hf hH va_S.rf hl
def fX11_mayNot    (st : gS) : Option (Int32 × gS) :=
  if (st.1 0 19) = 0 then (some (1, st)) else (gc (gI ((st.1 0 19) - 1) 160) (if (st.1 7 ((st.1 0 19) - 1).toNatClampNeg) = 20 then (some (1, st)) else (gc (gI ((st.1 0 19) - 1) 160) ((fX11_tight (st.1 7 ((st.1 0 19) - 1).toNatClampNeg) st).bind fun q0_1 => (if 4 ≤ q0_1.1 then (some (0, q0_1.2)) else (some (1, q0_1.2)))))))
set_option maxRecDepth 100000 in
set_option maxHeartbeats 4000000 in
theorem bX11_mayNot_0  (hC : CallFix p m c cX11_mayNot 1 s args lw_good RX11) (hret : meth.sig.returnType = (some .boolean)) (hlk : meth.locks = false) (hU : gU 1 D cA ad s)  {r : Int32} {st' : gS}   {st : gS} {H : Heap} {locs : List Loc} {ls : Array Slot} (hf : fX11_mayNot st = some (r, st')) (hH : gP0 1 D cA ad st H) (hS : va_S (gA 1 ad) s.heap H locs) (hl : lv_has ls 1 [(0, .ref (ad 0))]) : W p l e (gRm 2) s m args below meth c H locs 0 0 (MQ below (gQc 1 D cA ad st' (some (.int r))) args s 0 0 (gA 1 ad)) (F0 m 0 ls []) := by
  obtain ⟨hx, hb, hml, hown, hts⟩ := id hC
  unfold fX11_mayNot at hf
  refine lv_aload_n (pc := 0) hx hb dX11_mayNot_0 rfl (lv_at hl 0 rfl) ?_
  refine g_get (pc := 1) (v := .int (st.1 0 19)) hC hU hH gk1_0 g_cl11 19 (by decide) kf_X11_275 rfl dX11_mayNot_1 ?_
  refine lv_if_eq (tgt := 41) (pc := 4) hx hb dX11_mayNot_4 (by decide) (fun hc => ?_) (fun hc => ?_)
  · have hf := gif_p hc hf
    refine lv_iconst (v := 1) (pc := 41) hx hb dX11_mayNot_41 (by decide) ?_
    refine lv_goto (tgt := 46) (pc := 42) hx hb dX11_mayNot_42 (by decide) ?_
    exact g_zret (pc := 46) hC hret hlk hH hS (by decide) hf dX11_mayNot_46
  · have hf := gif_n hc hf
    refine lv_aload_n (pc := 7) hx hb dX11_mayNot_7 rfl (lv_at hl 0 rfl) ?_
    refine g_get (pc := 8) (v := .ref (ad 7)) hC hU hH gk1_0 g_cl11 15 (by decide) kf_X11_33 rfl dX11_mayNot_8 ?_
    refine lv_aload_n (pc := 11) hx hb dX11_mayNot_11 rfl (lv_at hl 0 rfl) ?_
    refine g_get (pc := 12) (v := .int (st.1 0 19)) hC hU hH gk1_0 g_cl11 19 (by decide) kf_X11_275 rfl dX11_mayNot_12 ?_
    refine lv_iconst (v := 1) (pc := 15) hx hb dX11_mayNot_15 (by decide) ?_
    refine lv_isub (pc := 16) hx hb dX11_mayNot_16 ?_
    obtain ⟨h0_1, hf⟩ := gc_s hf
    refine g_iald (pc := 17) hC hU hH gk1_7 gn1_7 h0_1 dX11_mayNot_17 ?_
    refine lv_bipush (v := 20) (pc := 18) hx hb dX11_mayNot_18 (by decide) ?_
    refine lv_icmp_eq (tgt := 41) (pc := 20) hx hb dX11_mayNot_20 (by decide) (fun hc => ?_) (fun hc => ?_)
    · have hf := gif_p hc hf
      refine lv_iconst (v := 1) (pc := 41) hx hb dX11_mayNot_41 (by decide) ?_
      refine lv_goto (tgt := 46) (pc := 42) hx hb dX11_mayNot_42 (by decide) ?_
      exact g_zret (pc := 46) hC hret hlk hH hS (by decide) hf dX11_mayNot_46
    · have hf := gif_n hc hf
      refine lv_aload_n (pc := 23) hx hb dX11_mayNot_23 rfl (lv_at hl 0 rfl) ?_
      refine g_get (pc := 24) (v := .ref (ad 7)) hC hU hH gk1_0 g_cl11 15 (by decide) kf_X11_33 rfl dX11_mayNot_24 ?_
      refine lv_aload_n (pc := 27) hx hb dX11_mayNot_27 rfl (lv_at hl 0 rfl) ?_
      refine g_get (pc := 28) (v := .int (st.1 0 19)) hC hU hH gk1_0 g_cl11 19 (by decide) kf_X11_275 rfl dX11_mayNot_28 ?_
      refine lv_iconst (v := 1) (pc := 31) hx hb dX11_mayNot_31 (by decide) ?_
      refine lv_isub (pc := 32) hx hb dX11_mayNot_32 ?_
      obtain ⟨h0_2, hf⟩ := gc_s hf
      refine g_iald (pc := 33) hC hU hH gk1_7 gn1_7 h0_2 dX11_mayNot_33 ?_
      obtain ⟨q0_1, hq0_1, hf⟩ := gbd hf
      refine g_callSi (pc := 34) (rest := []) hC hU hH hS hl.1 (mX11_tight  hq0_1) ky_X11_tight km_X11_278 ⟨Nat.le_of_ble_eq_true rfl, Nat.le_of_ble_eq_true rfl⟩ ⟨Nat.zero_le _, Nat.zero_le _⟩ rfl (Nat.le_of_ble_eq_true rfl) dX11_mayNot_34 rfl (fun H locs hH hS => ?_)
      refine lv_iconst (v := 4) (pc := 37) hx hb dX11_mayNot_37 (by decide) ?_
      refine lv_icmp_ge (tgt := 45) (pc := 38) hx hb dX11_mayNot_38 (by decide) (fun hc => ?_) (fun hc => ?_)
      · have hf := gif_p hc hf
        refine lv_iconst (v := 0) (pc := 45) hx hb dX11_mayNot_45 (by decide) ?_
        exact g_zret (pc := 46) hC hret hlk hH hS (by decide) hf dX11_mayNot_46
      · have hf := gif_n hc hf
        refine lv_iconst (v := 1) (pc := 41) hx hb dX11_mayNot_41 (by decide) ?_
        refine lv_goto (tgt := 46) (pc := 42) hx hb dX11_mayNot_42 (by decide) ?_
        exact g_zret (pc := 46) hC hret hlk hH hS (by decide) hf dX11_mayNot_46
set_option maxRecDepth 100000 in
set_option maxHeartbeats 4000000 in
theorem mX11_mayNot {l : Launch} {D : va_G} {cA : Nat → ClassId} {ad : Nat → Nat}   {r : Int32} {st st' : gS} (hf : fX11_mayNot  st = some (r, st')) : gM l yX11_mayNot cX11_mayNot 1 (some .boolean) 2 1 D cA ad st [.ref (ad 0)] (some (.int r)) st' := by
  refine g_met (by decide) (Nat.le_of_ble_eq_true rfl) ?_
  intro p e s m args below meth c ls hC hret hlk hU hH hl
  exact bX11_mayNot_0 hC hret hlk hU hf hH va_S.rf hl
def fX11_openUp (a1 : Int32)   (st : gS) : Option (gS) :=
  gc (gI (st.1 0 19) 160) (if ((wi (wi (wi st 7 (st.1 0 19).toNatClampNeg a1) 0 19 (((wi st 7 (st.1 0 19).toNatClampNeg a1).1 0 19) + 1)) 0 23 (((wi (wi st 7 (st.1 0 19).toNatClampNeg a1) 0 19 (((wi st 7 (st.1 0 19).toNatClampNeg a1).1 0 19) + 1)).1 0 23) + 1)).1 0 2) = 0 then ((fX11_token (wi (wi (wi st 7 (st.1 0 19).toNatClampNeg a1) 0 19 (((wi st 7 (st.1 0 19).toNatClampNeg a1).1 0 19) + 1)) 0 23 (((wi (wi st 7 (st.1 0 19).toNatClampNeg a1) 0 19 (((wi st 7 (st.1 0 19).toNatClampNeg a1).1 0 19) + 1)).1 0 23) + 1))).bind fun q0_1 => (some q0_1)) else (some (wi (wi (wi st 7 (st.1 0 19).toNatClampNeg a1) 0 19 (((wi st 7 (st.1 0 19).toNatClampNeg a1).1 0 19) + 1)) 0 23 (((wi (wi st 7 (st.1 0 19).toNatClampNeg a1) 0 19 (((wi st 7 (st.1 0 19).toNatClampNeg a1).1 0 19) + 1)).1 0 23) + 1))))
set_option maxRecDepth 100000 in
set_option maxHeartbeats 4000000 in
theorem bX11_openUp_0 {a1 : Int32} (hC : CallFix p m c cX11_openUp 2 s args lw_good RX11) (hret : meth.sig.returnType = none) (hlk : meth.locks = false) (hU : gU 1 D cA ad s)  {st' : gS}   {st : gS} {H : Heap} {locs : List Loc} {ls : Array Slot} (hf : fX11_openUp a1 st = some st') (hH : gP0 1 D cA ad st H) (hS : va_S (gA 1 ad) s.heap H locs) (hl : lv_has ls 2 [(0, .ref (ad 0)), (1, .int a1)]) : W p l e (gRm 3) s m args below meth c H locs 0 0 (MQ below (gQc 1 D cA ad st' none) args s 0 0 (gA 1 ad)) (F0 m 0 ls []) := by
  obtain ⟨hx, hb, hml, hown, hts⟩ := id hC
  unfold fX11_openUp at hf
  refine lv_aload_n (pc := 0) hx hb dX11_openUp_0 rfl (lv_at hl 0 rfl) ?_
  refine g_get (pc := 1) (v := .ref (ad 7)) hC hU hH gk1_0 g_cl11 15 (by decide) kf_X11_33 rfl dX11_openUp_1 ?_
  refine lv_aload_n (pc := 4) hx hb dX11_openUp_4 rfl (lv_at hl 0 rfl) ?_
  refine g_get (pc := 5) (v := .int (st.1 0 19)) hC hU hH gk1_0 g_cl11 19 (by decide) kf_X11_275 rfl dX11_openUp_5 ?_
  refine lv_iload_n (pc := 8) hx hb dX11_openUp_8 rfl (lv_at hl 1 rfl) ?_
  obtain ⟨h0_1, hf⟩ := gc_s hf
  refine g_iast (pc := 9) hC hU hH hS gk1_7 gn1_7 h0_1 dX11_openUp_9 (fun H locs hH hS => ?_)
  refine lv_aload_n (pc := 10) hx hb dX11_openUp_10 rfl (lv_at hl 0 rfl) ?_
  refine lv_dup (pc := 11) hx hb dX11_openUp_11 rfl ?_
  refine g_get (pc := 12) (v := .int ((wi st 7 (st.1 0 19).toNatClampNeg a1).1 0 19)) hC hU hH gk1_0 g_cl11 19 (by decide) kf_X11_275 rfl dX11_openUp_12 ?_
  refine lv_iconst (v := 1) (pc := 15) hx hb dX11_openUp_15 (by decide) ?_
  refine lv_iadd (pc := 16) hx hb dX11_openUp_16 ?_
  refine g_puti (pc := 17) hC hU hH hS gk1_0 g_cl11 19 (by decide) kf_X11_275 rfl rfl rfl rfl dX11_openUp_17 (fun H locs hH hS => ?_)
  refine lv_aload_n (pc := 20) hx hb dX11_openUp_20 rfl (lv_at hl 0 rfl) ?_
  refine lv_dup (pc := 21) hx hb dX11_openUp_21 rfl ?_
  refine g_get (pc := 22) (v := .int ((wi (wi st 7 (st.1 0 19).toNatClampNeg a1) 0 19 (((wi st 7 (st.1 0 19).toNatClampNeg a1).1 0 19) + 1)).1 0 23)) hC hU hH gk1_0 g_cl11 23 (by decide) kf_X11_285 rfl dX11_openUp_22 ?_
  refine lv_iconst (v := 1) (pc := 25) hx hb dX11_openUp_25 (by decide) ?_
  refine lv_iadd (pc := 26) hx hb dX11_openUp_26 ?_
  refine g_puti (pc := 27) hC hU hH hS gk1_0 g_cl11 23 (by decide) kf_X11_285 rfl rfl rfl rfl dX11_openUp_27 (fun H locs hH hS => ?_)
  refine lv_aload_n (pc := 30) hx hb dX11_openUp_30 rfl (lv_at hl 0 rfl) ?_
  refine g_get (pc := 31) (v := .int ((wi (wi (wi st 7 (st.1 0 19).toNatClampNeg a1) 0 19 (((wi st 7 (st.1 0 19).toNatClampNeg a1).1 0 19) + 1)) 0 23 (((wi (wi st 7 (st.1 0 19).toNatClampNeg a1) 0 19 (((wi st 7 (st.1 0 19).toNatClampNeg a1).1 0 19) + 1)).1 0 23) + 1)).1 0 2)) hC hU hH gk1_0 g_cl11 2 (by decide) kf_X11_197 rfl dX11_openUp_31 ?_
  refine lv_if_ne (tgt := 41) (pc := 34) hx hb dX11_openUp_34 (by decide) (fun hc => ?_) (fun hc => ?_)
  · have hf := gif_n hc hf
    exact g_vret (pc := 41) hC hret hlk hH hS hf dX11_openUp_41
  · have hf := gif_p hc hf
    refine lv_aload_n (pc := 37) hx hb dX11_openUp_37 rfl (lv_at hl 0 rfl) ?_
    obtain ⟨q0_1, hq0_1, hf⟩ := gbd hf
    refine g_callVv (pc := 38) (rest := []) hC hU hH hS hl.1 gk1_0 rfl (by decide) (mX11_token  hq0_1) ky_X11_token km_X11_249 ⟨Nat.le_of_ble_eq_true rfl, Nat.le_of_ble_eq_true rfl⟩ ⟨Nat.zero_le _, Nat.zero_le _⟩ rfl (Nat.le_of_ble_eq_true rfl) dX11_openUp_38 rfl (fun H locs hH hS => ?_)
    exact g_vret (pc := 41) hC hret hlk hH hS hf dX11_openUp_41
set_option maxRecDepth 100000 in
set_option maxHeartbeats 4000000 in
theorem mX11_openUp {l : Launch} {D : va_G} {cA : Nat → ClassId} {ad : Nat → Nat} {a1 : Int32}  {st st' : gS} (hf : fX11_openUp a1 st = some st') : gM l yX11_openUp cX11_openUp 2 none 3 1 D cA ad st [.ref (ad 0), .int a1] none st' := by
  refine g_met (by decide) (Nat.le_of_ble_eq_true rfl) ?_
  intro p e s m args below meth c ls hC hret hlk hU hH hl
  exact bX11_openUp_0 hC hret hlk hU hf hH va_S.rf hl
def fX11_isFull    (st : gS) : Option (Int32 × gS) :=
  if (st.1 0 20) = 60 then (some (1, st)) else (if (st.1 0 22) = 30 then (some (1, st)) else (some (0, st)))
set_option maxRecDepth 100000 in
set_option maxHeartbeats 4000000 in
theorem bX11_isFull_0  (hC : CallFix p m c cX11_isFull 1 s args lw_good RX11) (hret : meth.sig.returnType = (some .boolean)) (hlk : meth.locks = false) (hU : gU 1 D cA ad s)  {r : Int32} {st' : gS}   {st : gS} {H : Heap} {locs : List Loc} {ls : Array Slot} (hf : fX11_isFull st = some (r, st')) (hH : gP0 1 D cA ad st H) (hS : va_S (gA 1 ad) s.heap H locs) (hl : lv_has ls 1 [(0, .ref (ad 0))]) : W p l e (gRm 1) s m args below meth c H locs 0 0 (MQ below (gQc 1 D cA ad st' (some (.int r))) args s 0 0 (gA 1 ad)) (F0 m 0 ls []) := by
  obtain ⟨hx, hb, hml, hown, hts⟩ := id hC
  unfold fX11_isFull at hf
  refine lv_aload_n (pc := 0) hx hb dX11_isFull_0 rfl (lv_at hl 0 rfl) ?_
  refine g_get (pc := 1) (v := .int (st.1 0 20)) hC hU hH gk1_0 g_cl11 20 (by decide) kf_X11_288 rfl dX11_isFull_1 ?_
  refine lv_bipush (v := 60) (pc := 4) hx hb dX11_isFull_4 (by decide) ?_
  refine lv_icmp_eq (tgt := 18) (pc := 6) hx hb dX11_isFull_6 (by decide) (fun hc => ?_) (fun hc => ?_)
  · have hf := gif_p hc hf
    refine lv_iconst (v := 1) (pc := 18) hx hb dX11_isFull_18 (by decide) ?_
    refine lv_goto (tgt := 23) (pc := 19) hx hb dX11_isFull_19 (by decide) ?_
    exact g_zret (pc := 23) hC hret hlk hH hS (by decide) hf dX11_isFull_23
  · have hf := gif_n hc hf
    refine lv_aload_n (pc := 9) hx hb dX11_isFull_9 rfl (lv_at hl 0 rfl) ?_
    refine g_get (pc := 10) (v := .int (st.1 0 22)) hC hU hH gk1_0 g_cl11 22 (by decide) kf_X11_291 rfl dX11_isFull_10 ?_
    refine lv_bipush (v := 30) (pc := 13) hx hb dX11_isFull_13 (by decide) ?_
    refine lv_icmp_ne (tgt := 22) (pc := 15) hx hb dX11_isFull_15 (by decide) (fun hc => ?_) (fun hc => ?_)
    · have hf := gif_n hc hf
      refine lv_iconst (v := 0) (pc := 22) hx hb dX11_isFull_22 (by decide) ?_
      exact g_zret (pc := 23) hC hret hlk hH hS (by decide) hf dX11_isFull_23
    · have hf := gif_p hc hf
      refine lv_iconst (v := 1) (pc := 18) hx hb dX11_isFull_18 (by decide) ?_
      refine lv_goto (tgt := 23) (pc := 19) hx hb dX11_isFull_19 (by decide) ?_
      exact g_zret (pc := 23) hC hret hlk hH hS (by decide) hf dX11_isFull_23
set_option maxRecDepth 100000 in
set_option maxHeartbeats 4000000 in
theorem mX11_isFull {l : Launch} {D : va_G} {cA : Nat → ClassId} {ad : Nat → Nat}   {r : Int32} {st st' : gS} (hf : fX11_isFull  st = some (r, st')) : gM l yX11_isFull cX11_isFull 1 (some .boolean) 1 1 D cA ad st [.ref (ad 0)] (some (.int r)) st' := by
  refine g_met (by decide) (Nat.le_of_ble_eq_true rfl) ?_
  intro p e s m args below meth c ls hC hret hlk hU hH hl
  exact bX11_isFull_0 hC hret hlk hU hf hH va_S.rf hl
def fX11_countUnit    (st : gS) : Option (gS) :=
  some (wi (wi st 0 20 ((st.1 0 20) + 1)) 0 22 (((wi st 0 20 ((st.1 0 20) + 1)).1 0 22) + 1))
set_option maxRecDepth 100000 in
set_option maxHeartbeats 4000000 in
theorem bX11_countUnit_0  (hC : CallFix p m c cX11_countUnit 1 s args lw_good RX11) (hret : meth.sig.returnType = none) (hlk : meth.locks = false) (hU : gU 1 D cA ad s)  {st' : gS}   {st : gS} {H : Heap} {locs : List Loc} {ls : Array Slot} (hf : fX11_countUnit st = some st') (hH : gP0 1 D cA ad st H) (hS : va_S (gA 1 ad) s.heap H locs) (hl : lv_has ls 1 [(0, .ref (ad 0))]) : W p l e (gRm 1) s m args below meth c H locs 0 0 (MQ below (gQc 1 D cA ad st' none) args s 0 0 (gA 1 ad)) (F0 m 0 ls []) := by
  obtain ⟨hx, hb, hml, hown, hts⟩ := id hC
  unfold fX11_countUnit at hf
  refine lv_aload_n (pc := 0) hx hb dX11_countUnit_0 rfl (lv_at hl 0 rfl) ?_
  refine lv_dup (pc := 1) hx hb dX11_countUnit_1 rfl ?_
  refine g_get (pc := 2) (v := .int (st.1 0 20)) hC hU hH gk1_0 g_cl11 20 (by decide) kf_X11_288 rfl dX11_countUnit_2 ?_
  refine lv_iconst (v := 1) (pc := 5) hx hb dX11_countUnit_5 (by decide) ?_
  refine lv_iadd (pc := 6) hx hb dX11_countUnit_6 ?_
  refine g_puti (pc := 7) hC hU hH hS gk1_0 g_cl11 20 (by decide) kf_X11_288 rfl rfl rfl rfl dX11_countUnit_7 (fun H locs hH hS => ?_)
  refine lv_aload_n (pc := 10) hx hb dX11_countUnit_10 rfl (lv_at hl 0 rfl) ?_
  refine lv_dup (pc := 11) hx hb dX11_countUnit_11 rfl ?_
  refine g_get (pc := 12) (v := .int ((wi st 0 20 ((st.1 0 20) + 1)).1 0 22)) hC hU hH gk1_0 g_cl11 22 (by decide) kf_X11_291 rfl dX11_countUnit_12 ?_
  refine lv_iconst (v := 1) (pc := 15) hx hb dX11_countUnit_15 (by decide) ?_
  refine lv_iadd (pc := 16) hx hb dX11_countUnit_16 ?_
  refine g_puti (pc := 17) hC hU hH hS gk1_0 g_cl11 22 (by decide) kf_X11_291 rfl rfl rfl rfl dX11_countUnit_17 (fun H locs hH hS => ?_)
  exact g_vret (pc := 20) hC hret hlk hH hS hf dX11_countUnit_20
set_option maxRecDepth 100000 in
set_option maxHeartbeats 4000000 in
theorem mX11_countUnit {l : Launch} {D : va_G} {cA : Nat → ClassId} {ad : Nat → Nat}   {st st' : gS} (hf : fX11_countUnit  st = some st') : gM l yX11_countUnit cX11_countUnit 1 none 1 1 D cA ad st [.ref (ad 0)] none st' := by
  refine g_met (by decide) (Nat.le_of_ble_eq_true rfl) ?_
  intro p e s m args below meth c ls hC hret hlk hU hH hl
  exact bX11_countUnit_0 hC hret hlk hU hf hH va_S.rf hl
def fX11_asked    (st : gS) : Option (Int32 × gS) :=
  if (st.1 0 6) = 1 then (if (lg_cmp (st.2.1 0 9) 1751216740) = 0 then (some (0, st)) else (if (lg_cmp (st.2.1 0 9) 495723310188) = 0 then (some (1, st)) else (if (lg_cmp (st.2.1 0 9) 2003792494) = 0 then (some (2, st)) else (if (lg_cmp (st.2.1 0 9) 7824756) = 0 then (some (3, st)) else (if (lg_cmp (st.2.1 0 9) 6578553) = 0 then (some (4, st)) else (some ((-1), st))))))) else (some ((-1), st))
set_option maxRecDepth 100000 in
set_option maxHeartbeats 4000000 in
theorem bX11_asked_0  (hC : CallFix p m c cX11_asked 1 s args lw_good RX11) (hret : meth.sig.returnType = (some .int)) (hlk : meth.locks = false) (hU : gU 1 D cA ad s)  {r : Int32} {st' : gS}   {st : gS} {H : Heap} {locs : List Loc} {ls : Array Slot} (hf : fX11_asked st = some (r, st')) (hH : gP0 1 D cA ad st H) (hS : va_S (gA 1 ad) s.heap H locs) (hl : lv_has ls 1 [(0, .ref (ad 0))]) : W p l e (gRm 1) s m args below meth c H locs 0 0 (MQ below (gQc 1 D cA ad st' (some (.int r))) args s 0 0 (gA 1 ad)) (F0 m 0 ls []) := by
  obtain ⟨hx, hb, hml, hown, hts⟩ := id hC
  unfold fX11_asked at hf
  refine lv_aload_n (pc := 0) hx hb dX11_asked_0 rfl (lv_at hl 0 rfl) ?_
  refine g_get (pc := 1) (v := .int (st.1 0 6)) hC hU hH gk1_0 g_cl11 6 (by decide) kf_X11_184 rfl dX11_asked_1 ?_
  refine lv_iconst (v := 1) (pc := 4) hx hb dX11_asked_4 (by decide) ?_
  refine lv_icmp_eq (tgt := 10) (pc := 5) hx hb dX11_asked_5 (by decide) (fun hc => ?_) (fun hc => ?_)
  · have hf := gif_p hc hf
    refine lv_aload_n (pc := 10) hx hb dX11_asked_10 rfl (lv_at hl 0 rfl) ?_
    refine g_get (pc := 11) (v := .long (st.2.1 0 9)) hC hU hH gk1_0 g_cl11 9 (by decide) kf_X11_177 rfl dX11_asked_11 ?_
    refine lv_ldc2 (pc := 14) hx hb hown (hts _ kc_X11_214) dX11_asked_14 ?_
    refine W.lcmp hx hb (pc := 17) dX11_asked_17 ?_
    refine lv_if_ne (tgt := 23) (pc := 18) hx hb dX11_asked_18 (by decide) (fun hc => ?_) (fun hc => ?_)
    · have hf := gif_n hc hf
      refine lv_aload_n (pc := 23) hx hb dX11_asked_23 rfl (lv_at hl 0 rfl) ?_
      refine g_get (pc := 24) (v := .long (st.2.1 0 9)) hC hU hH gk1_0 g_cl11 9 (by decide) kf_X11_177 rfl dX11_asked_24 ?_
      refine lv_ldc2 (pc := 27) hx hb hown (hts _ kc_X11_204) dX11_asked_27 ?_
      refine W.lcmp hx hb (pc := 30) dX11_asked_30 ?_
      refine lv_if_ne (tgt := 36) (pc := 31) hx hb dX11_asked_31 (by decide) (fun hc => ?_) (fun hc => ?_)
      · have hf := gif_n hc hf
        refine lv_aload_n (pc := 36) hx hb dX11_asked_36 rfl (lv_at hl 0 rfl) ?_
        refine g_get (pc := 37) (v := .long (st.2.1 0 9)) hC hU hH gk1_0 g_cl11 9 (by decide) kf_X11_177 rfl dX11_asked_37 ?_
        refine lv_ldc2 (pc := 40) hx hb hown (hts _ kc_X11_226) dX11_asked_40 ?_
        refine W.lcmp hx hb (pc := 43) dX11_asked_43 ?_
        refine lv_if_ne (tgt := 49) (pc := 44) hx hb dX11_asked_44 (by decide) (fun hc => ?_) (fun hc => ?_)
        · have hf := gif_n hc hf
          refine lv_aload_n (pc := 49) hx hb dX11_asked_49 rfl (lv_at hl 0 rfl) ?_
          refine g_get (pc := 50) (v := .long (st.2.1 0 9)) hC hU hH gk1_0 g_cl11 9 (by decide) kf_X11_177 rfl dX11_asked_50 ?_
          refine lv_ldc2 (pc := 53) hx hb hown (hts _ kc_X11_228) dX11_asked_53 ?_
          refine W.lcmp hx hb (pc := 56) dX11_asked_56 ?_
          refine lv_if_ne (tgt := 62) (pc := 57) hx hb dX11_asked_57 (by decide) (fun hc => ?_) (fun hc => ?_)
          · have hf := gif_n hc hf
            refine lv_aload_n (pc := 62) hx hb dX11_asked_62 rfl (lv_at hl 0 rfl) ?_
            refine g_get (pc := 63) (v := .long (st.2.1 0 9)) hC hU hH gk1_0 g_cl11 9 (by decide) kf_X11_177 rfl dX11_asked_63 ?_
            refine lv_ldc2 (pc := 66) hx hb hown (hts _ kc_X11_230) dX11_asked_66 ?_
            refine W.lcmp hx hb (pc := 69) dX11_asked_69 ?_
            refine lv_if_ne (tgt := 77) (pc := 70) hx hb dX11_asked_70 (by decide) (fun hc => ?_) (fun hc => ?_)
            · have hf := gif_n hc hf
              refine lv_iconst (v := (-1)) (pc := 77) hx hb dX11_asked_77 (by decide) ?_
              exact g_iret (pc := 78) hC hret hlk hH hS hf dX11_asked_78
            · have hf := gif_p hc hf
              refine lv_iconst (v := 4) (pc := 73) hx hb dX11_asked_73 (by decide) ?_
              refine lv_goto (tgt := 78) (pc := 74) hx hb dX11_asked_74 (by decide) ?_
              exact g_iret (pc := 78) hC hret hlk hH hS hf dX11_asked_78
          · have hf := gif_p hc hf
            refine lv_iconst (v := 3) (pc := 60) hx hb dX11_asked_60 (by decide) ?_
            exact g_iret (pc := 61) hC hret hlk hH hS hf dX11_asked_61
        · have hf := gif_p hc hf
          refine lv_iconst (v := 2) (pc := 47) hx hb dX11_asked_47 (by decide) ?_
          exact g_iret (pc := 48) hC hret hlk hH hS hf dX11_asked_48
      · have hf := gif_p hc hf
        refine lv_iconst (v := 1) (pc := 34) hx hb dX11_asked_34 (by decide) ?_
        exact g_iret (pc := 35) hC hret hlk hH hS hf dX11_asked_35
    · have hf := gif_p hc hf
      refine lv_iconst (v := 0) (pc := 21) hx hb dX11_asked_21 (by decide) ?_
      exact g_iret (pc := 22) hC hret hlk hH hS hf dX11_asked_22
  · have hf := gif_n hc hf
    refine lv_iconst (v := (-1)) (pc := 8) hx hb dX11_asked_8 (by decide) ?_
    exact g_iret (pc := 9) hC hret hlk hH hS hf dX11_asked_9
set_option maxRecDepth 100000 in
set_option maxHeartbeats 4000000 in
theorem mX11_asked {l : Launch} {D : va_G} {cA : Nat → ClassId} {ad : Nat → Nat}   {r : Int32} {st st' : gS} (hf : fX11_asked  st = some (r, st')) : gM l yX11_asked cX11_asked 1 (some .int) 1 1 D cA ad st [.ref (ad 0)] (some (.int r)) st' := by
  refine g_met (by decide) (Nat.le_of_ble_eq_true rfl) ?_
  intro p e s m args below meth c ls hC hret hlk hU hH hl
  exact bX11_asked_0 hC hret hlk hU hf hH va_S.rf hl
def fX11_add (a1 : Int32) (a2 : Int32)   (st : gS) : Option (gS) :=
  gc (gI (st.1 0 17) 320) (gc (gI ((wi st 3 (st.1 0 17).toNatClampNeg a1).1 0 17) 320) (some (wi (wi (wi st 3 (st.1 0 17).toNatClampNeg a1) 4 ((wi st 3 (st.1 0 17).toNatClampNeg a1).1 0 17).toNatClampNeg a2) 0 17 (((wi (wi st 3 (st.1 0 17).toNatClampNeg a1) 4 ((wi st 3 (st.1 0 17).toNatClampNeg a1).1 0 17).toNatClampNeg a2).1 0 17) + 1))))
set_option maxRecDepth 100000 in
set_option maxHeartbeats 4000000 in
theorem bX11_add_0 {a1 : Int32} {a2 : Int32} (hC : CallFix p m c cX11_add 3 s args lw_good RX11) (hret : meth.sig.returnType = none) (hlk : meth.locks = false) (hU : gU 1 D cA ad s)  {st' : gS}   {st : gS} {H : Heap} {locs : List Loc} {ls : Array Slot} (hf : fX11_add a1 a2 st = some st') (hH : gP0 1 D cA ad st H) (hS : va_S (gA 1 ad) s.heap H locs) (hl : lv_has ls 3 [(0, .ref (ad 0)), (1, .int a1), (2, .int a2)]) : W p l e (gRm 1) s m args below meth c H locs 0 0 (MQ below (gQc 1 D cA ad st' none) args s 0 0 (gA 1 ad)) (F0 m 0 ls []) := by
  obtain ⟨hx, hb, hml, hown, hts⟩ := id hC
  unfold fX11_add at hf
  refine lv_aload_n (pc := 0) hx hb dX11_add_0 rfl (lv_at hl 0 rfl) ?_
  refine g_get (pc := 1) (v := .ref (ad 3)) hC hU hH gk1_0 g_cl11 11 (by decide) kf_X11_21 rfl dX11_add_1 ?_
  refine lv_aload_n (pc := 4) hx hb dX11_add_4 rfl (lv_at hl 0 rfl) ?_
  refine g_get (pc := 5) (v := .int (st.1 0 17)) hC hU hH gk1_0 g_cl11 17 (by decide) kf_X11_272 rfl dX11_add_5 ?_
  refine lv_iload_n (pc := 8) hx hb dX11_add_8 rfl (lv_at hl 1 rfl) ?_
  obtain ⟨h0_1, hf⟩ := gc_s hf
  refine g_iast (pc := 9) hC hU hH hS gk1_3 gn1_3 h0_1 dX11_add_9 (fun H locs hH hS => ?_)
  refine lv_aload_n (pc := 10) hx hb dX11_add_10 rfl (lv_at hl 0 rfl) ?_
  refine g_get (pc := 11) (v := .ref (ad 4)) hC hU hH gk1_0 g_cl11 12 (by decide) kf_X11_24 rfl dX11_add_11 ?_
  refine lv_aload_n (pc := 14) hx hb dX11_add_14 rfl (lv_at hl 0 rfl) ?_
  refine g_get (pc := 15) (v := .int ((wi st 3 (st.1 0 17).toNatClampNeg a1).1 0 17)) hC hU hH gk1_0 g_cl11 17 (by decide) kf_X11_272 rfl dX11_add_15 ?_
  refine lv_iload_n (pc := 18) hx hb dX11_add_18 rfl (lv_at hl 2 rfl) ?_
  obtain ⟨h0_2, hf⟩ := gc_s hf
  refine g_iast (pc := 19) hC hU hH hS gk1_4 gn1_4 h0_2 dX11_add_19 (fun H locs hH hS => ?_)
  refine lv_aload_n (pc := 20) hx hb dX11_add_20 rfl (lv_at hl 0 rfl) ?_
  refine lv_dup (pc := 21) hx hb dX11_add_21 rfl ?_
  refine g_get (pc := 22) (v := .int ((wi (wi st 3 (st.1 0 17).toNatClampNeg a1) 4 ((wi st 3 (st.1 0 17).toNatClampNeg a1).1 0 17).toNatClampNeg a2).1 0 17)) hC hU hH gk1_0 g_cl11 17 (by decide) kf_X11_272 rfl dX11_add_22 ?_
  refine lv_iconst (v := 1) (pc := 25) hx hb dX11_add_25 (by decide) ?_
  refine lv_iadd (pc := 26) hx hb dX11_add_26 ?_
  refine g_puti (pc := 27) hC hU hH hS gk1_0 g_cl11 17 (by decide) kf_X11_272 rfl rfl rfl rfl dX11_add_27 (fun H locs hH hS => ?_)
  exact g_vret (pc := 30) hC hret hlk hH hS hf dX11_add_30
set_option maxRecDepth 100000 in
set_option maxHeartbeats 4000000 in
theorem mX11_add {l : Launch} {D : va_G} {cA : Nat → ClassId} {ad : Nat → Nat} {a1 : Int32} {a2 : Int32}  {st st' : gS} (hf : fX11_add a1 a2 st = some st') : gM l yX11_add cX11_add 3 none 1 1 D cA ad st [.ref (ad 0), .int a1, .int a2] none st' := by
  refine g_met (by decide) (Nat.le_of_ble_eq_true rfl) ?_
  intro p e s m args below meth c ls hC hret hlk hU hH hl
  exact bX11_add_0 hC hret hlk hU hf hH va_S.rf hl
def fX11_unit_172   (s0 : Int32) (s1 : Int32) (st : gS) : Option (gS) :=
  (fX11_add s1 s0 st).bind fun q172_1 => ((fX11_token q172_1).bind fun q172_2 => (some q172_2))
set_option maxRecDepth 100000 in
set_option maxHeartbeats 4000000 in
theorem bX11_unit_172  (hC : CallFix p m c cX11_unit 3 s args lw_good RX11) (hret : meth.sig.returnType = none) (hlk : meth.locks = false) (hU : gU 1 D cA ad s)  {st' : gS}  {s0 : Int32} {s1 : Int32} {st : gS} {H : Heap} {locs : List Loc} {ls : Array Slot} (hf : fX11_unit_172 s0 s1 st = some st') (hH : gP0 1 D cA ad st H) (hS : va_S (gA 1 ad) s.heap H locs) (hl : lv_has ls 3 [(0, .ref (ad 0))]) : W p l e (gRm 4) s m args below meth c H locs 0 0 (MQ below (gQc 1 D cA ad st' none) args s 0 0 (gA 1 ad)) (F0 m 172 ls [.int s0, .int s1, .ref (ad 0)]) := by
  obtain ⟨hx, hb, hml, hown, hts⟩ := id hC
  unfold fX11_unit_172 at hf
  obtain ⟨q172_1, hq172_1, hf⟩ := gbd hf
  refine g_callVv (pc := 172) (rest := []) hC hU hH hS hl.1 gk1_0 rfl (by decide) (mX11_add  hq172_1) ky_X11_add km_X11_281 ⟨Nat.le_of_ble_eq_true rfl, Nat.le_of_ble_eq_true rfl⟩ ⟨Nat.zero_le _, Nat.zero_le _⟩ rfl (Nat.le_of_ble_eq_true rfl) dX11_unit_172 rfl (fun H locs hH hS => ?_)
  refine lv_aload_n (pc := 175) hx hb dX11_unit_175 rfl (lv_at hl 0 rfl) ?_
  obtain ⟨q172_2, hq172_2, hf⟩ := gbd hf
  refine g_callVv (pc := 176) (rest := []) hC hU hH hS hl.1 gk1_0 rfl (by decide) (mX11_token  hq172_2) ky_X11_token km_X11_249 ⟨Nat.le_of_ble_eq_true rfl, Nat.le_of_ble_eq_true rfl⟩ ⟨Nat.zero_le _, Nat.zero_le _⟩ rfl (Nat.le_of_ble_eq_true rfl) dX11_unit_176 rfl (fun H locs hH hS => ?_)
  exact g_vret (pc := 179) hC hret hlk hH hS hf dX11_unit_179
def fX11_unit_160   (l2 : Int32) (s0 : Int32) (st : gS) : Option (gS) :=
  if 0 ≤ l2 then (fX11_unit_172 l2 s0 st) else (fX11_unit_172 (st.1 0 8) s0 st)
set_option maxRecDepth 100000 in
set_option maxHeartbeats 4000000 in
theorem bX11_unit_160  (hC : CallFix p m c cX11_unit 3 s args lw_good RX11) (hret : meth.sig.returnType = none) (hlk : meth.locks = false) (hU : gU 1 D cA ad s)  {st' : gS}  {l2 : Int32} {s0 : Int32} {st : gS} {H : Heap} {locs : List Loc} {ls : Array Slot} (hf : fX11_unit_160 l2 s0 st = some st') (hH : gP0 1 D cA ad st H) (hS : va_S (gA 1 ad) s.heap H locs) (hl : lv_has ls 3 [(0, .ref (ad 0)), (2, .int l2)]) : W p l e (gRm 4) s m args below meth c H locs 0 0 (MQ below (gQc 1 D cA ad st' none) args s 0 0 (gA 1 ad)) (F0 m 160 ls [.int s0, .ref (ad 0)]) := by
  obtain ⟨hx, hb, hml, hown, hts⟩ := id hC
  unfold fX11_unit_160 at hf
  refine lv_iload_n (pc := 160) hx hb dX11_unit_160 rfl (lv_at hl 1 rfl) ?_
  refine lv_if_ge (tgt := 171) (pc := 161) hx hb dX11_unit_161 (by decide) (fun hc => ?_) (fun hc => ?_)
  · have hf := gif_p hc hf
    refine lv_iload_n (pc := 171) hx hb dX11_unit_171 rfl (lv_at hl 1 rfl) ?_
    exact bX11_unit_172 hC hret hlk hU hf hH hS (lv_sub hl [0] rfl)
  · have hf := gif_n hc hf
    refine lv_aload_n (pc := 164) hx hb dX11_unit_164 rfl (lv_at hl 0 rfl) ?_
    refine g_get (pc := 165) (v := .int (st.1 0 8)) hC hU hH gk1_0 g_cl11 8 (by decide) kf_X11_181 rfl dX11_unit_165 ?_
    refine lv_goto (tgt := 172) (pc := 168) hx hb dX11_unit_168 (by decide) ?_
    exact bX11_unit_172 hC hret hlk hU hf hH hS (lv_sub hl [0] rfl)
def fX11_unit_138   (l2 : Int32) (st : gS) : Option (gS) :=
  if (st.1 0 2) ≤ 0 then ((fX11_countUnit st).bind fun q138_1 => (if 0 ≤ l2 then (fX11_unit_160 l2 1 q138_1) else (fX11_unit_160 l2 0 q138_1))) else (some st)
set_option maxRecDepth 100000 in
set_option maxHeartbeats 4000000 in
theorem bX11_unit_138  (hC : CallFix p m c cX11_unit 3 s args lw_good RX11) (hret : meth.sig.returnType = none) (hlk : meth.locks = false) (hU : gU 1 D cA ad s)  {st' : gS}  {l2 : Int32} {st : gS} {H : Heap} {locs : List Loc} {ls : Array Slot} (hf : fX11_unit_138 l2 st = some st') (hH : gP0 1 D cA ad st H) (hS : va_S (gA 1 ad) s.heap H locs) (hl : lv_has ls 3 [(0, .ref (ad 0)), (2, .int l2)]) : W p l e (gRm 4) s m args below meth c H locs 0 0 (MQ below (gQc 1 D cA ad st' none) args s 0 0 (gA 1 ad)) (F0 m 138 ls []) := by
  obtain ⟨hx, hb, hml, hown, hts⟩ := id hC
  unfold fX11_unit_138 at hf
  refine lv_aload_n (pc := 138) hx hb dX11_unit_138 rfl (lv_at hl 0 rfl) ?_
  refine g_get (pc := 139) (v := .int (st.1 0 2)) hC hU hH gk1_0 g_cl11 2 (by decide) kf_X11_197 rfl dX11_unit_139 ?_
  refine lv_if_le (tgt := 146) (pc := 142) hx hb dX11_unit_142 (by decide) (fun hc => ?_) (fun hc => ?_)
  · have hf := gif_p hc hf
    refine lv_aload_n (pc := 146) hx hb dX11_unit_146 rfl (lv_at hl 0 rfl) ?_
    obtain ⟨q138_1, hq138_1, hf⟩ := gbd hf
    refine g_callVv (pc := 147) (rest := []) hC hU hH hS hl.1 gk1_0 rfl (by decide) (mX11_countUnit  hq138_1) ky_X11_countUnit km_X11_303 ⟨Nat.le_of_ble_eq_true rfl, Nat.le_of_ble_eq_true rfl⟩ ⟨Nat.zero_le _, Nat.zero_le _⟩ rfl (Nat.le_of_ble_eq_true rfl) dX11_unit_147 rfl (fun H locs hH hS => ?_)
    refine lv_aload_n (pc := 150) hx hb dX11_unit_150 rfl (lv_at hl 0 rfl) ?_
    refine lv_iload_n (pc := 151) hx hb dX11_unit_151 rfl (lv_at hl 1 rfl) ?_
    refine lv_if_ge (tgt := 159) (pc := 152) hx hb dX11_unit_152 (by decide) (fun hc => ?_) (fun hc => ?_)
    · have hf := gif_p hc hf
      refine lv_iconst (v := 1) (pc := 159) hx hb dX11_unit_159 (by decide) ?_
      exact bX11_unit_160 hC hret hlk hU hf hH hS (lv_sub hl [0, 1] rfl)
    · have hf := gif_n hc hf
      refine lv_iconst (v := 0) (pc := 155) hx hb dX11_unit_155 (by decide) ?_
      refine lv_goto (tgt := 160) (pc := 156) hx hb dX11_unit_156 (by decide) ?_
      exact bX11_unit_160 hC hret hlk hU hf hH hS (lv_sub hl [0, 1] rfl)
  · have hf := gif_n hc hf
    exact g_vret (pc := 145) hC hret hlk hH hS hf dX11_unit_145
def fX11_unit_133   (l2 : Int32) (st : gS) : Option (gS) :=
  (fX11_wrong 2 st).bind fun q133_1 => (fX11_unit_138 l2 q133_1)
set_option maxRecDepth 100000 in
set_option maxHeartbeats 4000000 in
theorem bX11_unit_133  (hC : CallFix p m c cX11_unit 3 s args lw_good RX11) (hret : meth.sig.returnType = none) (hlk : meth.locks = false) (hU : gU 1 D cA ad s)  {st' : gS}  {l2 : Int32} {st : gS} {H : Heap} {locs : List Loc} {ls : Array Slot} (hf : fX11_unit_133 l2 st = some st') (hH : gP0 1 D cA ad st H) (hS : va_S (gA 1 ad) s.heap H locs) (hl : lv_has ls 3 [(0, .ref (ad 0)), (2, .int l2)]) : W p l e (gRm 4) s m args below meth c H locs 0 0 (MQ below (gQc 1 D cA ad st' none) args s 0 0 (gA 1 ad)) (F0 m 133 ls []) := by
  obtain ⟨hx, hb, hml, hown, hts⟩ := id hC
  unfold fX11_unit_133 at hf
  refine lv_aload_n (pc := 133) hx hb dX11_unit_133 rfl (lv_at hl 0 rfl) ?_
  refine lv_iconst (v := 2) (pc := 134) hx hb dX11_unit_134 (by decide) ?_
  obtain ⟨q133_1, hq133_1, hf⟩ := gbd hf
  refine g_callVv (pc := 135) (rest := []) hC hU hH hS hl.1 gk1_0 rfl (by decide) (mX11_wrong  hq133_1) ky_X11_wrong km_X11_246 ⟨Nat.le_of_ble_eq_true rfl, Nat.le_of_ble_eq_true rfl⟩ ⟨Nat.zero_le _, Nat.zero_le _⟩ rfl (Nat.le_of_ble_eq_true rfl) dX11_unit_135 rfl (fun H locs hH hS => ?_)
  exact bX11_unit_138 hC hret hlk hU hf hH hS (lv_sub hl [0, 1] rfl)
def fX11_unit_126   (l2 : Int32) (st : gS) : Option (gS) :=
  (fX11_isFull st).bind fun q126_1 => (if q126_1.1 = 0 then (fX11_unit_138 l2 q126_1.2) else (fX11_unit_133 l2 q126_1.2))
set_option maxRecDepth 100000 in
set_option maxHeartbeats 4000000 in
theorem bX11_unit_126  (hC : CallFix p m c cX11_unit 3 s args lw_good RX11) (hret : meth.sig.returnType = none) (hlk : meth.locks = false) (hU : gU 1 D cA ad s)  {st' : gS}  {l2 : Int32} {st : gS} {H : Heap} {locs : List Loc} {ls : Array Slot} (hf : fX11_unit_126 l2 st = some st') (hH : gP0 1 D cA ad st H) (hS : va_S (gA 1 ad) s.heap H locs) (hl : lv_has ls 3 [(0, .ref (ad 0)), (2, .int l2)]) : W p l e (gRm 4) s m args below meth c H locs 0 0 (MQ below (gQc 1 D cA ad st' none) args s 0 0 (gA 1 ad)) (F0 m 126 ls []) := by
  obtain ⟨hx, hb, hml, hown, hts⟩ := id hC
  unfold fX11_unit_126 at hf
  refine lv_aload_n (pc := 126) hx hb dX11_unit_126 rfl (lv_at hl 0 rfl) ?_
  obtain ⟨q126_1, hq126_1, hf⟩ := gbd hf
  refine g_callVi (pc := 127) (rest := []) hC hU hH hS hl.1 gk1_0 rfl (by decide) (mX11_isFull  hq126_1) ky_X11_isFull km_X11_300 ⟨Nat.le_of_ble_eq_true rfl, Nat.le_of_ble_eq_true rfl⟩ ⟨Nat.zero_le _, Nat.zero_le _⟩ rfl (Nat.le_of_ble_eq_true rfl) dX11_unit_127 rfl (fun H locs hH hS => ?_)
  refine lv_if_eq (tgt := 138) (pc := 130) hx hb dX11_unit_130 (by decide) (fun hc => ?_) (fun hc => ?_)
  · have hf := gif_p hc hf
    exact bX11_unit_138 hC hret hlk hU hf hH hS (lv_sub hl [0, 1] rfl)
  · have hf := gif_n hc hf
    exact bX11_unit_133 hC hret hlk hU hf hH hS (lv_sub hl [0, 1] rfl)
def fX11_unit_101    (st : gS) : Option (gS) :=
  if (st.1 0 2) ≤ 0 then ((fX11_asked st).bind fun q101_1 => (if (q101_1.2.1 0 6) = 2 then (fX11_unit_126 q101_1.1 q101_1.2) else (if q101_1.1 < 0 then (fX11_unit_133 q101_1.1 q101_1.2) else (fX11_unit_126 q101_1.1 q101_1.2)))) else (some st)
set_option maxRecDepth 100000 in
set_option maxHeartbeats 4000000 in
theorem bX11_unit_101  (hC : CallFix p m c cX11_unit 3 s args lw_good RX11) (hret : meth.sig.returnType = none) (hlk : meth.locks = false) (hU : gU 1 D cA ad s)  {st' : gS}   {st : gS} {H : Heap} {locs : List Loc} {ls : Array Slot} (hf : fX11_unit_101 st = some st') (hH : gP0 1 D cA ad st H) (hS : va_S (gA 1 ad) s.heap H locs) (hl : lv_has ls 3 [(0, .ref (ad 0))]) : W p l e (gRm 4) s m args below meth c H locs 0 0 (MQ below (gQc 1 D cA ad st' none) args s 0 0 (gA 1 ad)) (F0 m 101 ls []) := by
  obtain ⟨hx, hb, hml, hown, hts⟩ := id hC
  unfold fX11_unit_101 at hf
  refine lv_aload_n (pc := 101) hx hb dX11_unit_101 rfl (lv_at hl 0 rfl) ?_
  refine g_get (pc := 102) (v := .int (st.1 0 2)) hC hU hH gk1_0 g_cl11 2 (by decide) kf_X11_197 rfl dX11_unit_102 ?_
  refine lv_if_le (tgt := 109) (pc := 105) hx hb dX11_unit_105 (by decide) (fun hc => ?_) (fun hc => ?_)
  · have hf := gif_p hc hf
    refine lv_aload_n (pc := 109) hx hb dX11_unit_109 rfl (lv_at hl 0 rfl) ?_
    obtain ⟨q101_1, hq101_1, hf⟩ := gbd hf
    refine g_callVi (pc := 110) (rest := []) hC hU hH hS hl.1 gk1_0 rfl (by decide) (mX11_asked  hq101_1) ky_X11_asked km_X11_306 ⟨Nat.le_of_ble_eq_true rfl, Nat.le_of_ble_eq_true rfl⟩ ⟨Nat.zero_le _, Nat.zero_le _⟩ rfl (Nat.le_of_ble_eq_true rfl) dX11_unit_110 rfl (fun H locs hH hS => ?_)
    refine lv_istore_n (lv' := [(2, .int q101_1.1), (0, .ref (ad 0))]) (pc := 113) hx hb dX11_unit_113 rfl hl (by decide) rfl (fun ls hl => ?_)
    refine lv_aload_n (pc := 114) hx hb dX11_unit_114 rfl (lv_at hl 1 rfl) ?_
    refine g_get (pc := 115) (v := .int (q101_1.2.1 0 6)) hC hU hH gk1_0 g_cl11 6 (by decide) kf_X11_184 rfl dX11_unit_115 ?_
    refine lv_iconst (v := 2) (pc := 118) hx hb dX11_unit_118 (by decide) ?_
    refine lv_icmp_eq (tgt := 126) (pc := 119) hx hb dX11_unit_119 (by decide) (fun hc => ?_) (fun hc => ?_)
    · have hf := gif_p hc hf
      exact bX11_unit_126 hC hret hlk hU hf hH hS (lv_sub hl [1, 0] rfl)
    · have hf := gif_n hc hf
      refine lv_iload_n (pc := 122) hx hb dX11_unit_122 rfl (lv_at hl 0 rfl) ?_
      refine lv_if_lt (tgt := 133) (pc := 123) hx hb dX11_unit_123 (by decide) (fun hc => ?_) (fun hc => ?_)
      · have hf := gif_p hc hf
        exact bX11_unit_133 hC hret hlk hU hf hH hS (lv_sub hl [1, 0] rfl)
      · have hf := gif_n hc hf
        exact bX11_unit_126 hC hret hlk hU hf hH hS (lv_sub hl [1, 0] rfl)
  · have hf := gif_n hc hf
    exact g_vret (pc := 108) hC hret hlk hH hS hf dX11_unit_108
def fX11_unit_83  (k2 : Int32 → gS → Option (gS)) (l1 : Int32) (st : gS) : Option (gS) :=
  (fX11_countUnit st).bind fun q83_1 => ((fX11_openUp 20 q83_1).bind fun q83_2 => (k2 l1 q83_2))
set_option maxRecDepth 100000 in
set_option maxHeartbeats 4000000 in
theorem bX11_unit_83  (hC : CallFix p m c cX11_unit 3 s args lw_good RX11) (hret : meth.sig.returnType = none) (hlk : meth.locks = false) (hU : gU 1 D cA ad s)  {st' : gS} {k2 : Int32 → gS → Option (gS)} (hk2 : ∀ {l1 : Int32} {st : gS} {H : Heap} {locs : List Loc} {ls : Array Slot}, k2 l1 st = some st' → gP0 1 D cA ad st H → va_S (gA 1 ad) s.heap H locs → lv_has ls 3 [(0, .ref (ad 0)), (1, .int l1)] → W p l e (gRm 4) s m args below meth c H locs 0 0 (MQ below (gQc 1 D cA ad st' none) args s 0 0 (gA 1 ad)) (F0 m 2 ls [])) {l1 : Int32} {st : gS} {H : Heap} {locs : List Loc} {ls : Array Slot} (hf : fX11_unit_83 k2 l1 st = some st') (hH : gP0 1 D cA ad st H) (hS : va_S (gA 1 ad) s.heap H locs) (hl : lv_has ls 3 [(0, .ref (ad 0)), (1, .int l1)]) : W p l e (gRm 4) s m args below meth c H locs 0 0 (MQ below (gQc 1 D cA ad st' none) args s 0 0 (gA 1 ad)) (F0 m 83 ls []) := by
  obtain ⟨hx, hb, hml, hown, hts⟩ := id hC
  unfold fX11_unit_83 at hf
  refine lv_aload_n (pc := 83) hx hb dX11_unit_83 rfl (lv_at hl 0 rfl) ?_
  obtain ⟨q83_1, hq83_1, hf⟩ := gbd hf
  refine g_callVv (pc := 84) (rest := []) hC hU hH hS hl.1 gk1_0 rfl (by decide) (mX11_countUnit  hq83_1) ky_X11_countUnit km_X11_303 ⟨Nat.le_of_ble_eq_true rfl, Nat.le_of_ble_eq_true rfl⟩ ⟨Nat.zero_le _, Nat.zero_le _⟩ rfl (Nat.le_of_ble_eq_true rfl) dX11_unit_84 rfl (fun H locs hH hS => ?_)
  refine lv_aload_n (pc := 87) hx hb dX11_unit_87 rfl (lv_at hl 0 rfl) ?_
  refine lv_bipush (v := 20) (pc := 88) hx hb dX11_unit_88 (by decide) ?_
  obtain ⟨q83_2, hq83_2, hf⟩ := gbd hf
  refine g_callVv (pc := 90) (rest := []) hC hU hH hS hl.1 gk1_0 rfl (by decide) (mX11_openUp  hq83_2) ky_X11_openUp km_X11_297 ⟨Nat.le_of_ble_eq_true rfl, Nat.le_of_ble_eq_true rfl⟩ ⟨Nat.zero_le _, Nat.zero_le _⟩ rfl (Nat.le_of_ble_eq_true rfl) dX11_unit_90 rfl (fun H locs hH hS => ?_)
  refine lv_goto (tgt := 2) (pc := 93) hx hb dX11_unit_93 (by decide) ?_
  exact hk2 hf hH hS (lv_sub hl [0, 1] rfl)
def fX11_unit_78  (k2 : Int32 → gS → Option (gS)) (l1 : Int32) (st : gS) : Option (gS) :=
  (fX11_wrong 2 st).bind fun q78_1 => (fX11_unit_83 k2 l1 q78_1)
set_option maxRecDepth 100000 in
set_option maxHeartbeats 4000000 in
theorem bX11_unit_78  (hC : CallFix p m c cX11_unit 3 s args lw_good RX11) (hret : meth.sig.returnType = none) (hlk : meth.locks = false) (hU : gU 1 D cA ad s)  {st' : gS} {k2 : Int32 → gS → Option (gS)} (hk2 : ∀ {l1 : Int32} {st : gS} {H : Heap} {locs : List Loc} {ls : Array Slot}, k2 l1 st = some st' → gP0 1 D cA ad st H → va_S (gA 1 ad) s.heap H locs → lv_has ls 3 [(0, .ref (ad 0)), (1, .int l1)] → W p l e (gRm 4) s m args below meth c H locs 0 0 (MQ below (gQc 1 D cA ad st' none) args s 0 0 (gA 1 ad)) (F0 m 2 ls [])) {l1 : Int32} {st : gS} {H : Heap} {locs : List Loc} {ls : Array Slot} (hf : fX11_unit_78 k2 l1 st = some st') (hH : gP0 1 D cA ad st H) (hS : va_S (gA 1 ad) s.heap H locs) (hl : lv_has ls 3 [(0, .ref (ad 0)), (1, .int l1)]) : W p l e (gRm 4) s m args below meth c H locs 0 0 (MQ below (gQc 1 D cA ad st' none) args s 0 0 (gA 1 ad)) (F0 m 78 ls []) := by
  obtain ⟨hx, hb, hml, hown, hts⟩ := id hC
  unfold fX11_unit_78 at hf
  refine lv_aload_n (pc := 78) hx hb dX11_unit_78 rfl (lv_at hl 0 rfl) ?_
  refine lv_iconst (v := 2) (pc := 79) hx hb dX11_unit_79 (by decide) ?_
  obtain ⟨q78_1, hq78_1, hf⟩ := gbd hf
  refine g_callVv (pc := 80) (rest := []) hC hU hH hS hl.1 gk1_0 rfl (by decide) (mX11_wrong  hq78_1) ky_X11_wrong km_X11_246 ⟨Nat.le_of_ble_eq_true rfl, Nat.le_of_ble_eq_true rfl⟩ ⟨Nat.zero_le _, Nat.zero_le _⟩ rfl (Nat.le_of_ble_eq_true rfl) dX11_unit_80 rfl (fun H locs hH hS => ?_)
  exact bX11_unit_83 hC hret hlk hU hk2 hf hH hS (lv_sub hl [0, 1] rfl)
def fX11_unit_53  (k2 : Int32 → gS → Option (gS)) (l1 : Int32) (st : gS) : Option (gS) :=
  if (st.1 0 6) = 40 then ((fX11_isFull st).bind fun q53_1 => (if q53_1.1 = 0 then (if (q53_1.2.1 0 23) ≤ 6 then (fX11_unit_83 k2 l1 q53_1.2) else (fX11_unit_78 k2 l1 q53_1.2)) else (fX11_unit_78 k2 l1 q53_1.2))) else (k2 0 st)
set_option maxRecDepth 100000 in
set_option maxHeartbeats 4000000 in
theorem bX11_unit_53  (hC : CallFix p m c cX11_unit 3 s args lw_good RX11) (hret : meth.sig.returnType = none) (hlk : meth.locks = false) (hU : gU 1 D cA ad s)  {st' : gS} {k2 : Int32 → gS → Option (gS)} (hk2 : ∀ {l1 : Int32} {st : gS} {H : Heap} {locs : List Loc} {ls : Array Slot}, k2 l1 st = some st' → gP0 1 D cA ad st H → va_S (gA 1 ad) s.heap H locs → lv_has ls 3 [(0, .ref (ad 0)), (1, .int l1)] → W p l e (gRm 4) s m args below meth c H locs 0 0 (MQ below (gQc 1 D cA ad st' none) args s 0 0 (gA 1 ad)) (F0 m 2 ls [])) {l1 : Int32} {st : gS} {H : Heap} {locs : List Loc} {ls : Array Slot} (hf : fX11_unit_53 k2 l1 st = some st') (hH : gP0 1 D cA ad st H) (hS : va_S (gA 1 ad) s.heap H locs) (hl : lv_has ls 3 [(0, .ref (ad 0)), (1, .int l1)]) : W p l e (gRm 4) s m args below meth c H locs 0 0 (MQ below (gQc 1 D cA ad st' none) args s 0 0 (gA 1 ad)) (F0 m 53 ls []) := by
  obtain ⟨hx, hb, hml, hown, hts⟩ := id hC
  unfold fX11_unit_53 at hf
  refine lv_aload_n (pc := 53) hx hb dX11_unit_53 rfl (lv_at hl 0 rfl) ?_
  refine g_get (pc := 54) (v := .int (st.1 0 6)) hC hU hH gk1_0 g_cl11 6 (by decide) kf_X11_184 rfl dX11_unit_54 ?_
  refine lv_bipush (v := 40) (pc := 57) hx hb dX11_unit_57 (by decide) ?_
  refine lv_icmp_ne (tgt := 96) (pc := 59) hx hb dX11_unit_59 (by decide) (fun hc => ?_) (fun hc => ?_)
  · have hf := gif_n hc hf
    refine lv_iconst (v := 0) (pc := 96) hx hb dX11_unit_96 (by decide) ?_
    refine lv_istore_n (lv' := [(1, .int 0), (0, .ref (ad 0))]) (pc := 97) hx hb dX11_unit_97 rfl hl (by decide) rfl (fun ls hl => ?_)
    refine lv_goto (tgt := 2) (pc := 98) hx hb dX11_unit_98 (by decide) ?_
    exact hk2 hf hH hS (lv_sub hl [1, 0] rfl)
  · have hf := gif_p hc hf
    refine lv_aload_n (pc := 62) hx hb dX11_unit_62 rfl (lv_at hl 0 rfl) ?_
    obtain ⟨q53_1, hq53_1, hf⟩ := gbd hf
    refine g_callVi (pc := 63) (rest := []) hC hU hH hS hl.1 gk1_0 rfl (by decide) (mX11_isFull  hq53_1) ky_X11_isFull km_X11_300 ⟨Nat.le_of_ble_eq_true rfl, Nat.le_of_ble_eq_true rfl⟩ ⟨Nat.zero_le _, Nat.zero_le _⟩ rfl (Nat.le_of_ble_eq_true rfl) dX11_unit_63 rfl (fun H locs hH hS => ?_)
    refine lv_if_ne (tgt := 78) (pc := 66) hx hb dX11_unit_66 (by decide) (fun hc => ?_) (fun hc => ?_)
    · have hf := gif_n hc hf
      exact bX11_unit_78 hC hret hlk hU hk2 hf hH hS (lv_sub hl [0, 1] rfl)
    · have hf := gif_p hc hf
      refine lv_aload_n (pc := 69) hx hb dX11_unit_69 rfl (lv_at hl 0 rfl) ?_
      refine g_get (pc := 70) (v := .int (q53_1.2.1 0 23)) hC hU hH gk1_0 g_cl11 23 (by decide) kf_X11_285 rfl dX11_unit_70 ?_
      refine lv_bipush (v := 6) (pc := 73) hx hb dX11_unit_73 (by decide) ?_
      refine lv_icmp_le (tgt := 83) (pc := 75) hx hb dX11_unit_75 (by decide) (fun hc => ?_) (fun hc => ?_)
      · have hf := gif_p hc hf
        exact bX11_unit_83 hC hret hlk hU hk2 hf hH hS (lv_sub hl [0, 1] rfl)
      · have hf := gif_n hc hf
        exact bX11_unit_78 hC hret hlk hU hk2 hf hH hS (lv_sub hl [0, 1] rfl)
def fX11_unit_44  (k2 : Int32 → gS → Option (gS)) (l1 : Int32) (st : gS) : Option (gS) :=
  (fX11_openUp 21 st).bind fun q44_1 => (k2 l1 q44_1)
set_option maxRecDepth 100000 in
set_option maxHeartbeats 4000000 in
theorem bX11_unit_44  (hC : CallFix p m c cX11_unit 3 s args lw_good RX11) (hret : meth.sig.returnType = none) (hlk : meth.locks = false) (hU : gU 1 D cA ad s)  {st' : gS} {k2 : Int32 → gS → Option (gS)} (hk2 : ∀ {l1 : Int32} {st : gS} {H : Heap} {locs : List Loc} {ls : Array Slot}, k2 l1 st = some st' → gP0 1 D cA ad st H → va_S (gA 1 ad) s.heap H locs → lv_has ls 3 [(0, .ref (ad 0)), (1, .int l1)] → W p l e (gRm 4) s m args below meth c H locs 0 0 (MQ below (gQc 1 D cA ad st' none) args s 0 0 (gA 1 ad)) (F0 m 2 ls [])) {l1 : Int32} {st : gS} {H : Heap} {locs : List Loc} {ls : Array Slot} (hf : fX11_unit_44 k2 l1 st = some st') (hH : gP0 1 D cA ad st H) (hS : va_S (gA 1 ad) s.heap H locs) (hl : lv_has ls 3 [(0, .ref (ad 0)), (1, .int l1)]) : W p l e (gRm 4) s m args below meth c H locs 0 0 (MQ below (gQc 1 D cA ad st' none) args s 0 0 (gA 1 ad)) (F0 m 44 ls []) := by
  obtain ⟨hx, hb, hml, hown, hts⟩ := id hC
  unfold fX11_unit_44 at hf
  refine lv_aload_n (pc := 44) hx hb dX11_unit_44 rfl (lv_at hl 0 rfl) ?_
  refine lv_bipush (v := 21) (pc := 45) hx hb dX11_unit_45 (by decide) ?_
  obtain ⟨q44_1, hq44_1, hf⟩ := gbd hf
  refine g_callVv (pc := 47) (rest := []) hC hU hH hS hl.1 gk1_0 rfl (by decide) (mX11_openUp  hq44_1) ky_X11_openUp km_X11_297 ⟨Nat.le_of_ble_eq_true rfl, Nat.le_of_ble_eq_true rfl⟩ ⟨Nat.zero_le _, Nat.zero_le _⟩ rfl (Nat.le_of_ble_eq_true rfl) dX11_unit_47 rfl (fun H locs hH hS => ?_)
  refine lv_goto (tgt := 2) (pc := 50) hx hb dX11_unit_50 (by decide) ?_
  exact hk2 hf hH hS (lv_sub hl [0, 1] rfl)
def fX11_unit_2  (k2 : Int32 → gS → Option (gS)) (l1 : Int32) (st : gS) : Option (gS) :=
  if l1 = 0 then (fX11_unit_101 st) else (if (st.1 0 2) = 0 then ((fX11_isWord 7237492 st).bind fun q2_1 => (if q2_1.1 = 0 then (fX11_unit_53 k2 l1 q2_1.2) else ((fX11_mayNot q2_1.2).bind fun q2_2 => (if q2_2.1 = 0 then (fX11_unit_53 k2 l1 q2_2.2) else (if (q2_2.2.1 0 23) ≤ 6 then (fX11_unit_44 k2 l1 q2_2.2) else ((fX11_wrong 2 q2_2.2).bind fun q2_3 => (fX11_unit_44 k2 l1 q2_3))))))) else (fX11_unit_101 st))
set_option maxRecDepth 100000 in
set_option maxHeartbeats 4000000 in
theorem bX11_unit_2  (hC : CallFix p m c cX11_unit 3 s args lw_good RX11) (hret : meth.sig.returnType = none) (hlk : meth.locks = false) (hU : gU 1 D cA ad s)  {st' : gS} {k2 : Int32 → gS → Option (gS)} (hk2 : ∀ {l1 : Int32} {st : gS} {H : Heap} {locs : List Loc} {ls : Array Slot}, k2 l1 st = some st' → gP0 1 D cA ad st H → va_S (gA 1 ad) s.heap H locs → lv_has ls 3 [(0, .ref (ad 0)), (1, .int l1)] → W p l e (gRm 4) s m args below meth c H locs 0 0 (MQ below (gQc 1 D cA ad st' none) args s 0 0 (gA 1 ad)) (F0 m 2 ls [])) {l1 : Int32} {st : gS} {H : Heap} {locs : List Loc} {ls : Array Slot} (hf : fX11_unit_2 k2 l1 st = some st') (hH : gP0 1 D cA ad st H) (hS : va_S (gA 1 ad) s.heap H locs) (hl : lv_has ls 3 [(0, .ref (ad 0)), (1, .int l1)]) : W p l e (gRm 4) s m args below meth c H locs 0 0 (MQ below (gQc 1 D cA ad st' none) args s 0 0 (gA 1 ad)) (F0 m 2 ls []) := by
  obtain ⟨hx, hb, hml, hown, hts⟩ := id hC
  unfold fX11_unit_2 at hf
  refine lv_iload_n (pc := 2) hx hb dX11_unit_2 rfl (lv_at hl 1 rfl) ?_
  refine lv_if_eq (tgt := 101) (pc := 3) hx hb dX11_unit_3 (by decide) (fun hc => ?_) (fun hc => ?_)
  · have hf := gif_p hc hf
    exact bX11_unit_101 hC hret hlk hU hf hH hS (lv_sub hl [0] rfl)
  · have hf := gif_n hc hf
    refine lv_aload_n (pc := 6) hx hb dX11_unit_6 rfl (lv_at hl 0 rfl) ?_
    refine g_get (pc := 7) (v := .int (st.1 0 2)) hC hU hH gk1_0 g_cl11 2 (by decide) kf_X11_197 rfl dX11_unit_7 ?_
    refine lv_if_ne (tgt := 101) (pc := 10) hx hb dX11_unit_10 (by decide) (fun hc => ?_) (fun hc => ?_)
    · have hf := gif_n hc hf
      exact bX11_unit_101 hC hret hlk hU hf hH hS (lv_sub hl [0] rfl)
    · have hf := gif_p hc hf
      refine lv_aload_n (pc := 13) hx hb dX11_unit_13 rfl (lv_at hl 0 rfl) ?_
      refine lv_ldc2 (pc := 14) hx hb hown (hts _ kc_X11_236) dX11_unit_14 ?_
      obtain ⟨q2_1, hq2_1, hf⟩ := gbd hf
      refine g_callVi (pc := 17) (rest := []) hC hU hH hS hl.1 gk1_0 rfl (by decide) (mX11_isWord  hq2_1) ky_X11_isWord km_X11_242 ⟨Nat.le_of_ble_eq_true rfl, Nat.le_of_ble_eq_true rfl⟩ ⟨Nat.zero_le _, Nat.zero_le _⟩ rfl (Nat.le_of_ble_eq_true rfl) dX11_unit_17 rfl (fun H locs hH hS => ?_)
      refine lv_if_eq (tgt := 53) (pc := 20) hx hb dX11_unit_20 (by decide) (fun hc => ?_) (fun hc => ?_)
      · have hf := gif_p hc hf
        exact bX11_unit_53 hC hret hlk hU hk2 hf hH hS (lv_sub hl [0, 1] rfl)
      · have hf := gif_n hc hf
        refine lv_aload_n (pc := 23) hx hb dX11_unit_23 rfl (lv_at hl 0 rfl) ?_
        obtain ⟨q2_2, hq2_2, hf⟩ := gbd hf
        refine g_callVi (pc := 24) (rest := []) hC hU hH hS hl.1 gk1_0 rfl (by decide) (mX11_mayNot  hq2_2) ky_X11_mayNot km_X11_294 ⟨Nat.le_of_ble_eq_true rfl, Nat.le_of_ble_eq_true rfl⟩ ⟨Nat.zero_le _, Nat.zero_le _⟩ rfl (Nat.le_of_ble_eq_true rfl) dX11_unit_24 rfl (fun H locs hH hS => ?_)
        refine lv_if_eq (tgt := 53) (pc := 27) hx hb dX11_unit_27 (by decide) (fun hc => ?_) (fun hc => ?_)
        · have hf := gif_p hc hf
          exact bX11_unit_53 hC hret hlk hU hk2 hf hH hS (lv_sub hl [0, 1] rfl)
        · have hf := gif_n hc hf
          refine lv_aload_n (pc := 30) hx hb dX11_unit_30 rfl (lv_at hl 0 rfl) ?_
          refine g_get (pc := 31) (v := .int (q2_2.2.1 0 23)) hC hU hH gk1_0 g_cl11 23 (by decide) kf_X11_285 rfl dX11_unit_31 ?_
          refine lv_bipush (v := 6) (pc := 34) hx hb dX11_unit_34 (by decide) ?_
          refine lv_icmp_le (tgt := 44) (pc := 36) hx hb dX11_unit_36 (by decide) (fun hc => ?_) (fun hc => ?_)
          · have hf := gif_p hc hf
            exact bX11_unit_44 hC hret hlk hU hk2 hf hH hS (lv_sub hl [0, 1] rfl)
          · have hf := gif_n hc hf
            refine lv_aload_n (pc := 39) hx hb dX11_unit_39 rfl (lv_at hl 0 rfl) ?_
            refine lv_iconst (v := 2) (pc := 40) hx hb dX11_unit_40 (by decide) ?_
            obtain ⟨q2_3, hq2_3, hf⟩ := gbd hf
            refine g_callVv (pc := 41) (rest := []) hC hU hH hS hl.1 gk1_0 rfl (by decide) (mX11_wrong  hq2_3) ky_X11_wrong km_X11_246 ⟨Nat.le_of_ble_eq_true rfl, Nat.le_of_ble_eq_true rfl⟩ ⟨Nat.zero_le _, Nat.zero_le _⟩ rfl (Nat.le_of_ble_eq_true rfl) dX11_unit_41 rfl (fun H locs hH hS => ?_)
            exact bX11_unit_44 hC hret hlk hU hk2 hf hH hS (lv_sub hl [0, 1] rfl)
def hX11_unit_2   : Nat → Int32 → gS → Option (gS)
  | 0 => fun _ _ => none
  | n + 1 => fun l1 st => fX11_unit_2 (hX11_unit_2  n) l1 st
set_option maxRecDepth 100000 in
set_option maxHeartbeats 4000000 in
theorem wX11_unit_2  (hC : CallFix p m c cX11_unit 3 s args lw_good RX11) (hret : meth.sig.returnType = none) (hlk : meth.locks = false) (hU : gU 1 D cA ad s)  {st' : gS}  : ∀ (n : Nat) {l1 : Int32} {st : gS} {H : Heap} {locs : List Loc} {ls : Array Slot}, hX11_unit_2  n l1 st = some st' → gP0 1 D cA ad st H → va_S (gA 1 ad) s.heap H locs → lv_has ls 3 [(0, .ref (ad 0)), (1, .int l1)] → W p l e (gRm 4) s m args below meth c H locs 0 0 (MQ below (gQc 1 D cA ad st' none) args s 0 0 (gA 1 ad)) (F0 m 2 ls []) := by
  intro n
  induction n with
  | zero => intro l1 st H locs ls hf hH hS hl; cases hf
  | succ n ih =>
    intro l1 st H locs ls hf hH hS hl
    exact bX11_unit_2  hC hret hlk hU (fun hf hH hS hl => ih hf hH hS hl) hf hH hS hl
def fX11_unit    (st : gS) : Option (gS) :=
  hX11_unit_2 FU 1 st
set_option maxRecDepth 100000 in
set_option maxHeartbeats 4000000 in
theorem bX11_unit_0  (hC : CallFix p m c cX11_unit 3 s args lw_good RX11) (hret : meth.sig.returnType = none) (hlk : meth.locks = false) (hU : gU 1 D cA ad s)  {st' : gS}   {st : gS} {H : Heap} {locs : List Loc} {ls : Array Slot} (hf : fX11_unit st = some st') (hH : gP0 1 D cA ad st H) (hS : va_S (gA 1 ad) s.heap H locs) (hl : lv_has ls 3 [(0, .ref (ad 0))]) : W p l e (gRm 4) s m args below meth c H locs 0 0 (MQ below (gQc 1 D cA ad st' none) args s 0 0 (gA 1 ad)) (F0 m 0 ls []) := by
  obtain ⟨hx, hb, hml, hown, hts⟩ := id hC
  unfold fX11_unit at hf
  refine lv_iconst (v := 1) (pc := 0) hx hb dX11_unit_0 (by decide) ?_
  refine lv_istore_n (lv' := [(1, .int 1), (0, .ref (ad 0))]) (pc := 1) hx hb dX11_unit_1 rfl hl (by decide) rfl (fun ls hl => ?_)
  exact wX11_unit_2 hC hret hlk hU FU hf hH hS (lv_sub hl [1, 0] rfl)
set_option maxRecDepth 100000 in
set_option maxHeartbeats 4000000 in
theorem mX11_unit {l : Launch} {D : va_G} {cA : Nat → ClassId} {ad : Nat → Nat}   {st st' : gS} (hf : fX11_unit  st = some st') : gM l yX11_unit cX11_unit 3 none 4 1 D cA ad st [.ref (ad 0)] none st' := by
  refine g_met (by decide) (Nat.le_of_ble_eq_true rfl) ?_
  intro p e s m args below meth c ls hC hret hlk hU hH hl
  exact bX11_unit_0 hC hret hlk hU hf hH va_S.rf hl
def fX11_sign_98    (st : gS) : Option (Int32 × gS) :=
  some (st.1 0 6, st)
set_option maxRecDepth 100000 in
set_option maxHeartbeats 4000000 in
theorem bX11_sign_98  (hC : CallFix p m c cX11_sign 1 s args lw_good RX11) (hret : meth.sig.returnType = (some .int)) (hlk : meth.locks = false) (hU : gU 1 D cA ad s)  {r : Int32} {st' : gS}   {st : gS} {H : Heap} {locs : List Loc} {ls : Array Slot} (hf : fX11_sign_98 st = some (r, st')) (hH : gP0 1 D cA ad st H) (hS : va_S (gA 1 ad) s.heap H locs) (hl : lv_has ls 1 [(0, .ref (ad 0))]) : W p l e (gRm 2) s m args below meth c H locs 0 0 (MQ below (gQc 1 D cA ad st' (some (.int r))) args s 0 0 (gA 1 ad)) (F0 m 98 ls []) := by
  obtain ⟨hx, hb, hml, hown, hts⟩ := id hC
  unfold fX11_sign_98 at hf
  refine lv_aload_n (pc := 98) hx hb dX11_sign_98 rfl (lv_at hl 0 rfl) ?_
  refine g_get (pc := 99) (v := .int (st.1 0 6)) hC hU hH gk1_0 g_cl11 6 (by decide) kf_X11_184 rfl dX11_sign_99 ?_
  refine lv_goto (tgt := 106) (pc := 102) hx hb dX11_sign_102 (by decide) ?_
  exact g_iret (pc := 106) hC hret hlk hH hS hf dX11_sign_106
def fX11_sign    (st : gS) : Option (Int32 × gS) :=
  (fX11_isWord 6385252 st).bind fun q0_1 => (if q0_1.1 = 0 then ((fX11_isWord 28530 q0_1.2).bind fun q0_2 => (if q0_2.1 = 0 then (if (q0_2.2.1 0 6) = 60 then (fX11_sign_98 q0_2.2) else (if (q0_2.2.1 0 6) = 62 then (fX11_sign_98 q0_2.2) else (if (q0_2.2.1 0 6) = 61 then (fX11_sign_98 q0_2.2) else (if (q0_2.2.1 0 6) = 43 then (fX11_sign_98 q0_2.2) else (if (q0_2.2.1 0 6) = 45 then (fX11_sign_98 q0_2.2) else (if (q0_2.2.1 0 6) = 42 then (fX11_sign_98 q0_2.2) else (if (q0_2.2.1 0 6) = 47 then (fX11_sign_98 q0_2.2) else (if (q0_2.2.1 0 6) = 37 then (fX11_sign_98 q0_2.2) else (some (0, q0_2.2)))))))))) else (some (124, q0_2.2)))) else (some (38, q0_1.2)))
set_option maxRecDepth 100000 in
set_option maxHeartbeats 4000000 in
theorem bX11_sign_0  (hC : CallFix p m c cX11_sign 1 s args lw_good RX11) (hret : meth.sig.returnType = (some .int)) (hlk : meth.locks = false) (hU : gU 1 D cA ad s)  {r : Int32} {st' : gS}   {st : gS} {H : Heap} {locs : List Loc} {ls : Array Slot} (hf : fX11_sign st = some (r, st')) (hH : gP0 1 D cA ad st H) (hS : va_S (gA 1 ad) s.heap H locs) (hl : lv_has ls 1 [(0, .ref (ad 0))]) : W p l e (gRm 2) s m args below meth c H locs 0 0 (MQ below (gQc 1 D cA ad st' (some (.int r))) args s 0 0 (gA 1 ad)) (F0 m 0 ls []) := by
  obtain ⟨hx, hb, hml, hown, hts⟩ := id hC
  unfold fX11_sign at hf
  refine lv_aload_n (pc := 0) hx hb dX11_sign_0 rfl (lv_at hl 0 rfl) ?_
  refine lv_ldc2 (pc := 1) hx hb hown (hts _ kc_X11_232) dX11_sign_1 ?_
  obtain ⟨q0_1, hq0_1, hf⟩ := gbd hf
  refine g_callVi (pc := 4) (rest := []) hC hU hH hS hl.1 gk1_0 rfl (by decide) (mX11_isWord  hq0_1) ky_X11_isWord km_X11_242 ⟨Nat.le_of_ble_eq_true rfl, Nat.le_of_ble_eq_true rfl⟩ ⟨Nat.zero_le _, Nat.zero_le _⟩ rfl (Nat.le_of_ble_eq_true rfl) dX11_sign_4 rfl (fun H locs hH hS => ?_)
  refine lv_if_eq (tgt := 13) (pc := 7) hx hb dX11_sign_7 (by decide) (fun hc => ?_) (fun hc => ?_)
  · have hf := gif_p hc hf
    refine lv_aload_n (pc := 13) hx hb dX11_sign_13 rfl (lv_at hl 0 rfl) ?_
    refine lv_ldc2 (pc := 14) hx hb hown (hts _ kc_X11_234) dX11_sign_14 ?_
    obtain ⟨q0_2, hq0_2, hf⟩ := gbd hf
    refine g_callVi (pc := 17) (rest := []) hC hU hH hS hl.1 gk1_0 rfl (by decide) (mX11_isWord  hq0_2) ky_X11_isWord km_X11_242 ⟨Nat.le_of_ble_eq_true rfl, Nat.le_of_ble_eq_true rfl⟩ ⟨Nat.zero_le _, Nat.zero_le _⟩ rfl (Nat.le_of_ble_eq_true rfl) dX11_sign_17 rfl (fun H locs hH hS => ?_)
    refine lv_if_eq (tgt := 26) (pc := 20) hx hb dX11_sign_20 (by decide) (fun hc => ?_) (fun hc => ?_)
    · have hf := gif_p hc hf
      refine lv_aload_n (pc := 26) hx hb dX11_sign_26 rfl (lv_at hl 0 rfl) ?_
      refine g_get (pc := 27) (v := .int (q0_2.2.1 0 6)) hC hU hH gk1_0 g_cl11 6 (by decide) kf_X11_184 rfl dX11_sign_27 ?_
      refine lv_bipush (v := 60) (pc := 30) hx hb dX11_sign_30 (by decide) ?_
      refine lv_icmp_eq (tgt := 98) (pc := 32) hx hb dX11_sign_32 (by decide) (fun hc => ?_) (fun hc => ?_)
      · have hf := gif_p hc hf
        exact bX11_sign_98 hC hret hlk hU hf hH hS (lv_sub hl [0] rfl)
      · have hf := gif_n hc hf
        refine lv_aload_n (pc := 35) hx hb dX11_sign_35 rfl (lv_at hl 0 rfl) ?_
        refine g_get (pc := 36) (v := .int (q0_2.2.1 0 6)) hC hU hH gk1_0 g_cl11 6 (by decide) kf_X11_184 rfl dX11_sign_36 ?_
        refine lv_bipush (v := 62) (pc := 39) hx hb dX11_sign_39 (by decide) ?_
        refine lv_icmp_eq (tgt := 98) (pc := 41) hx hb dX11_sign_41 (by decide) (fun hc => ?_) (fun hc => ?_)
        · have hf := gif_p hc hf
          exact bX11_sign_98 hC hret hlk hU hf hH hS (lv_sub hl [0] rfl)
        · have hf := gif_n hc hf
          refine lv_aload_n (pc := 44) hx hb dX11_sign_44 rfl (lv_at hl 0 rfl) ?_
          refine g_get (pc := 45) (v := .int (q0_2.2.1 0 6)) hC hU hH gk1_0 g_cl11 6 (by decide) kf_X11_184 rfl dX11_sign_45 ?_
          refine lv_bipush (v := 61) (pc := 48) hx hb dX11_sign_48 (by decide) ?_
          refine lv_icmp_eq (tgt := 98) (pc := 50) hx hb dX11_sign_50 (by decide) (fun hc => ?_) (fun hc => ?_)
          · have hf := gif_p hc hf
            exact bX11_sign_98 hC hret hlk hU hf hH hS (lv_sub hl [0] rfl)
          · have hf := gif_n hc hf
            refine lv_aload_n (pc := 53) hx hb dX11_sign_53 rfl (lv_at hl 0 rfl) ?_
            refine g_get (pc := 54) (v := .int (q0_2.2.1 0 6)) hC hU hH gk1_0 g_cl11 6 (by decide) kf_X11_184 rfl dX11_sign_54 ?_
            refine lv_bipush (v := 43) (pc := 57) hx hb dX11_sign_57 (by decide) ?_
            refine lv_icmp_eq (tgt := 98) (pc := 59) hx hb dX11_sign_59 (by decide) (fun hc => ?_) (fun hc => ?_)
            · have hf := gif_p hc hf
              exact bX11_sign_98 hC hret hlk hU hf hH hS (lv_sub hl [0] rfl)
            · have hf := gif_n hc hf
              refine lv_aload_n (pc := 62) hx hb dX11_sign_62 rfl (lv_at hl 0 rfl) ?_
              refine g_get (pc := 63) (v := .int (q0_2.2.1 0 6)) hC hU hH gk1_0 g_cl11 6 (by decide) kf_X11_184 rfl dX11_sign_63 ?_
              refine lv_bipush (v := 45) (pc := 66) hx hb dX11_sign_66 (by decide) ?_
              refine lv_icmp_eq (tgt := 98) (pc := 68) hx hb dX11_sign_68 (by decide) (fun hc => ?_) (fun hc => ?_)
              · have hf := gif_p hc hf
                exact bX11_sign_98 hC hret hlk hU hf hH hS (lv_sub hl [0] rfl)
              · have hf := gif_n hc hf
                refine lv_aload_n (pc := 71) hx hb dX11_sign_71 rfl (lv_at hl 0 rfl) ?_
                refine g_get (pc := 72) (v := .int (q0_2.2.1 0 6)) hC hU hH gk1_0 g_cl11 6 (by decide) kf_X11_184 rfl dX11_sign_72 ?_
                refine lv_bipush (v := 42) (pc := 75) hx hb dX11_sign_75 (by decide) ?_
                refine lv_icmp_eq (tgt := 98) (pc := 77) hx hb dX11_sign_77 (by decide) (fun hc => ?_) (fun hc => ?_)
                · have hf := gif_p hc hf
                  exact bX11_sign_98 hC hret hlk hU hf hH hS (lv_sub hl [0] rfl)
                · have hf := gif_n hc hf
                  refine lv_aload_n (pc := 80) hx hb dX11_sign_80 rfl (lv_at hl 0 rfl) ?_
                  refine g_get (pc := 81) (v := .int (q0_2.2.1 0 6)) hC hU hH gk1_0 g_cl11 6 (by decide) kf_X11_184 rfl dX11_sign_81 ?_
                  refine lv_bipush (v := 47) (pc := 84) hx hb dX11_sign_84 (by decide) ?_
                  refine lv_icmp_eq (tgt := 98) (pc := 86) hx hb dX11_sign_86 (by decide) (fun hc => ?_) (fun hc => ?_)
                  · have hf := gif_p hc hf
                    exact bX11_sign_98 hC hret hlk hU hf hH hS (lv_sub hl [0] rfl)
                  · have hf := gif_n hc hf
                    refine lv_aload_n (pc := 89) hx hb dX11_sign_89 rfl (lv_at hl 0 rfl) ?_
                    refine g_get (pc := 90) (v := .int (q0_2.2.1 0 6)) hC hU hH gk1_0 g_cl11 6 (by decide) kf_X11_184 rfl dX11_sign_90 ?_
                    refine lv_bipush (v := 37) (pc := 93) hx hb dX11_sign_93 (by decide) ?_
                    refine lv_icmp_ne (tgt := 105) (pc := 95) hx hb dX11_sign_95 (by decide) (fun hc => ?_) (fun hc => ?_)
                    · have hf := gif_n hc hf
                      refine lv_iconst (v := 0) (pc := 105) hx hb dX11_sign_105 (by decide) ?_
                      exact g_iret (pc := 106) hC hret hlk hH hS hf dX11_sign_106
                    · have hf := gif_p hc hf
                      exact bX11_sign_98 hC hret hlk hU hf hH hS (lv_sub hl [0] rfl)
    · have hf := gif_n hc hf
      refine lv_bipush (v := 124) (pc := 23) hx hb dX11_sign_23 (by decide) ?_
      exact g_iret (pc := 25) hC hret hlk hH hS hf dX11_sign_25
  · have hf := gif_n hc hf
    refine lv_bipush (v := 38) (pc := 10) hx hb dX11_sign_10 (by decide) ?_
    exact g_iret (pc := 12) hC hret hlk hH hS hf dX11_sign_12
set_option maxRecDepth 100000 in
set_option maxHeartbeats 4000000 in
theorem mX11_sign {l : Launch} {D : va_G} {cA : Nat → ClassId} {ad : Nat → Nat}   {r : Int32} {st st' : gS} (hf : fX11_sign  st = some (r, st')) : gM l yX11_sign cX11_sign 1 (some .int) 2 1 D cA ad st [.ref (ad 0)] (some (.int r)) st' := by
  refine g_met (by decide) (Nat.le_of_ble_eq_true rfl) ?_
  intro p e s m args below meth c ls hC hret hlk hU hH hl
  exact bX11_sign_0 hC hret hlk hU hf hH va_S.rf hl
def fX11_hasBracket_27  (k4 : Int32 → Int32 → gS → Option (Int32 × gS)) (l2 : Int32) (st : gS) : Option (Int32 × gS) :=
  k4 1 (l2 + 1) st
set_option maxRecDepth 100000 in
set_option maxHeartbeats 4000000 in
theorem bX11_hasBracket_27  (hC : CallFix p m c cX11_hasBracket 3 s args lw_good RX11) (hret : meth.sig.returnType = (some .boolean)) (hlk : meth.locks = false) (hU : gU 1 D cA ad s)  {r : Int32} {st' : gS} {k4 : Int32 → Int32 → gS → Option (Int32 × gS)} (hk4 : ∀ {l1 : Int32} {l2 : Int32} {st : gS} {H : Heap} {locs : List Loc} {ls : Array Slot}, k4 l1 l2 st = some (r, st') → gP0 1 D cA ad st H → va_S (gA 1 ad) s.heap H locs → lv_has ls 3 [(0, .ref (ad 0)), (1, .int l1), (2, .int l2)] → W p l e (gRm 1) s m args below meth c H locs 0 0 (MQ below (gQc 1 D cA ad st' (some (.int r))) args s 0 0 (gA 1 ad)) (F0 m 4 ls [])) {l2 : Int32} {st : gS} {H : Heap} {locs : List Loc} {ls : Array Slot} (hf : fX11_hasBracket_27 k4 l2 st = some (r, st')) (hH : gP0 1 D cA ad st H) (hS : va_S (gA 1 ad) s.heap H locs) (hl : lv_has ls 3 [(0, .ref (ad 0)), (2, .int l2)]) : W p l e (gRm 1) s m args below meth c H locs 0 0 (MQ below (gQc 1 D cA ad st' (some (.int r))) args s 0 0 (gA 1 ad)) (F0 m 27 ls []) := by
  obtain ⟨hx, hb, hml, hown, hts⟩ := id hC
  unfold fX11_hasBracket_27 at hf
  refine lv_iconst (v := 1) (pc := 27) hx hb dX11_hasBracket_27 (by decide) ?_
  refine lv_goto (tgt := 32) (pc := 28) hx hb dX11_hasBracket_28 (by decide) ?_
  refine lv_istore_n (lv' := [(1, .int 1), (0, .ref (ad 0)), (2, .int l2)]) (pc := 32) hx hb dX11_hasBracket_32 rfl hl (by decide) rfl (fun ls hl => ?_)
  refine lv_iinc (v := l2 + 1) (lv' := [(2, .int (l2 + 1)), (1, .int 1), (0, .ref (ad 0))]) (k := 2) (pc := 33) hx hb dX11_hasBracket_33 hl rfl rfl (by decide) rfl (fun ls hl => ?_)
  refine lv_goto (tgt := 4) (pc := 36) hx hb dX11_hasBracket_36 (by decide) ?_
  exact hk4 hf hH hS (lv_sub hl [2, 1, 0] rfl)
def fX11_hasBracket_4  (k4 : Int32 → Int32 → gS → Option (Int32 × gS)) (l1 : Int32) (l2 : Int32) (st : gS) : Option (Int32 × gS) :=
  if (st.1 0 19) ≤ l2 then (gc (gB l1) (some (l1, st))) else (if l1 = 0 then (gc (gI l2 160) (if (st.1 7 l2.toNatClampNeg) = 20 then (fX11_hasBracket_27 k4 l2 st) else (k4 0 (l2 + 1) st))) else (fX11_hasBracket_27 k4 l2 st))
set_option maxRecDepth 100000 in
set_option maxHeartbeats 4000000 in
theorem bX11_hasBracket_4  (hC : CallFix p m c cX11_hasBracket 3 s args lw_good RX11) (hret : meth.sig.returnType = (some .boolean)) (hlk : meth.locks = false) (hU : gU 1 D cA ad s)  {r : Int32} {st' : gS} {k4 : Int32 → Int32 → gS → Option (Int32 × gS)} (hk4 : ∀ {l1 : Int32} {l2 : Int32} {st : gS} {H : Heap} {locs : List Loc} {ls : Array Slot}, k4 l1 l2 st = some (r, st') → gP0 1 D cA ad st H → va_S (gA 1 ad) s.heap H locs → lv_has ls 3 [(0, .ref (ad 0)), (1, .int l1), (2, .int l2)] → W p l e (gRm 1) s m args below meth c H locs 0 0 (MQ below (gQc 1 D cA ad st' (some (.int r))) args s 0 0 (gA 1 ad)) (F0 m 4 ls [])) {l1 : Int32} {l2 : Int32} {st : gS} {H : Heap} {locs : List Loc} {ls : Array Slot} (hf : fX11_hasBracket_4 k4 l1 l2 st = some (r, st')) (hH : gP0 1 D cA ad st H) (hS : va_S (gA 1 ad) s.heap H locs) (hl : lv_has ls 3 [(0, .ref (ad 0)), (1, .int l1), (2, .int l2)]) : W p l e (gRm 1) s m args below meth c H locs 0 0 (MQ below (gQc 1 D cA ad st' (some (.int r))) args s 0 0 (gA 1 ad)) (F0 m 4 ls []) := by
  obtain ⟨hx, hb, hml, hown, hts⟩ := id hC
  unfold fX11_hasBracket_4 at hf
  refine lv_iload_n (pc := 4) hx hb dX11_hasBracket_4 rfl (lv_at hl 2 rfl) ?_
  refine lv_aload_n (pc := 5) hx hb dX11_hasBracket_5 rfl (lv_at hl 0 rfl) ?_
  refine g_get (pc := 6) (v := .int (st.1 0 19)) hC hU hH gk1_0 g_cl11 19 (by decide) kf_X11_275 rfl dX11_hasBracket_6 ?_
  refine lv_icmp_ge (tgt := 39) (pc := 9) hx hb dX11_hasBracket_9 (by decide) (fun hc => ?_) (fun hc => ?_)
  · have hf := gif_p hc hf
    refine lv_iload_n (pc := 39) hx hb dX11_hasBracket_39 rfl (lv_at hl 1 rfl) ?_
    obtain ⟨h4_1, hf⟩ := gc_s hf
    exact g_zret (pc := 40) hC hret hlk hH hS h4_1 hf dX11_hasBracket_40
  · have hf := gif_n hc hf
    refine lv_iload_n (pc := 12) hx hb dX11_hasBracket_12 rfl (lv_at hl 1 rfl) ?_
    refine lv_if_ne (tgt := 27) (pc := 13) hx hb dX11_hasBracket_13 (by decide) (fun hc => ?_) (fun hc => ?_)
    · have hf := gif_n hc hf
      exact bX11_hasBracket_27 hC hret hlk hU hk4 hf hH hS (lv_sub hl [0, 2] rfl)
    · have hf := gif_p hc hf
      refine lv_aload_n (pc := 16) hx hb dX11_hasBracket_16 rfl (lv_at hl 0 rfl) ?_
      refine g_get (pc := 17) (v := .ref (ad 7)) hC hU hH gk1_0 g_cl11 15 (by decide) kf_X11_33 rfl dX11_hasBracket_17 ?_
      refine lv_iload_n (pc := 20) hx hb dX11_hasBracket_20 rfl (lv_at hl 2 rfl) ?_
      obtain ⟨h4_2, hf⟩ := gc_s hf
      refine g_iald (pc := 21) hC hU hH gk1_7 gn1_7 h4_2 dX11_hasBracket_21 ?_
      refine lv_bipush (v := 20) (pc := 22) hx hb dX11_hasBracket_22 (by decide) ?_
      refine lv_icmp_ne (tgt := 31) (pc := 24) hx hb dX11_hasBracket_24 (by decide) (fun hc => ?_) (fun hc => ?_)
      · have hf := gif_n hc hf
        refine lv_iconst (v := 0) (pc := 31) hx hb dX11_hasBracket_31 (by decide) ?_
        refine lv_istore_n (lv' := [(1, .int 0), (0, .ref (ad 0)), (2, .int l2)]) (pc := 32) hx hb dX11_hasBracket_32 rfl hl (by decide) rfl (fun ls hl => ?_)
        refine lv_iinc (v := l2 + 1) (lv' := [(2, .int (l2 + 1)), (1, .int 0), (0, .ref (ad 0))]) (k := 2) (pc := 33) hx hb dX11_hasBracket_33 hl rfl rfl (by decide) rfl (fun ls hl => ?_)
        refine lv_goto (tgt := 4) (pc := 36) hx hb dX11_hasBracket_36 (by decide) ?_
        exact hk4 hf hH hS (lv_sub hl [2, 1, 0] rfl)
      · have hf := gif_p hc hf
        exact bX11_hasBracket_27 hC hret hlk hU hk4 hf hH hS (lv_sub hl [0, 2] rfl)
def hX11_hasBracket_4   : Nat → Int32 → Int32 → gS → Option (Int32 × gS)
  | 0 => fun _ _ _ => none
  | n + 1 => fun l1 l2 st => fX11_hasBracket_4 (hX11_hasBracket_4  n) l1 l2 st
set_option maxRecDepth 100000 in
set_option maxHeartbeats 4000000 in
theorem wX11_hasBracket_4  (hC : CallFix p m c cX11_hasBracket 3 s args lw_good RX11) (hret : meth.sig.returnType = (some .boolean)) (hlk : meth.locks = false) (hU : gU 1 D cA ad s)  {r : Int32} {st' : gS}  : ∀ (n : Nat) {l1 : Int32} {l2 : Int32} {st : gS} {H : Heap} {locs : List Loc} {ls : Array Slot}, hX11_hasBracket_4  n l1 l2 st = some (r, st') → gP0 1 D cA ad st H → va_S (gA 1 ad) s.heap H locs → lv_has ls 3 [(0, .ref (ad 0)), (1, .int l1), (2, .int l2)] → W p l e (gRm 1) s m args below meth c H locs 0 0 (MQ below (gQc 1 D cA ad st' (some (.int r))) args s 0 0 (gA 1 ad)) (F0 m 4 ls []) := by
  intro n
  induction n with
  | zero => intro l1 l2 st H locs ls hf hH hS hl; cases hf
  | succ n ih =>
    intro l1 l2 st H locs ls hf hH hS hl
    exact bX11_hasBracket_4  hC hret hlk hU (fun hf hH hS hl => ih hf hH hS hl) hf hH hS hl
def fX11_hasBracket    (st : gS) : Option (Int32 × gS) :=
  hX11_hasBracket_4 FU 0 0 st
set_option maxRecDepth 100000 in
set_option maxHeartbeats 4000000 in
theorem bX11_hasBracket_0  (hC : CallFix p m c cX11_hasBracket 3 s args lw_good RX11) (hret : meth.sig.returnType = (some .boolean)) (hlk : meth.locks = false) (hU : gU 1 D cA ad s)  {r : Int32} {st' : gS}   {st : gS} {H : Heap} {locs : List Loc} {ls : Array Slot} (hf : fX11_hasBracket st = some (r, st')) (hH : gP0 1 D cA ad st H) (hS : va_S (gA 1 ad) s.heap H locs) (hl : lv_has ls 3 [(0, .ref (ad 0))]) : W p l e (gRm 1) s m args below meth c H locs 0 0 (MQ below (gQc 1 D cA ad st' (some (.int r))) args s 0 0 (gA 1 ad)) (F0 m 0 ls []) := by
  obtain ⟨hx, hb, hml, hown, hts⟩ := id hC
  unfold fX11_hasBracket at hf
  refine lv_iconst (v := 0) (pc := 0) hx hb dX11_hasBracket_0 (by decide) ?_
  refine lv_istore_n (lv' := [(1, .int 0), (0, .ref (ad 0))]) (pc := 1) hx hb dX11_hasBracket_1 rfl hl (by decide) rfl (fun ls hl => ?_)
  refine lv_iconst (v := 0) (pc := 2) hx hb dX11_hasBracket_2 (by decide) ?_
  refine lv_istore_n (lv' := [(2, .int 0), (1, .int 0), (0, .ref (ad 0))]) (pc := 3) hx hb dX11_hasBracket_3 rfl hl (by decide) rfl (fun ls hl => ?_)
  exact wX11_hasBracket_4 hC hret hlk hU FU hf hH hS (lv_sub hl [2, 1, 0] rfl)
set_option maxRecDepth 100000 in
set_option maxHeartbeats 4000000 in
theorem mX11_hasBracket {l : Launch} {D : va_G} {cA : Nat → ClassId} {ad : Nat → Nat}   {r : Int32} {st st' : gS} (hf : fX11_hasBracket  st = some (r, st')) : gM l yX11_hasBracket cX11_hasBracket 3 (some .boolean) 1 1 D cA ad st [.ref (ad 0)] (some (.int r)) st' := by
  refine g_met (by decide) (Nat.le_of_ble_eq_true rfl) ?_
  intro p e s m args below meth c ls hC hret hlk hU hH hl
  exact bX11_hasBracket_0 hC hret hlk hU hf hH va_S.rf hl
end
