section
variable {p : Program} {l : Launch} {e : Env} {s : State} {m : MethodId} {args : Array Value} {below : List Frame} {meth : Method} {c : Code} {D : va_G} {cA : Nat → ClassId} {ad : Nat → Nat}
def fX11_makes (a1 : Int32)   (st : gS) : Option (Int32 × gS) :=
  (fX11_isIn a1 0 ((1 <<< ((st.1 0 49) &&& 31)) - 1) st).bind fun q0_1 => (if q0_1.1 = 0 then (some ((-1), q0_1.2)) else ((fX11_madeBy a1 q0_1.2).bind fun q0_2 => (some (q0_2.1, q0_2.2))))
set_option maxRecDepth 100000 in
set_option maxHeartbeats 4000000 in
theorem bX11_makes_0 {a1 : Int32} (hC : CallFix p m c cX11_makes 2 s args lw_good RX11) (hret : meth.sig.returnType = (some .int)) (hlk : meth.locks = false) (hU : gU 1 D cA ad s)  {r : Int32} {st' : gS}   {st : gS} {H : Heap} {locs : List Loc} {ls : Array Slot} (hf : fX11_makes a1 st = some (r, st')) (hH : gP0 1 D cA ad st H) (hS : va_S (gA 1 ad) s.heap H locs) (hl : lv_has ls 2 [(0, .ref (ad 0)), (1, .int a1)]) : W p l e (gRm 5) s m args below meth c H locs 0 0 (MQ below (gQc 1 D cA ad st' (some (.int r))) args s 0 0 (gA 1 ad)) (F0 m 0 ls []) := by
  obtain ⟨hx, hb, hml, hown, hts⟩ := id hC
  unfold fX11_makes at hf
  refine lv_iload_n (pc := 0) hx hb dX11_makes_0 rfl (lv_at hl 1 rfl) ?_
  refine lv_iconst (v := 0) (pc := 1) hx hb dX11_makes_1 (by decide) ?_
  refine lv_iconst (v := 1) (pc := 2) hx hb dX11_makes_2 (by decide) ?_
  refine lv_aload_n (pc := 3) hx hb dX11_makes_3 rfl (lv_at hl 0 rfl) ?_
  refine g_get (pc := 4) (v := .int (st.1 0 49)) hC hU hH gk1_0 g_cl11 49 (by decide) kf_X11_395 rfl dX11_makes_4 ?_
  refine lv_ishl (pc := 7) hx hb dX11_makes_7 ?_
  refine lv_iconst (v := 1) (pc := 8) hx hb dX11_makes_8 (by decide) ?_
  refine lv_isub (pc := 9) hx hb dX11_makes_9 ?_
  obtain ⟨q0_1, hq0_1, hf⟩ := gbd hf
  refine g_callSi (pc := 10) (rest := []) hC hU hH hS hl.1 (mX11_isIn  hq0_1) ky_X11_isIn km_X11_416 ⟨Nat.le_of_ble_eq_true rfl, Nat.le_of_ble_eq_true rfl⟩ ⟨Nat.zero_le _, Nat.zero_le _⟩ rfl (Nat.le_of_ble_eq_true rfl) dX11_makes_10 rfl (fun H locs hH hS => ?_)
  refine lv_if_eq (tgt := 24) (pc := 13) hx hb dX11_makes_13 (by decide) (fun hc => ?_) (fun hc => ?_)
  · have hf := gif_p hc hf
    refine lv_iconst (v := (-1)) (pc := 24) hx hb dX11_makes_24 (by decide) ?_
    exact g_iret (pc := 25) hC hret hlk hH hS hf dX11_makes_25
  · have hf := gif_n hc hf
    refine lv_aload_n (pc := 16) hx hb dX11_makes_16 rfl (lv_at hl 0 rfl) ?_
    refine lv_iload_n (pc := 17) hx hb dX11_makes_17 rfl (lv_at hl 1 rfl) ?_
    obtain ⟨q0_2, hq0_2, hf⟩ := gbd hf
    refine g_callVi (pc := 18) (rest := []) hC hU hH hS hl.1 gk1_0 rfl (by decide) (mX11_madeBy  hq0_2) ky_X11_madeBy km_X11_490 ⟨Nat.le_of_ble_eq_true rfl, Nat.le_of_ble_eq_true rfl⟩ ⟨Nat.zero_le _, Nat.zero_le _⟩ rfl (Nat.le_of_ble_eq_true rfl) dX11_makes_18 rfl (fun H locs hH hS => ?_)
    refine lv_goto (tgt := 25) (pc := 21) hx hb dX11_makes_21 (by decide) ?_
    exact g_iret (pc := 25) hC hret hlk hH hS hf dX11_makes_25
set_option maxRecDepth 100000 in
set_option maxHeartbeats 4000000 in
theorem mX11_makes {l : Launch} {D : va_G} {cA : Nat → ClassId} {ad : Nat → Nat} {a1 : Int32}  {r : Int32} {st st' : gS} (hf : fX11_makes a1 st = some (r, st')) : gM l yX11_makes cX11_makes 2 (some .int) 5 1 D cA ad st [.ref (ad 0), .int a1] (some (.int r)) st' := by
  refine g_met (by decide) (Nat.le_of_ble_eq_true rfl) ?_
  intro p e s m args below meth c ls hC hret hlk hU hH hl
  exact bX11_makes_0 hC hret hlk hU hf hH va_S.rf hl
def fX11_members_4 (a0 : Int32) (k4 : Int32 → Int32 → gS → Option (Int32 × gS)) (l1 : Int32) (l2 : Int32) (st : gS) : Option (Int32 × gS) :=
  if 8 ≤ l2 then (some (l1, st)) else (gl (l1 + ((a0 >>> (l2 &&& 31)) &&& 1)) fun x17 => (k4 x17 (l2 + 1) st))
set_option maxRecDepth 100000 in
set_option maxHeartbeats 4000000 in
theorem bX11_members_4 {a0 : Int32} (hC : CallFix p m c cX11_members 3 s args lw_good RX11) (hret : meth.sig.returnType = (some .int)) (hlk : meth.locks = false) (hU : gU 1 D cA ad s)  {r : Int32} {st' : gS} {k4 : Int32 → Int32 → gS → Option (Int32 × gS)} (hk4 : ∀ {l1 : Int32} {l2 : Int32} {st : gS} {H : Heap} {locs : List Loc} {ls : Array Slot}, k4 l1 l2 st = some (r, st') → gP0 1 D cA ad st H → va_S (gA 1 ad) s.heap H locs → lv_has ls 3 [(0, .int a0), (1, .int l1), (2, .int l2)] → W p l e (gRm 1) s m args below meth c H locs 0 0 (MQ below (gQc 1 D cA ad st' (some (.int r))) args s 0 0 (gA 1 ad)) (F0 m 4 ls [])) {l1 : Int32} {l2 : Int32} {st : gS} {H : Heap} {locs : List Loc} {ls : Array Slot} (hf : fX11_members_4 a0 k4 l1 l2 st = some (r, st')) (hH : gP0 1 D cA ad st H) (hS : va_S (gA 1 ad) s.heap H locs) (hl : lv_has ls 3 [(0, .int a0), (1, .int l1), (2, .int l2)]) : W p l e (gRm 1) s m args below meth c H locs 0 0 (MQ below (gQc 1 D cA ad st' (some (.int r))) args s 0 0 (gA 1 ad)) (F0 m 4 ls []) := by
  obtain ⟨hx, hb, hml, hown, hts⟩ := id hC
  unfold fX11_members_4 at hf
  refine lv_iload_n (pc := 4) hx hb dX11_members_4 rfl (lv_at hl 2 rfl) ?_
  refine lv_bipush (v := 8) (pc := 5) hx hb dX11_members_5 (by decide) ?_
  refine lv_icmp_ge (tgt := 24) (pc := 7) hx hb dX11_members_7 (by decide) (fun hc => ?_) (fun hc => ?_)
  · have hf := gif_p hc hf
    refine lv_iload_n (pc := 24) hx hb dX11_members_24 rfl (lv_at hl 1 rfl) ?_
    exact g_iret (pc := 25) hC hret hlk hH hS hf dX11_members_25
  · have hf := gif_n hc hf
    refine lv_iload_n (pc := 10) hx hb dX11_members_10 rfl (lv_at hl 1 rfl) ?_
    refine lv_iload_n (pc := 11) hx hb dX11_members_11 rfl (lv_at hl 0 rfl) ?_
    refine lv_iload_n (pc := 12) hx hb dX11_members_12 rfl (lv_at hl 2 rfl) ?_
    refine lv_ishr (pc := 13) hx hb dX11_members_13 ?_
    refine lv_iconst (v := 1) (pc := 14) hx hb dX11_members_14 (by decide) ?_
    refine lv_iand (pc := 15) hx hb dX11_members_15 ?_
    refine lv_iadd (pc := 16) hx hb dX11_members_16 ?_
    refine lv_topi (pc := 17) (fun x17 ex17 => ?_)
    have hf := gl_s ex17 hf
    refine lv_istore_n (lv' := [(1, .int x17), (0, .int a0), (2, .int l2)]) (pc := 17) hx hb dX11_members_17 rfl hl (by decide) rfl (fun ls hl => ?_)
    refine lv_iinc (v := l2 + 1) (lv' := [(2, .int (l2 + 1)), (1, .int x17), (0, .int a0)]) (k := 2) (pc := 18) hx hb dX11_members_18 hl rfl rfl (by decide) rfl (fun ls hl => ?_)
    refine lv_goto (tgt := 4) (pc := 21) hx hb dX11_members_21 (by decide) ?_
    exact hk4 hf hH hS (lv_sub hl [2, 1, 0] rfl)
def hX11_members_4 (a0 : Int32)  : Nat → Int32 → Int32 → gS → Option (Int32 × gS)
  | 0 => fun _ _ _ => none
  | n + 1 => fun l1 l2 st => fX11_members_4 a0 (hX11_members_4 a0 n) l1 l2 st
set_option maxRecDepth 100000 in
set_option maxHeartbeats 4000000 in
theorem wX11_members_4 {a0 : Int32} (hC : CallFix p m c cX11_members 3 s args lw_good RX11) (hret : meth.sig.returnType = (some .int)) (hlk : meth.locks = false) (hU : gU 1 D cA ad s)  {r : Int32} {st' : gS}  : ∀ (n : Nat) {l1 : Int32} {l2 : Int32} {st : gS} {H : Heap} {locs : List Loc} {ls : Array Slot}, hX11_members_4 a0 n l1 l2 st = some (r, st') → gP0 1 D cA ad st H → va_S (gA 1 ad) s.heap H locs → lv_has ls 3 [(0, .int a0), (1, .int l1), (2, .int l2)] → W p l e (gRm 1) s m args below meth c H locs 0 0 (MQ below (gQc 1 D cA ad st' (some (.int r))) args s 0 0 (gA 1 ad)) (F0 m 4 ls []) := by
  intro n
  induction n with
  | zero => intro l1 l2 st H locs ls hf hH hS hl; cases hf
  | succ n ih =>
    intro l1 l2 st H locs ls hf hH hS hl
    exact bX11_members_4 (a0 := a0) hC hret hlk hU (fun hf hH hS hl => ih hf hH hS hl) hf hH hS hl
def fX11_members (a0 : Int32)   (st : gS) : Option (Int32 × gS) :=
  hX11_members_4 a0 FU 0 0 st
set_option maxRecDepth 100000 in
set_option maxHeartbeats 4000000 in
theorem bX11_members_0 {a0 : Int32} (hC : CallFix p m c cX11_members 3 s args lw_good RX11) (hret : meth.sig.returnType = (some .int)) (hlk : meth.locks = false) (hU : gU 1 D cA ad s)  {r : Int32} {st' : gS}   {st : gS} {H : Heap} {locs : List Loc} {ls : Array Slot} (hf : fX11_members a0 st = some (r, st')) (hH : gP0 1 D cA ad st H) (hS : va_S (gA 1 ad) s.heap H locs) (hl : lv_has ls 3 [(0, .int a0)]) : W p l e (gRm 1) s m args below meth c H locs 0 0 (MQ below (gQc 1 D cA ad st' (some (.int r))) args s 0 0 (gA 1 ad)) (F0 m 0 ls []) := by
  obtain ⟨hx, hb, hml, hown, hts⟩ := id hC
  unfold fX11_members at hf
  refine lv_iconst (v := 0) (pc := 0) hx hb dX11_members_0 (by decide) ?_
  refine lv_istore_n (lv' := [(1, .int 0), (0, .int a0)]) (pc := 1) hx hb dX11_members_1 rfl hl (by decide) rfl (fun ls hl => ?_)
  refine lv_iconst (v := 0) (pc := 2) hx hb dX11_members_2 (by decide) ?_
  refine lv_istore_n (lv' := [(2, .int 0), (1, .int 0), (0, .int a0)]) (pc := 3) hx hb dX11_members_3 rfl hl (by decide) rfl (fun ls hl => ?_)
  exact wX11_members_4 hC hret hlk hU FU hf hH hS (lv_sub hl [2, 1, 0] rfl)
set_option maxRecDepth 100000 in
set_option maxHeartbeats 4000000 in
theorem mX11_members {l : Launch} {D : va_G} {cA : Nat → ClassId} {ad : Nat → Nat} {a0 : Int32}  {r : Int32} {st st' : gS} (hf : fX11_members a0 st = some (r, st')) : gM l yX11_members cX11_members 3 (some .int) 1 1 D cA ad st [.int a0] (some (.int r)) st' := by
  refine g_met (by decide) (Nat.le_of_ble_eq_true rfl) ?_
  intro p e s m args below meth c ls hC hret hlk hU hH hl
  exact bX11_members_0 hC hret hlk hU hf hH va_S.rf hl
def fX11_hands_88 (a1 : Int32) (a2 : Int32) (k24 : Int32 → Int32 → gS → Option (Int32 × gS)) (l3 : Int32) (l4 : Int32) (st : gS) : Option (Int32 × gS) :=
  (fX11_madeBy l4 st).bind fun q88_1 => (if ((q88_1.1 >>> (a1 &&& 31)) &&& 1) = 1 then (k24 l4 (l4 + 1) q88_1.2) else (k24 l3 (l4 + 1) q88_1.2))
set_option maxRecDepth 100000 in
set_option maxHeartbeats 4000000 in
theorem bX11_hands_88 {a1 : Int32} {a2 : Int32} (hC : CallFix p m c cX11_hands 6 s args lw_good RX11) (hret : meth.sig.returnType = (some .int)) (hlk : meth.locks = false) (hU : gU 1 D cA ad s)  {r : Int32} {st' : gS} {k24 : Int32 → Int32 → gS → Option (Int32 × gS)} (hk24 : ∀ {l3 : Int32} {l4 : Int32} {st : gS} {H : Heap} {locs : List Loc} {ls : Array Slot}, k24 l3 l4 st = some (r, st') → gP0 1 D cA ad st H → va_S (gA 1 ad) s.heap H locs → lv_has ls 6 [(0, .ref (ad 0)), (1, .int a1), (2, .int a2), (3, .int l3), (4, .int l4)] → W p l e (gRm 5) s m args below meth c H locs 0 0 (MQ below (gQc 1 D cA ad st' (some (.int r))) args s 0 0 (gA 1 ad)) (F0 m 24 ls [])) {l3 : Int32} {l4 : Int32} {st : gS} {H : Heap} {locs : List Loc} {ls : Array Slot} (hf : fX11_hands_88 a1 a2 k24 l3 l4 st = some (r, st')) (hH : gP0 1 D cA ad st H) (hS : va_S (gA 1 ad) s.heap H locs) (hl : lv_has ls 6 [(0, .ref (ad 0)), (1, .int a1), (2, .int a2), (3, .int l3), (4, .int l4)]) : W p l e (gRm 5) s m args below meth c H locs 0 0 (MQ below (gQc 1 D cA ad st' (some (.int r))) args s 0 0 (gA 1 ad)) (F0 m 88 ls []) := by
  obtain ⟨hx, hb, hml, hown, hts⟩ := id hC
  unfold fX11_hands_88 at hf
  refine lv_aload_n (pc := 88) hx hb dX11_hands_88 rfl (lv_at hl 0 rfl) ?_
  refine lv_iload (pc := 89) hx hb dX11_hands_89 (lv_at hl 4 rfl) ?_
  obtain ⟨q88_1, hq88_1, hf⟩ := gbd hf
  refine g_callVi (pc := 91) (rest := []) hC hU hH hS hl.1 gk1_0 rfl (by decide) (mX11_madeBy  hq88_1) ky_X11_madeBy km_X11_490 ⟨Nat.le_of_ble_eq_true rfl, Nat.le_of_ble_eq_true rfl⟩ ⟨Nat.zero_le _, Nat.zero_le _⟩ rfl (Nat.le_of_ble_eq_true rfl) dX11_hands_91 rfl (fun H locs hH hS => ?_)
  refine lv_iload_n (pc := 94) hx hb dX11_hands_94 rfl (lv_at hl 1 rfl) ?_
  refine lv_ishr (pc := 95) hx hb dX11_hands_95 ?_
  refine lv_iconst (v := 1) (pc := 96) hx hb dX11_hands_96 (by decide) ?_
  refine lv_iand (pc := 97) hx hb dX11_hands_97 ?_
  refine lv_iconst (v := 1) (pc := 98) hx hb dX11_hands_98 (by decide) ?_
  refine lv_icmp_ne (tgt := 105) (pc := 99) hx hb dX11_hands_99 (by decide) (fun hc => ?_) (fun hc => ?_)
  · have hf := gif_n hc hf
    refine lv_iinc (v := l4 + 1) (lv' := [(4, .int (l4 + 1)), (0, .ref (ad 0)), (1, .int a1), (2, .int a2), (3, .int l3)]) (k := 4) (pc := 105) hx hb dX11_hands_105 hl rfl rfl (by decide) rfl (fun ls hl => ?_)
    refine lv_goto (tgt := 24) (pc := 108) hx hb dX11_hands_108 (by decide) ?_
    exact hk24 hf hH hS (lv_sub hl [1, 2, 3, 4, 0] rfl)
  · have hf := gif_p hc hf
    refine lv_iload (pc := 102) hx hb dX11_hands_102 (lv_at hl 4 rfl) ?_
    refine lv_istore_n (lv' := [(3, .int l4), (0, .ref (ad 0)), (1, .int a1), (2, .int a2), (4, .int l4)]) (pc := 104) hx hb dX11_hands_104 rfl hl (by decide) rfl (fun ls hl => ?_)
    refine lv_iinc (v := l4 + 1) (lv' := [(4, .int (l4 + 1)), (3, .int l4), (0, .ref (ad 0)), (1, .int a1), (2, .int a2)]) (k := 4) (pc := 105) hx hb dX11_hands_105 hl rfl rfl (by decide) rfl (fun ls hl => ?_)
    refine lv_goto (tgt := 24) (pc := 108) hx hb dX11_hands_108 (by decide) ?_
    exact hk24 hf hH hS (lv_sub hl [2, 3, 4, 1, 0] rfl)
def fX11_hands_62 (a1 : Int32) (a2 : Int32) (k24 : Int32 → Int32 → gS → Option (Int32 × gS)) (l3 : Int32) (l4 : Int32) (s0 : Int32) (st : gS) : Option (Int32 × gS) :=
  if s0 = 0 then (if l3 < 0 then (fX11_hands_88 a1 a2 k24 l3 l4 st) else ((fX11_members l4 st).bind fun q62_1 => ((fX11_members l3 q62_1.2).bind fun q62_2 => (if q62_1.1 < q62_2.1 then (fX11_hands_88 a1 a2 k24 l3 l4 q62_2.2) else (k24 l3 (l4 + 1) q62_2.2))))) else (k24 l3 (l4 + 1) st)
set_option maxRecDepth 100000 in
set_option maxHeartbeats 4000000 in
theorem bX11_hands_62 {a1 : Int32} {a2 : Int32} (hC : CallFix p m c cX11_hands 6 s args lw_good RX11) (hret : meth.sig.returnType = (some .int)) (hlk : meth.locks = false) (hU : gU 1 D cA ad s)  {r : Int32} {st' : gS} {k24 : Int32 → Int32 → gS → Option (Int32 × gS)} (hk24 : ∀ {l3 : Int32} {l4 : Int32} {st : gS} {H : Heap} {locs : List Loc} {ls : Array Slot}, k24 l3 l4 st = some (r, st') → gP0 1 D cA ad st H → va_S (gA 1 ad) s.heap H locs → lv_has ls 6 [(0, .ref (ad 0)), (1, .int a1), (2, .int a2), (3, .int l3), (4, .int l4)] → W p l e (gRm 5) s m args below meth c H locs 0 0 (MQ below (gQc 1 D cA ad st' (some (.int r))) args s 0 0 (gA 1 ad)) (F0 m 24 ls [])) {l3 : Int32} {l4 : Int32} {s0 : Int32} {st : gS} {H : Heap} {locs : List Loc} {ls : Array Slot} (hf : fX11_hands_62 a1 a2 k24 l3 l4 s0 st = some (r, st')) (hH : gP0 1 D cA ad st H) (hS : va_S (gA 1 ad) s.heap H locs) (hl : lv_has ls 6 [(0, .ref (ad 0)), (1, .int a1), (2, .int a2), (3, .int l3), (4, .int l4)]) : W p l e (gRm 5) s m args below meth c H locs 0 0 (MQ below (gQc 1 D cA ad st' (some (.int r))) args s 0 0 (gA 1 ad)) (F0 m 62 ls [.int s0]) := by
  obtain ⟨hx, hb, hml, hown, hts⟩ := id hC
  unfold fX11_hands_62 at hf
  refine lv_istore (lv' := [(5, .int s0), (0, .ref (ad 0)), (1, .int a1), (2, .int a2), (3, .int l3), (4, .int l4)]) (pc := 62) hx hb dX11_hands_62 hl (by decide) rfl (fun ls hl => ?_)
  refine lv_iload (pc := 64) hx hb dX11_hands_64 (lv_at hl 0 rfl) ?_
  refine lv_if_ne (tgt := 105) (pc := 66) hx hb dX11_hands_66 (by decide) (fun hc => ?_) (fun hc => ?_)
  · have hf := gif_n hc hf
    refine lv_iinc (v := l4 + 1) (lv' := [(4, .int (l4 + 1)), (5, .int s0), (0, .ref (ad 0)), (1, .int a1), (2, .int a2), (3, .int l3)]) (k := 5) (pc := 105) hx hb dX11_hands_105 hl rfl rfl (by decide) rfl (fun ls hl => ?_)
    refine lv_goto (tgt := 24) (pc := 108) hx hb dX11_hands_108 (by decide) ?_
    exact hk24 hf hH hS (lv_sub hl [2, 3, 4, 5, 0] rfl)
  · have hf := gif_p hc hf
    refine lv_iload_n (pc := 69) hx hb dX11_hands_69 rfl (lv_at hl 4 rfl) ?_
    refine lv_if_lt (tgt := 88) (pc := 70) hx hb dX11_hands_70 (by decide) (fun hc => ?_) (fun hc => ?_)
    · have hf := gif_p hc hf
      exact bX11_hands_88 hC hret hlk hU hk24 hf hH hS (lv_sub hl [1, 2, 3, 4, 5] rfl)
    · have hf := gif_n hc hf
      refine lv_iload (pc := 73) hx hb dX11_hands_73 (lv_at hl 5 rfl) ?_
      obtain ⟨q62_1, hq62_1, hf⟩ := gbd hf
      refine g_callSi (pc := 75) (rest := []) hC hU hH hS hl.1 (mX11_members  hq62_1) ky_X11_members km_X11_493 ⟨Nat.le_of_ble_eq_true rfl, Nat.le_of_ble_eq_true rfl⟩ ⟨Nat.zero_le _, Nat.zero_le _⟩ rfl (Nat.le_of_ble_eq_true rfl) dX11_hands_75 rfl (fun H locs hH hS => ?_)
      refine lv_iload_n (pc := 78) hx hb dX11_hands_78 rfl (lv_at hl 4 rfl) ?_
      obtain ⟨q62_2, hq62_2, hf⟩ := gbd hf
      refine g_callSi (pc := 79) (rest := [.int q62_1.1]) hC hU hH hS hl.1 (mX11_members  hq62_2) ky_X11_members km_X11_493 ⟨Nat.le_of_ble_eq_true rfl, Nat.le_of_ble_eq_true rfl⟩ ⟨Nat.zero_le _, Nat.zero_le _⟩ rfl (Nat.le_of_ble_eq_true rfl) dX11_hands_79 rfl (fun H locs hH hS => ?_)
      refine lv_icmp_lt (tgt := 88) (pc := 82) hx hb dX11_hands_82 (by decide) (fun hc => ?_) (fun hc => ?_)
      · have hf := gif_p hc hf
        exact bX11_hands_88 hC hret hlk hU hk24 hf hH hS (lv_sub hl [1, 2, 3, 4, 5] rfl)
      · have hf := gif_n hc hf
        refine lv_goto (tgt := 105) (pc := 85) hx hb dX11_hands_85 (by decide) ?_
        refine lv_iinc (v := l4 + 1) (lv' := [(4, .int (l4 + 1)), (5, .int s0), (0, .ref (ad 0)), (1, .int a1), (2, .int a2), (3, .int l3)]) (k := 5) (pc := 105) hx hb dX11_hands_105 hl rfl rfl (by decide) rfl (fun ls hl => ?_)
        refine lv_goto (tgt := 24) (pc := 108) hx hb dX11_hands_108 (by decide) ?_
        exact hk24 hf hH hS (lv_sub hl [2, 3, 4, 5, 0] rfl)
def fX11_hands_61 (a1 : Int32) (a2 : Int32) (k24 : Int32 → Int32 → gS → Option (Int32 × gS)) (l3 : Int32) (l4 : Int32) (st : gS) : Option (Int32 × gS) :=
  fX11_hands_62 a1 a2 k24 l3 l4 0 st
set_option maxRecDepth 100000 in
set_option maxHeartbeats 4000000 in
theorem bX11_hands_61 {a1 : Int32} {a2 : Int32} (hC : CallFix p m c cX11_hands 6 s args lw_good RX11) (hret : meth.sig.returnType = (some .int)) (hlk : meth.locks = false) (hU : gU 1 D cA ad s)  {r : Int32} {st' : gS} {k24 : Int32 → Int32 → gS → Option (Int32 × gS)} (hk24 : ∀ {l3 : Int32} {l4 : Int32} {st : gS} {H : Heap} {locs : List Loc} {ls : Array Slot}, k24 l3 l4 st = some (r, st') → gP0 1 D cA ad st H → va_S (gA 1 ad) s.heap H locs → lv_has ls 6 [(0, .ref (ad 0)), (1, .int a1), (2, .int a2), (3, .int l3), (4, .int l4)] → W p l e (gRm 5) s m args below meth c H locs 0 0 (MQ below (gQc 1 D cA ad st' (some (.int r))) args s 0 0 (gA 1 ad)) (F0 m 24 ls [])) {l3 : Int32} {l4 : Int32} {st : gS} {H : Heap} {locs : List Loc} {ls : Array Slot} (hf : fX11_hands_61 a1 a2 k24 l3 l4 st = some (r, st')) (hH : gP0 1 D cA ad st H) (hS : va_S (gA 1 ad) s.heap H locs) (hl : lv_has ls 6 [(0, .ref (ad 0)), (1, .int a1), (2, .int a2), (3, .int l3), (4, .int l4)]) : W p l e (gRm 5) s m args below meth c H locs 0 0 (MQ below (gQc 1 D cA ad st' (some (.int r))) args s 0 0 (gA 1 ad)) (F0 m 61 ls []) := by
  obtain ⟨hx, hb, hml, hown, hts⟩ := id hC
  unfold fX11_hands_61 at hf
  refine lv_iconst (v := 0) (pc := 61) hx hb dX11_hands_61 (by decide) ?_
  exact bX11_hands_62 hC hret hlk hU hk24 hf hH hS (lv_sub hl [0, 1, 2, 3, 4] rfl)
def fX11_hands_24 (a1 : Int32) (a2 : Int32) (k24 : Int32 → Int32 → gS → Option (Int32 × gS)) (l3 : Int32) (l4 : Int32) (st : gS) : Option (Int32 × gS) :=
  if (1 <<< ((st.1 0 49) &&& 31)) ≤ l4 then (if 0 ≤ l3 then (if a2 = 0 then ((fX11_members l3 st).bind fun q24_1 => (some (q24_1.1, q24_1.2))) else (some (l3, st))) else (some ((-1), st))) else (if (st.1 0 49) ≤ 0 then (fX11_hands_61 a1 a2 k24 l3 l4 st) else (gc (gI 1 18) (if ((l4 >>> ((st.1 28 (1 : Int32).toNatClampNeg) &&& 31)) &&& 1) = 1 then (fX11_hands_62 a1 a2 k24 l3 l4 1 st) else (fX11_hands_61 a1 a2 k24 l3 l4 st))))
set_option maxRecDepth 100000 in
set_option maxHeartbeats 4000000 in
theorem bX11_hands_24 {a1 : Int32} {a2 : Int32} (hC : CallFix p m c cX11_hands 6 s args lw_good RX11) (hret : meth.sig.returnType = (some .int)) (hlk : meth.locks = false) (hU : gU 1 D cA ad s)  {r : Int32} {st' : gS} {k24 : Int32 → Int32 → gS → Option (Int32 × gS)} (hk24 : ∀ {l3 : Int32} {l4 : Int32} {st : gS} {H : Heap} {locs : List Loc} {ls : Array Slot}, k24 l3 l4 st = some (r, st') → gP0 1 D cA ad st H → va_S (gA 1 ad) s.heap H locs → lv_has ls 6 [(0, .ref (ad 0)), (1, .int a1), (2, .int a2), (3, .int l3), (4, .int l4)] → W p l e (gRm 5) s m args below meth c H locs 0 0 (MQ below (gQc 1 D cA ad st' (some (.int r))) args s 0 0 (gA 1 ad)) (F0 m 24 ls [])) {l3 : Int32} {l4 : Int32} {st : gS} {H : Heap} {locs : List Loc} {ls : Array Slot} (hf : fX11_hands_24 a1 a2 k24 l3 l4 st = some (r, st')) (hH : gP0 1 D cA ad st H) (hS : va_S (gA 1 ad) s.heap H locs) (hl : lv_has ls 6 [(0, .ref (ad 0)), (1, .int a1), (2, .int a2), (3, .int l3), (4, .int l4)]) : W p l e (gRm 5) s m args below meth c H locs 0 0 (MQ below (gQc 1 D cA ad st' (some (.int r))) args s 0 0 (gA 1 ad)) (F0 m 24 ls []) := by
  obtain ⟨hx, hb, hml, hown, hts⟩ := id hC
  unfold fX11_hands_24 at hf
  refine lv_iload (pc := 24) hx hb dX11_hands_24 (lv_at hl 4 rfl) ?_
  refine lv_iconst (v := 1) (pc := 26) hx hb dX11_hands_26 (by decide) ?_
  refine lv_aload_n (pc := 27) hx hb dX11_hands_27 rfl (lv_at hl 0 rfl) ?_
  refine g_get (pc := 28) (v := .int (st.1 0 49)) hC hU hH gk1_0 g_cl11 49 (by decide) kf_X11_395 rfl dX11_hands_28 ?_
  refine lv_ishl (pc := 31) hx hb dX11_hands_31 ?_
  refine lv_icmp_ge (tgt := 111) (pc := 32) hx hb dX11_hands_32 (by decide) (fun hc => ?_) (fun hc => ?_)
  · have hf := gif_p hc hf
    refine lv_iload_n (pc := 111) hx hb dX11_hands_111 rfl (lv_at hl 3 rfl) ?_
    refine lv_if_ge (tgt := 119) (pc := 112) hx hb dX11_hands_112 (by decide) (fun hc => ?_) (fun hc => ?_)
    · have hf := gif_p hc hf
      refine lv_iload_n (pc := 119) hx hb dX11_hands_119 rfl (lv_at hl 2 rfl) ?_
      refine lv_if_ne (tgt := 130) (pc := 120) hx hb dX11_hands_120 (by decide) (fun hc => ?_) (fun hc => ?_)
      · have hf := gif_n hc hf
        refine lv_iload_n (pc := 130) hx hb dX11_hands_130 rfl (lv_at hl 3 rfl) ?_
        exact g_iret (pc := 131) hC hret hlk hH hS hf dX11_hands_131
      · have hf := gif_p hc hf
        refine lv_iload_n (pc := 123) hx hb dX11_hands_123 rfl (lv_at hl 3 rfl) ?_
        obtain ⟨q24_1, hq24_1, hf⟩ := gbd hf
        refine g_callSi (pc := 124) (rest := []) hC hU hH hS hl.1 (mX11_members  hq24_1) ky_X11_members km_X11_493 ⟨Nat.le_of_ble_eq_true rfl, Nat.le_of_ble_eq_true rfl⟩ ⟨Nat.zero_le _, Nat.zero_le _⟩ rfl (Nat.le_of_ble_eq_true rfl) dX11_hands_124 rfl (fun H locs hH hS => ?_)
        refine lv_goto (tgt := 131) (pc := 127) hx hb dX11_hands_127 (by decide) ?_
        exact g_iret (pc := 131) hC hret hlk hH hS hf dX11_hands_131
    · have hf := gif_n hc hf
      refine lv_iconst (v := (-1)) (pc := 115) hx hb dX11_hands_115 (by decide) ?_
      refine lv_goto (tgt := 131) (pc := 116) hx hb dX11_hands_116 (by decide) ?_
      exact g_iret (pc := 131) hC hret hlk hH hS hf dX11_hands_131
  · have hf := gif_n hc hf
    refine lv_aload_n (pc := 35) hx hb dX11_hands_35 rfl (lv_at hl 0 rfl) ?_
    refine g_get (pc := 36) (v := .int (st.1 0 49)) hC hU hH gk1_0 g_cl11 49 (by decide) kf_X11_395 rfl dX11_hands_36 ?_
    refine lv_if_le (tgt := 61) (pc := 39) hx hb dX11_hands_39 (by decide) (fun hc => ?_) (fun hc => ?_)
    · have hf := gif_p hc hf
      exact bX11_hands_61 hC hret hlk hU hk24 hf hH hS (lv_sub hl [0, 1, 2, 3, 4] rfl)
    · have hf := gif_n hc hf
      refine lv_iload (pc := 42) hx hb dX11_hands_42 (lv_at hl 4 rfl) ?_
      refine lv_aload_n (pc := 44) hx hb dX11_hands_44 rfl (lv_at hl 0 rfl) ?_
      refine g_get (pc := 45) (v := .ref (ad 28)) hC hU hH gk1_0 g_cl11 55 (by decide) kf_X11_100 rfl dX11_hands_45 ?_
      refine lv_iconst (v := 1) (pc := 48) hx hb dX11_hands_48 (by decide) ?_
      obtain ⟨h24_1, hf⟩ := gc_s hf
      refine g_iald (pc := 49) hC hU hH gk1_28 gn1_28 h24_1 dX11_hands_49 ?_
      refine lv_ishr (pc := 50) hx hb dX11_hands_50 ?_
      refine lv_iconst (v := 1) (pc := 51) hx hb dX11_hands_51 (by decide) ?_
      refine lv_iand (pc := 52) hx hb dX11_hands_52 ?_
      refine lv_iconst (v := 1) (pc := 53) hx hb dX11_hands_53 (by decide) ?_
      refine lv_icmp_ne (tgt := 61) (pc := 54) hx hb dX11_hands_54 (by decide) (fun hc => ?_) (fun hc => ?_)
      · have hf := gif_n hc hf
        exact bX11_hands_61 hC hret hlk hU hk24 hf hH hS (lv_sub hl [0, 1, 2, 3, 4] rfl)
      · have hf := gif_p hc hf
        refine lv_iconst (v := 1) (pc := 57) hx hb dX11_hands_57 (by decide) ?_
        refine lv_goto (tgt := 62) (pc := 58) hx hb dX11_hands_58 (by decide) ?_
        exact bX11_hands_62 hC hret hlk hU hk24 hf hH hS (lv_sub hl [0, 1, 2, 3, 4] rfl)
def hX11_hands_24 (a1 : Int32) (a2 : Int32)  : Nat → Int32 → Int32 → gS → Option (Int32 × gS)
  | 0 => fun _ _ _ => none
  | n + 1 => fun l3 l4 st => fX11_hands_24 a1 a2 (hX11_hands_24 a1 a2 n) l3 l4 st
set_option maxRecDepth 100000 in
set_option maxHeartbeats 4000000 in
theorem wX11_hands_24 {a1 : Int32} {a2 : Int32} (hC : CallFix p m c cX11_hands 6 s args lw_good RX11) (hret : meth.sig.returnType = (some .int)) (hlk : meth.locks = false) (hU : gU 1 D cA ad s)  {r : Int32} {st' : gS}  : ∀ (n : Nat) {l3 : Int32} {l4 : Int32} {st : gS} {H : Heap} {locs : List Loc} {ls : Array Slot}, hX11_hands_24 a1 a2 n l3 l4 st = some (r, st') → gP0 1 D cA ad st H → va_S (gA 1 ad) s.heap H locs → lv_has ls 6 [(0, .ref (ad 0)), (1, .int a1), (2, .int a2), (3, .int l3), (4, .int l4)] → W p l e (gRm 5) s m args below meth c H locs 0 0 (MQ below (gQc 1 D cA ad st' (some (.int r))) args s 0 0 (gA 1 ad)) (F0 m 24 ls []) := by
  intro n
  induction n with
  | zero => intro l3 l4 st H locs ls hf hH hS hl; cases hf
  | succ n ih =>
    intro l3 l4 st H locs ls hf hH hS hl
    exact bX11_hands_24 (a1 := a1) (a2 := a2) hC hret hlk hU (fun hf hH hS hl => ih hf hH hS hl) hf hH hS hl
def fX11_hands (a1 : Int32) (a2 : Int32)   (st : gS) : Option (Int32 × gS) :=
  (fX11_isFigure a1 st).bind fun q0_1 => (if q0_1.1 = 0 then (some ((-1), q0_1.2)) else ((fX11_isIn a2 0 1 q0_1.2).bind fun q0_2 => (if q0_2.1 = 0 then (some ((-1), q0_2.2)) else (hX11_hands_24 a1 a2 FU (-1) 0 q0_2.2))))
set_option maxRecDepth 100000 in
set_option maxHeartbeats 4000000 in
theorem bX11_hands_0 {a1 : Int32} {a2 : Int32} (hC : CallFix p m c cX11_hands 6 s args lw_good RX11) (hret : meth.sig.returnType = (some .int)) (hlk : meth.locks = false) (hU : gU 1 D cA ad s)  {r : Int32} {st' : gS}   {st : gS} {H : Heap} {locs : List Loc} {ls : Array Slot} (hf : fX11_hands a1 a2 st = some (r, st')) (hH : gP0 1 D cA ad st H) (hS : va_S (gA 1 ad) s.heap H locs) (hl : lv_has ls 6 [(0, .ref (ad 0)), (1, .int a1), (2, .int a2)]) : W p l e (gRm 5) s m args below meth c H locs 0 0 (MQ below (gQc 1 D cA ad st' (some (.int r))) args s 0 0 (gA 1 ad)) (F0 m 0 ls []) := by
  obtain ⟨hx, hb, hml, hown, hts⟩ := id hC
  unfold fX11_hands at hf
  refine lv_aload_n (pc := 0) hx hb dX11_hands_0 rfl (lv_at hl 0 rfl) ?_
  refine lv_iload_n (pc := 1) hx hb dX11_hands_1 rfl (lv_at hl 1 rfl) ?_
  obtain ⟨q0_1, hq0_1, hf⟩ := gbd hf
  refine g_callVi (pc := 2) (rest := []) hC hU hH hS hl.1 gk1_0 rfl (by decide) (mX11_isFigure  hq0_1) ky_X11_isFigure km_X11_443 ⟨Nat.le_of_ble_eq_true rfl, Nat.le_of_ble_eq_true rfl⟩ ⟨Nat.zero_le _, Nat.zero_le _⟩ rfl (Nat.le_of_ble_eq_true rfl) dX11_hands_2 rfl (fun H locs hH hS => ?_)
  refine lv_if_eq (tgt := 17) (pc := 5) hx hb dX11_hands_5 (by decide) (fun hc => ?_) (fun hc => ?_)
  · have hf := gif_p hc hf
    refine lv_iconst (v := (-1)) (pc := 17) hx hb dX11_hands_17 (by decide) ?_
    exact g_iret (pc := 18) hC hret hlk hH hS hf dX11_hands_18
  · have hf := gif_n hc hf
    refine lv_iload_n (pc := 8) hx hb dX11_hands_8 rfl (lv_at hl 2 rfl) ?_
    refine lv_iconst (v := 0) (pc := 9) hx hb dX11_hands_9 (by decide) ?_
    refine lv_iconst (v := 1) (pc := 10) hx hb dX11_hands_10 (by decide) ?_
    obtain ⟨q0_2, hq0_2, hf⟩ := gbd hf
    refine g_callSi (pc := 11) (rest := []) hC hU hH hS hl.1 (mX11_isIn  hq0_2) ky_X11_isIn km_X11_416 ⟨Nat.le_of_ble_eq_true rfl, Nat.le_of_ble_eq_true rfl⟩ ⟨Nat.zero_le _, Nat.zero_le _⟩ rfl (Nat.le_of_ble_eq_true rfl) dX11_hands_11 rfl (fun H locs hH hS => ?_)
    refine lv_if_ne (tgt := 19) (pc := 14) hx hb dX11_hands_14 (by decide) (fun hc => ?_) (fun hc => ?_)
    · have hf := gif_n hc hf
      refine lv_iconst (v := (-1)) (pc := 19) hx hb dX11_hands_19 (by decide) ?_
      refine lv_istore_n (lv' := [(3, .int (-1)), (0, .ref (ad 0)), (1, .int a1), (2, .int a2)]) (pc := 20) hx hb dX11_hands_20 rfl hl (by decide) rfl (fun ls hl => ?_)
      refine lv_iconst (v := 0) (pc := 21) hx hb dX11_hands_21 (by decide) ?_
      refine lv_istore (lv' := [(4, .int 0), (3, .int (-1)), (0, .ref (ad 0)), (1, .int a1), (2, .int a2)]) (pc := 22) hx hb dX11_hands_22 hl (by decide) rfl (fun ls hl => ?_)
      exact wX11_hands_24 hC hret hlk hU FU hf hH hS (lv_sub hl [2, 3, 4, 1, 0] rfl)
    · have hf := gif_p hc hf
      refine lv_iconst (v := (-1)) (pc := 17) hx hb dX11_hands_17 (by decide) ?_
      exact g_iret (pc := 18) hC hret hlk hH hS hf dX11_hands_18
set_option maxRecDepth 100000 in
set_option maxHeartbeats 4000000 in
theorem mX11_hands {l : Launch} {D : va_G} {cA : Nat → ClassId} {ad : Nat → Nat} {a1 : Int32} {a2 : Int32}  {r : Int32} {st st' : gS} (hf : fX11_hands a1 a2 st = some (r, st')) : gM l yX11_hands cX11_hands 6 (some .int) 5 1 D cA ad st [.ref (ad 0), .int a1, .int a2] (some (.int r)) st' := by
  refine g_met (by decide) (Nat.le_of_ble_eq_true rfl) ?_
  intro p e s m args below meth c ls hC hret hlk hU hH hl
  exact bX11_hands_0 hC hret hlk hU hf hH va_S.rf hl
def fX11_settledBy_14 (a1 : Int32) (a2 : Int32) (a3 : Int32) (k14 : Int32 → Int32 → Int32 → gS → Option (Int32 × gS)) (l4 : Int32) (l5 : Int32) (l6 : Int32) (st : gS) : Option (Int32 × gS) :=
  if (st.1 0 50) ≤ l6 then (some (l5, st)) else (gc (gI l6 16) (if (st.1 21 l6.toNatClampNeg) = a1 then ((fX11_can l4 l6 st).bind fun q14_1 => (if q14_1.1 = 0 then (k14 l4 l5 (l6 + 1) q14_1.2) else (gc (gI l6 16) (gc (gI ((8 * (1 - a2)) + (q14_1.2.1 22 l6.toNatClampNeg)) 16) (gl (q14_1.2.1 35 ((8 * (1 - a2)) + (q14_1.2.1 22 l6.toNatClampNeg)).toNatClampNeg) fun x67 => ((fX11_worthOf l4 x67 q14_1.2).bind fun q14_2 => ((fX11_worthOf l4 l5 q14_2.2).bind fun q14_3 => (if q14_2.1 ≤ q14_3.1 then (k14 l4 l5 (l6 + 1) q14_3.2) else (k14 l4 x67 (l6 + 1) q14_3.2))))))))) else (k14 l4 l5 (l6 + 1) st)))
set_option maxRecDepth 100000 in
set_option maxHeartbeats 4000000 in
theorem bX11_settledBy_14 {a1 : Int32} {a2 : Int32} {a3 : Int32} (hC : CallFix p m c cX11_settledBy 8 s args lw_good RX11) (hret : meth.sig.returnType = (some .int)) (hlk : meth.locks = false) (hU : gU 1 D cA ad s)  {r : Int32} {st' : gS} {k14 : Int32 → Int32 → Int32 → gS → Option (Int32 × gS)} (hk14 : ∀ {l4 : Int32} {l5 : Int32} {l6 : Int32} {st : gS} {H : Heap} {locs : List Loc} {ls : Array Slot}, k14 l4 l5 l6 st = some (r, st') → gP0 1 D cA ad st H → va_S (gA 1 ad) s.heap H locs → lv_has ls 8 [(0, .ref (ad 0)), (1, .int a1), (2, .int a2), (4, .int l4), (5, .int l5), (6, .int l6)] → W p l e (gRm 3) s m args below meth c H locs 0 0 (MQ below (gQc 1 D cA ad st' (some (.int r))) args s 0 0 (gA 1 ad)) (F0 m 14 ls [])) {l4 : Int32} {l5 : Int32} {l6 : Int32} {st : gS} {H : Heap} {locs : List Loc} {ls : Array Slot} (hf : fX11_settledBy_14 a1 a2 a3 k14 l4 l5 l6 st = some (r, st')) (hH : gP0 1 D cA ad st H) (hS : va_S (gA 1 ad) s.heap H locs) (hl : lv_has ls 8 [(0, .ref (ad 0)), (1, .int a1), (2, .int a2), (4, .int l4), (5, .int l5), (6, .int l6)]) : W p l e (gRm 3) s m args below meth c H locs 0 0 (MQ below (gQc 1 D cA ad st' (some (.int r))) args s 0 0 (gA 1 ad)) (F0 m 14 ls []) := by
  obtain ⟨hx, hb, hml, hown, hts⟩ := id hC
  unfold fX11_settledBy_14 at hf
  refine lv_iload (pc := 14) hx hb dX11_settledBy_14 (lv_at hl 5 rfl) ?_
  refine lv_aload_n (pc := 16) hx hb dX11_settledBy_16 rfl (lv_at hl 0 rfl) ?_
  refine g_get (pc := 17) (v := .int (st.1 0 50)) hC hU hH gk1_0 g_cl11 50 (by decide) kf_X11_398 rfl dX11_settledBy_17 ?_
  refine lv_icmp_ge (tgt := 98) (pc := 20) hx hb dX11_settledBy_20 (by decide) (fun hc => ?_) (fun hc => ?_)
  · have hf := gif_p hc hf
    refine lv_iload (pc := 98) hx hb dX11_settledBy_98 (lv_at hl 4 rfl) ?_
    exact g_iret (pc := 100) hC hret hlk hH hS hf dX11_settledBy_100
  · have hf := gif_n hc hf
    refine lv_aload_n (pc := 23) hx hb dX11_settledBy_23 rfl (lv_at hl 0 rfl) ?_
    refine g_get (pc := 24) (v := .ref (ad 21)) hC hU hH gk1_0 g_cl11 36 (by decide) kf_X11_75 rfl dX11_settledBy_24 ?_
    refine lv_iload (pc := 27) hx hb dX11_settledBy_27 (lv_at hl 5 rfl) ?_
    obtain ⟨h14_1, hf⟩ := gc_s hf
    refine g_iald (pc := 29) hC hU hH gk1_21 gn1_21 h14_1 dX11_settledBy_29 ?_
    refine lv_iload_n (pc := 30) hx hb dX11_settledBy_30 rfl (lv_at hl 1 rfl) ?_
    refine lv_icmp_ne (tgt := 92) (pc := 31) hx hb dX11_settledBy_31 (by decide) (fun hc => ?_) (fun hc => ?_)
    · have hf := gif_n hc hf
      refine lv_iinc (v := l6 + 1) (lv' := [(6, .int (l6 + 1)), (0, .ref (ad 0)), (1, .int a1), (2, .int a2), (4, .int l4), (5, .int l5)]) (k := 5) (pc := 92) hx hb dX11_settledBy_92 hl rfl rfl (by decide) rfl (fun ls hl => ?_)
      refine lv_goto (tgt := 14) (pc := 95) hx hb dX11_settledBy_95 (by decide) ?_
      exact hk14 hf hH hS (lv_sub hl [1, 2, 3, 4, 5, 0] rfl)
    · have hf := gif_p hc hf
      refine lv_aload_n (pc := 34) hx hb dX11_settledBy_34 rfl (lv_at hl 0 rfl) ?_
      refine lv_iload (pc := 35) hx hb dX11_settledBy_35 (lv_at hl 3 rfl) ?_
      refine lv_iload (pc := 37) hx hb dX11_settledBy_37 (lv_at hl 5 rfl) ?_
      obtain ⟨q14_1, hq14_1, hf⟩ := gbd hf
      refine g_callVi (pc := 39) (rest := []) hC hU hH hS hl.1 gk1_0 rfl (by decide) (mX11_can  hq14_1) ky_X11_can km_X11_427 ⟨Nat.le_of_ble_eq_true rfl, Nat.le_of_ble_eq_true rfl⟩ ⟨Nat.zero_le _, Nat.zero_le _⟩ rfl (Nat.le_of_ble_eq_true rfl) dX11_settledBy_39 rfl (fun H locs hH hS => ?_)
      refine lv_if_ne (tgt := 48) (pc := 42) hx hb dX11_settledBy_42 (by decide) (fun hc => ?_) (fun hc => ?_)
      · have hf := gif_n hc hf
        refine lv_aload_n (pc := 48) hx hb dX11_settledBy_48 rfl (lv_at hl 0 rfl) ?_
        refine g_get (pc := 49) (v := .ref (ad 35)) hC hU hH gk1_0 g_cl11 65 (by decide) kf_X11_121 rfl dX11_settledBy_49 ?_
        refine lv_bipush (v := 8) (pc := 52) hx hb dX11_settledBy_52 (by decide) ?_
        refine lv_iconst (v := 1) (pc := 54) hx hb dX11_settledBy_54 (by decide) ?_
        refine lv_iload_n (pc := 55) hx hb dX11_settledBy_55 rfl (lv_at hl 2 rfl) ?_
        refine lv_isub (pc := 56) hx hb dX11_settledBy_56 ?_
        refine lv_imul (pc := 57) hx hb dX11_settledBy_57 ?_
        refine lv_aload_n (pc := 58) hx hb dX11_settledBy_58 rfl (lv_at hl 0 rfl) ?_
        refine g_get (pc := 59) (v := .ref (ad 22)) hC hU hH gk1_0 g_cl11 37 (by decide) kf_X11_78 rfl dX11_settledBy_59 ?_
        refine lv_iload (pc := 62) hx hb dX11_settledBy_62 (lv_at hl 5 rfl) ?_
        obtain ⟨h14_2, hf⟩ := gc_s hf
        refine g_iald (pc := 64) hC hU hH gk1_22 gn1_22 h14_2 dX11_settledBy_64 ?_
        refine lv_iadd (pc := 65) hx hb dX11_settledBy_65 ?_
        obtain ⟨h14_3, hf⟩ := gc_s hf
        refine g_iald (pc := 66) hC hU hH gk1_35 gn1_35 h14_3 dX11_settledBy_66 ?_
        refine lv_topi (pc := 67) (fun x67 ex67 => ?_)
        have hf := gl_s ex67 hf
        refine lv_istore (lv' := [(7, .int x67), (0, .ref (ad 0)), (1, .int a1), (2, .int a2), (4, .int l4), (5, .int l5), (6, .int l6)]) (pc := 67) hx hb dX11_settledBy_67 hl (by decide) rfl (fun ls hl => ?_)
        refine lv_aload_n (pc := 69) hx hb dX11_settledBy_69 rfl (lv_at hl 1 rfl) ?_
        refine lv_iload (pc := 70) hx hb dX11_settledBy_70 (lv_at hl 4 rfl) ?_
        refine lv_iload (pc := 72) hx hb dX11_settledBy_72 (lv_at hl 0 rfl) ?_
        obtain ⟨q14_2, hq14_2, hf⟩ := gbd hf
        refine g_callVi (pc := 74) (rest := []) hC hU hH hS hl.1 gk1_0 rfl (by decide) (mX11_worthOf  hq14_2) ky_X11_worthOf km_X11_446 ⟨Nat.le_of_ble_eq_true rfl, Nat.le_of_ble_eq_true rfl⟩ ⟨Nat.zero_le _, Nat.zero_le _⟩ rfl (Nat.le_of_ble_eq_true rfl) dX11_settledBy_74 rfl (fun H locs hH hS => ?_)
        refine lv_aload_n (pc := 77) hx hb dX11_settledBy_77 rfl (lv_at hl 1 rfl) ?_
        refine lv_iload (pc := 78) hx hb dX11_settledBy_78 (lv_at hl 4 rfl) ?_
        refine lv_iload (pc := 80) hx hb dX11_settledBy_80 (lv_at hl 5 rfl) ?_
        obtain ⟨q14_3, hq14_3, hf⟩ := gbd hf
        refine g_callVi (pc := 82) (rest := [.int q14_2.1]) hC hU hH hS hl.1 gk1_0 rfl (by decide) (mX11_worthOf  hq14_3) ky_X11_worthOf km_X11_446 ⟨Nat.le_of_ble_eq_true rfl, Nat.le_of_ble_eq_true rfl⟩ ⟨Nat.zero_le _, Nat.zero_le _⟩ rfl (Nat.le_of_ble_eq_true rfl) dX11_settledBy_82 rfl (fun H locs hH hS => ?_)
        refine lv_icmp_le (tgt := 92) (pc := 85) hx hb dX11_settledBy_85 (by decide) (fun hc => ?_) (fun hc => ?_)
        · have hf := gif_p hc hf
          refine lv_iinc (v := l6 + 1) (lv' := [(6, .int (l6 + 1)), (7, .int x67), (0, .ref (ad 0)), (1, .int a1), (2, .int a2), (4, .int l4), (5, .int l5)]) (k := 6) (pc := 92) hx hb dX11_settledBy_92 hl rfl rfl (by decide) rfl (fun ls hl => ?_)
          refine lv_goto (tgt := 14) (pc := 95) hx hb dX11_settledBy_95 (by decide) ?_
          exact hk14 hf hH hS (lv_sub hl [2, 3, 4, 5, 6, 0] rfl)
        · have hf := gif_n hc hf
          refine lv_iload (pc := 88) hx hb dX11_settledBy_88 (lv_at hl 0 rfl) ?_
          refine lv_istore (lv' := [(5, .int x67), (7, .int x67), (0, .ref (ad 0)), (1, .int a1), (2, .int a2), (4, .int l4), (6, .int l6)]) (pc := 90) hx hb dX11_settledBy_90 hl (by decide) rfl (fun ls hl => ?_)
          refine lv_iinc (v := l6 + 1) (lv' := [(6, .int (l6 + 1)), (5, .int x67), (7, .int x67), (0, .ref (ad 0)), (1, .int a1), (2, .int a2), (4, .int l4)]) (k := 6) (pc := 92) hx hb dX11_settledBy_92 hl rfl rfl (by decide) rfl (fun ls hl => ?_)
          refine lv_goto (tgt := 14) (pc := 95) hx hb dX11_settledBy_95 (by decide) ?_
          exact hk14 hf hH hS (lv_sub hl [3, 4, 5, 6, 1, 0] rfl)
      · have hf := gif_p hc hf
        refine lv_goto (tgt := 92) (pc := 45) hx hb dX11_settledBy_45 (by decide) ?_
        refine lv_iinc (v := l6 + 1) (lv' := [(6, .int (l6 + 1)), (0, .ref (ad 0)), (1, .int a1), (2, .int a2), (4, .int l4), (5, .int l5)]) (k := 5) (pc := 92) hx hb dX11_settledBy_92 hl rfl rfl (by decide) rfl (fun ls hl => ?_)
        refine lv_goto (tgt := 14) (pc := 95) hx hb dX11_settledBy_95 (by decide) ?_
        exact hk14 hf hH hS (lv_sub hl [1, 2, 3, 4, 5, 0] rfl)
def hX11_settledBy_14 (a1 : Int32) (a2 : Int32) (a3 : Int32)  : Nat → Int32 → Int32 → Int32 → gS → Option (Int32 × gS)
  | 0 => fun _ _ _ _ => none
  | n + 1 => fun l4 l5 l6 st => fX11_settledBy_14 a1 a2 a3 (hX11_settledBy_14 a1 a2 a3 n) l4 l5 l6 st
set_option maxRecDepth 100000 in
set_option maxHeartbeats 4000000 in
theorem wX11_settledBy_14 {a1 : Int32} {a2 : Int32} {a3 : Int32} (hC : CallFix p m c cX11_settledBy 8 s args lw_good RX11) (hret : meth.sig.returnType = (some .int)) (hlk : meth.locks = false) (hU : gU 1 D cA ad s)  {r : Int32} {st' : gS}  : ∀ (n : Nat) {l4 : Int32} {l5 : Int32} {l6 : Int32} {st : gS} {H : Heap} {locs : List Loc} {ls : Array Slot}, hX11_settledBy_14 a1 a2 a3 n l4 l5 l6 st = some (r, st') → gP0 1 D cA ad st H → va_S (gA 1 ad) s.heap H locs → lv_has ls 8 [(0, .ref (ad 0)), (1, .int a1), (2, .int a2), (4, .int l4), (5, .int l5), (6, .int l6)] → W p l e (gRm 3) s m args below meth c H locs 0 0 (MQ below (gQc 1 D cA ad st' (some (.int r))) args s 0 0 (gA 1 ad)) (F0 m 14 ls []) := by
  intro n
  induction n with
  | zero => intro l4 l5 l6 st H locs ls hf hH hS hl; cases hf
  | succ n ih =>
    intro l4 l5 l6 st H locs ls hf hH hS hl
    exact bX11_settledBy_14 (a1 := a1) (a2 := a2) (a3 := a3) hC hret hlk hU (fun hf hH hS hl => ih hf hH hS hl) hf hH hS hl
def fX11_settledBy (a1 : Int32) (a2 : Int32) (a3 : Int32)   (st : gS) : Option (Int32 × gS) :=
  (fX11_takerAt a2 a3 st).bind fun q0_1 => (hX11_settledBy_14 a1 a2 a3 FU q0_1.1 a1 0 q0_1.2)
set_option maxRecDepth 100000 in
set_option maxHeartbeats 4000000 in
theorem bX11_settledBy_0 {a1 : Int32} {a2 : Int32} {a3 : Int32} (hC : CallFix p m c cX11_settledBy 8 s args lw_good RX11) (hret : meth.sig.returnType = (some .int)) (hlk : meth.locks = false) (hU : gU 1 D cA ad s)  {r : Int32} {st' : gS}   {st : gS} {H : Heap} {locs : List Loc} {ls : Array Slot} (hf : fX11_settledBy a1 a2 a3 st = some (r, st')) (hH : gP0 1 D cA ad st H) (hS : va_S (gA 1 ad) s.heap H locs) (hl : lv_has ls 8 [(0, .ref (ad 0)), (1, .int a1), (2, .int a2), (3, .int a3)]) : W p l e (gRm 3) s m args below meth c H locs 0 0 (MQ below (gQc 1 D cA ad st' (some (.int r))) args s 0 0 (gA 1 ad)) (F0 m 0 ls []) := by
  obtain ⟨hx, hb, hml, hown, hts⟩ := id hC
  unfold fX11_settledBy at hf
  refine lv_aload_n (pc := 0) hx hb dX11_settledBy_0 rfl (lv_at hl 0 rfl) ?_
  refine lv_iload_n (pc := 1) hx hb dX11_settledBy_1 rfl (lv_at hl 2 rfl) ?_
  refine lv_iload_n (pc := 2) hx hb dX11_settledBy_2 rfl (lv_at hl 3 rfl) ?_
  obtain ⟨q0_1, hq0_1, hf⟩ := gbd hf
  refine g_callVi (pc := 3) (rest := []) hC hU hH hS hl.1 gk1_0 rfl (by decide) (mX11_takerAt  hq0_1) ky_X11_takerAt km_X11_465 ⟨Nat.le_of_ble_eq_true rfl, Nat.le_of_ble_eq_true rfl⟩ ⟨Nat.zero_le _, Nat.zero_le _⟩ rfl (Nat.le_of_ble_eq_true rfl) dX11_settledBy_3 rfl (fun H locs hH hS => ?_)
  refine lv_istore (lv' := [(4, .int q0_1.1), (0, .ref (ad 0)), (1, .int a1), (2, .int a2), (3, .int a3)]) (pc := 6) hx hb dX11_settledBy_6 hl (by decide) rfl (fun ls hl => ?_)
  refine lv_iload_n (pc := 8) hx hb dX11_settledBy_8 rfl (lv_at hl 2 rfl) ?_
  refine lv_istore (lv' := [(5, .int a1), (4, .int q0_1.1), (0, .ref (ad 0)), (1, .int a1), (2, .int a2), (3, .int a3)]) (pc := 9) hx hb dX11_settledBy_9 hl (by decide) rfl (fun ls hl => ?_)
  refine lv_iconst (v := 0) (pc := 11) hx hb dX11_settledBy_11 (by decide) ?_
  refine lv_istore (lv' := [(6, .int 0), (5, .int a1), (4, .int q0_1.1), (0, .ref (ad 0)), (1, .int a1), (2, .int a2), (3, .int a3)]) (pc := 12) hx hb dX11_settledBy_12 hl (by decide) rfl (fun ls hl => ?_)
  exact wX11_settledBy_14 hC hret hlk hU FU hf hH hS (lv_sub hl [3, 4, 5, 2, 1, 0] rfl)
set_option maxRecDepth 100000 in
set_option maxHeartbeats 4000000 in
theorem mX11_settledBy {l : Launch} {D : va_G} {cA : Nat → ClassId} {ad : Nat → Nat} {a1 : Int32} {a2 : Int32} {a3 : Int32}  {r : Int32} {st st' : gS} (hf : fX11_settledBy a1 a2 a3 st = some (r, st')) : gM l yX11_settledBy cX11_settledBy 8 (some .int) 3 1 D cA ad st [.ref (ad 0), .int a1, .int a2, .int a3] (some (.int r)) st' := by
  refine g_met (by decide) (Nat.le_of_ble_eq_true rfl) ?_
  intro p e s m args below meth c ls hC hret hlk hU hH hl
  exact bX11_settledBy_0 hC hret hlk hU hf hH va_S.rf hl
def fX11_deal_115 (a1 : Int32) (a2 : Int32) (k53 : Int32 → gS → Option (Int32 × gS)) (k115 : Int32 → Int32 → gS → Option (Int32 × gS)) (l3 : Int32) (l4 : Int32) (st : gS) : Option (Int32 × gS) :=
  if 16 ≤ l4 then (k53 (l3 + 1) st) else (gc (gI l4 16) (gc (gI l4 16) (k115 l3 (l4 + 1) (wi st 35 l4.toNatClampNeg (st.1 36 l4.toNatClampNeg)))))
set_option maxRecDepth 100000 in
set_option maxHeartbeats 4000000 in
theorem bX11_deal_115 {a1 : Int32} {a2 : Int32} (hC : CallFix p m c cX11_deal 5 s args lw_good RX11) (hret : meth.sig.returnType = (some .int)) (hlk : meth.locks = false) (hU : gU 1 D cA ad s)  {r : Int32} {st' : gS} {k53 : Int32 → gS → Option (Int32 × gS)} (hk53 : ∀ {l3 : Int32} {st : gS} {H : Heap} {locs : List Loc} {ls : Array Slot}, k53 l3 st = some (r, st') → gP0 1 D cA ad st H → va_S (gA 1 ad) s.heap H locs → lv_has ls 5 [(0, .ref (ad 0)), (1, .int a1), (2, .int a2), (3, .int l3)] → W p l e (gRm 4) s m args below meth c H locs 0 0 (MQ below (gQc 1 D cA ad st' (some (.int r))) args s 0 0 (gA 1 ad)) (F0 m 53 ls [])) {k115 : Int32 → Int32 → gS → Option (Int32 × gS)} (hk115 : ∀ {l3 : Int32} {l4 : Int32} {st : gS} {H : Heap} {locs : List Loc} {ls : Array Slot}, k115 l3 l4 st = some (r, st') → gP0 1 D cA ad st H → va_S (gA 1 ad) s.heap H locs → lv_has ls 5 [(0, .ref (ad 0)), (1, .int a1), (2, .int a2), (3, .int l3), (4, .int l4)] → W p l e (gRm 4) s m args below meth c H locs 0 0 (MQ below (gQc 1 D cA ad st' (some (.int r))) args s 0 0 (gA 1 ad)) (F0 m 115 ls [])) {l3 : Int32} {l4 : Int32} {st : gS} {H : Heap} {locs : List Loc} {ls : Array Slot} (hf : fX11_deal_115 a1 a2 k53 k115 l3 l4 st = some (r, st')) (hH : gP0 1 D cA ad st H) (hS : va_S (gA 1 ad) s.heap H locs) (hl : lv_has ls 5 [(0, .ref (ad 0)), (1, .int a1), (2, .int a2), (3, .int l3), (4, .int l4)]) : W p l e (gRm 4) s m args below meth c H locs 0 0 (MQ below (gQc 1 D cA ad st' (some (.int r))) args s 0 0 (gA 1 ad)) (F0 m 115 ls []) := by
  obtain ⟨hx, hb, hml, hown, hts⟩ := id hC
  unfold fX11_deal_115 at hf
  refine lv_iload (pc := 115) hx hb dX11_deal_115 (lv_at hl 4 rfl) ?_
  refine lv_bipush (v := 16) (pc := 117) hx hb dX11_deal_117 (by decide) ?_
  refine lv_icmp_ge (tgt := 142) (pc := 119) hx hb dX11_deal_119 (by decide) (fun hc => ?_) (fun hc => ?_)
  · have hf := gif_p hc hf
    refine lv_iinc (v := l3 + 1) (lv' := [(3, .int (l3 + 1)), (0, .ref (ad 0)), (1, .int a1), (2, .int a2), (4, .int l4)]) (k := 3) (pc := 142) hx hb dX11_deal_142 hl rfl rfl (by decide) rfl (fun ls hl => ?_)
    refine lv_goto (tgt := 53) (pc := 145) hx hb dX11_deal_145 (by decide) ?_
    exact hk53 hf hH hS (lv_sub hl [1, 2, 3, 0] rfl)
  · have hf := gif_n hc hf
    refine lv_aload_n (pc := 122) hx hb dX11_deal_122 rfl (lv_at hl 0 rfl) ?_
    refine g_get (pc := 123) (v := .ref (ad 35)) hC hU hH gk1_0 g_cl11 65 (by decide) kf_X11_121 rfl dX11_deal_123 ?_
    refine lv_iload (pc := 126) hx hb dX11_deal_126 (lv_at hl 4 rfl) ?_
    refine lv_aload_n (pc := 128) hx hb dX11_deal_128 rfl (lv_at hl 0 rfl) ?_
    refine g_get (pc := 129) (v := .ref (ad 36)) hC hU hH gk1_0 g_cl11 66 (by decide) kf_X11_124 rfl dX11_deal_129 ?_
    refine lv_iload (pc := 132) hx hb dX11_deal_132 (lv_at hl 4 rfl) ?_
    obtain ⟨h115_1, hf⟩ := gc_s hf
    refine g_iald (pc := 134) hC hU hH gk1_36 gn1_36 h115_1 dX11_deal_134 ?_
    obtain ⟨h115_2, hf⟩ := gc_s hf
    refine g_iast (pc := 135) hC hU hH hS gk1_35 gn1_35 h115_2 dX11_deal_135 (fun H locs hH hS => ?_)
    refine lv_iinc (v := l4 + 1) (lv' := [(4, .int (l4 + 1)), (0, .ref (ad 0)), (1, .int a1), (2, .int a2), (3, .int l3)]) (k := 4) (pc := 136) hx hb dX11_deal_136 hl rfl rfl (by decide) rfl (fun ls hl => ?_)
    refine lv_goto (tgt := 115) (pc := 139) hx hb dX11_deal_139 (by decide) ?_
    exact hk115 hf hH hS (lv_sub hl [1, 2, 3, 4, 0] rfl)
def hX11_deal_115 (a1 : Int32) (a2 : Int32) (k53 : Int32 → gS → Option (Int32 × gS)) : Nat → Int32 → Int32 → gS → Option (Int32 × gS)
  | 0 => fun _ _ _ => none
  | n + 1 => fun l3 l4 st => fX11_deal_115 a1 a2 k53 (hX11_deal_115 a1 a2 k53 n) l3 l4 st
set_option maxRecDepth 100000 in
set_option maxHeartbeats 4000000 in
theorem wX11_deal_115 {a1 : Int32} {a2 : Int32} (hC : CallFix p m c cX11_deal 5 s args lw_good RX11) (hret : meth.sig.returnType = (some .int)) (hlk : meth.locks = false) (hU : gU 1 D cA ad s)  {r : Int32} {st' : gS} {k53 : Int32 → gS → Option (Int32 × gS)} (hk53 : ∀ {l3 : Int32} {st : gS} {H : Heap} {locs : List Loc} {ls : Array Slot}, k53 l3 st = some (r, st') → gP0 1 D cA ad st H → va_S (gA 1 ad) s.heap H locs → lv_has ls 5 [(0, .ref (ad 0)), (1, .int a1), (2, .int a2), (3, .int l3)] → W p l e (gRm 4) s m args below meth c H locs 0 0 (MQ below (gQc 1 D cA ad st' (some (.int r))) args s 0 0 (gA 1 ad)) (F0 m 53 ls [])) : ∀ (n : Nat) {l3 : Int32} {l4 : Int32} {st : gS} {H : Heap} {locs : List Loc} {ls : Array Slot}, hX11_deal_115 a1 a2 k53 n l3 l4 st = some (r, st') → gP0 1 D cA ad st H → va_S (gA 1 ad) s.heap H locs → lv_has ls 5 [(0, .ref (ad 0)), (1, .int a1), (2, .int a2), (3, .int l3), (4, .int l4)] → W p l e (gRm 4) s m args below meth c H locs 0 0 (MQ below (gQc 1 D cA ad st' (some (.int r))) args s 0 0 (gA 1 ad)) (F0 m 115 ls []) := by
  intro n
  induction n with
  | zero => intro l3 l4 st H locs ls hf hH hS hl; cases hf
  | succ n ih =>
    intro l3 l4 st H locs ls hf hH hS hl
    exact bX11_deal_115 (a1 := a1) (a2 := a2) hC hret hlk hU hk53 (fun hf hH hS hl => ih hf hH hS hl) hf hH hS hl
def fX11_deal_105 (a1 : Int32) (a2 : Int32) (k53 : Int32 → gS → Option (Int32 × gS)) (k61 : Int32 → Int32 → gS → Option (Int32 × gS)) (l3 : Int32) (l4 : Int32) (s0 : Int32) (s1 : Int32) (st : gS) : Option (Int32 × gS) :=
  gc (gI s1 16) (k61 l3 (l4 + 1) (wi st 36 s1.toNatClampNeg s0))
set_option maxRecDepth 100000 in
set_option maxHeartbeats 4000000 in
theorem bX11_deal_105 {a1 : Int32} {a2 : Int32} (hC : CallFix p m c cX11_deal 5 s args lw_good RX11) (hret : meth.sig.returnType = (some .int)) (hlk : meth.locks = false) (hU : gU 1 D cA ad s)  {r : Int32} {st' : gS} {k53 : Int32 → gS → Option (Int32 × gS)} (hk53 : ∀ {l3 : Int32} {st : gS} {H : Heap} {locs : List Loc} {ls : Array Slot}, k53 l3 st = some (r, st') → gP0 1 D cA ad st H → va_S (gA 1 ad) s.heap H locs → lv_has ls 5 [(0, .ref (ad 0)), (1, .int a1), (2, .int a2), (3, .int l3)] → W p l e (gRm 4) s m args below meth c H locs 0 0 (MQ below (gQc 1 D cA ad st' (some (.int r))) args s 0 0 (gA 1 ad)) (F0 m 53 ls [])) {k61 : Int32 → Int32 → gS → Option (Int32 × gS)} (hk61 : ∀ {l3 : Int32} {l4 : Int32} {st : gS} {H : Heap} {locs : List Loc} {ls : Array Slot}, k61 l3 l4 st = some (r, st') → gP0 1 D cA ad st H → va_S (gA 1 ad) s.heap H locs → lv_has ls 5 [(0, .ref (ad 0)), (1, .int a1), (2, .int a2), (3, .int l3), (4, .int l4)] → W p l e (gRm 4) s m args below meth c H locs 0 0 (MQ below (gQc 1 D cA ad st' (some (.int r))) args s 0 0 (gA 1 ad)) (F0 m 61 ls [])) {l3 : Int32} {l4 : Int32} {s0 : Int32} {s1 : Int32} {st : gS} {H : Heap} {locs : List Loc} {ls : Array Slot} (hf : fX11_deal_105 a1 a2 k53 k61 l3 l4 s0 s1 st = some (r, st')) (hH : gP0 1 D cA ad st H) (hS : va_S (gA 1 ad) s.heap H locs) (hl : lv_has ls 5 [(0, .ref (ad 0)), (1, .int a1), (2, .int a2), (3, .int l3), (4, .int l4)]) : W p l e (gRm 4) s m args below meth c H locs 0 0 (MQ below (gQc 1 D cA ad st' (some (.int r))) args s 0 0 (gA 1 ad)) (F0 m 105 ls [.int s0, .int s1, .ref (ad 36)]) := by
  obtain ⟨hx, hb, hml, hown, hts⟩ := id hC
  unfold fX11_deal_105 at hf
  obtain ⟨h105_1, hf⟩ := gc_s hf
  refine g_iast (pc := 105) hC hU hH hS gk1_36 gn1_36 h105_1 dX11_deal_105 (fun H locs hH hS => ?_)
  refine lv_iinc (v := l4 + 1) (lv' := [(4, .int (l4 + 1)), (0, .ref (ad 0)), (1, .int a1), (2, .int a2), (3, .int l3)]) (k := 4) (pc := 106) hx hb dX11_deal_106 hl rfl rfl (by decide) rfl (fun ls hl => ?_)
  refine lv_goto (tgt := 61) (pc := 109) hx hb dX11_deal_109 (by decide) ?_
  exact hk61 hf hH hS (lv_sub hl [1, 2, 3, 4, 0] rfl)
def fX11_deal_61 (a1 : Int32) (a2 : Int32) (k53 : Int32 → gS → Option (Int32 × gS)) (k61 : Int32 → Int32 → gS → Option (Int32 × gS)) (l3 : Int32) (l4 : Int32) (st : gS) : Option (Int32 × gS) :=
  if 16 ≤ l4 then (hX11_deal_115 a1 a2 k53 FU l3 0 st) else (if (st.1 0 48) ≤ (l4 - l4 / 8 * 8) then (fX11_deal_105 a1 a2 k53 k61 l3 l4 0 l4 st) else ((fX11_settledBy (l4 - l4 / 8 * 8) (l4 / 8) a1 st).bind fun q61_1 => (fX11_deal_105 a1 a2 k53 k61 l3 l4 q61_1.1 l4 q61_1.2)))
set_option maxRecDepth 100000 in
set_option maxHeartbeats 4000000 in
theorem bX11_deal_61 {a1 : Int32} {a2 : Int32} (hC : CallFix p m c cX11_deal 5 s args lw_good RX11) (hret : meth.sig.returnType = (some .int)) (hlk : meth.locks = false) (hU : gU 1 D cA ad s)  {r : Int32} {st' : gS} {k53 : Int32 → gS → Option (Int32 × gS)} (hk53 : ∀ {l3 : Int32} {st : gS} {H : Heap} {locs : List Loc} {ls : Array Slot}, k53 l3 st = some (r, st') → gP0 1 D cA ad st H → va_S (gA 1 ad) s.heap H locs → lv_has ls 5 [(0, .ref (ad 0)), (1, .int a1), (2, .int a2), (3, .int l3)] → W p l e (gRm 4) s m args below meth c H locs 0 0 (MQ below (gQc 1 D cA ad st' (some (.int r))) args s 0 0 (gA 1 ad)) (F0 m 53 ls [])) {k61 : Int32 → Int32 → gS → Option (Int32 × gS)} (hk61 : ∀ {l3 : Int32} {l4 : Int32} {st : gS} {H : Heap} {locs : List Loc} {ls : Array Slot}, k61 l3 l4 st = some (r, st') → gP0 1 D cA ad st H → va_S (gA 1 ad) s.heap H locs → lv_has ls 5 [(0, .ref (ad 0)), (1, .int a1), (2, .int a2), (3, .int l3), (4, .int l4)] → W p l e (gRm 4) s m args below meth c H locs 0 0 (MQ below (gQc 1 D cA ad st' (some (.int r))) args s 0 0 (gA 1 ad)) (F0 m 61 ls [])) {l3 : Int32} {l4 : Int32} {st : gS} {H : Heap} {locs : List Loc} {ls : Array Slot} (hf : fX11_deal_61 a1 a2 k53 k61 l3 l4 st = some (r, st')) (hH : gP0 1 D cA ad st H) (hS : va_S (gA 1 ad) s.heap H locs) (hl : lv_has ls 5 [(0, .ref (ad 0)), (1, .int a1), (2, .int a2), (3, .int l3), (4, .int l4)]) : W p l e (gRm 4) s m args below meth c H locs 0 0 (MQ below (gQc 1 D cA ad st' (some (.int r))) args s 0 0 (gA 1 ad)) (F0 m 61 ls []) := by
  obtain ⟨hx, hb, hml, hown, hts⟩ := id hC
  unfold fX11_deal_61 at hf
  refine lv_iload (pc := 61) hx hb dX11_deal_61 (lv_at hl 4 rfl) ?_
  refine lv_bipush (v := 16) (pc := 63) hx hb dX11_deal_63 (by decide) ?_
  refine lv_icmp_ge (tgt := 112) (pc := 65) hx hb dX11_deal_65 (by decide) (fun hc => ?_) (fun hc => ?_)
  · have hf := gif_p hc hf
    refine lv_iconst (v := 0) (pc := 112) hx hb dX11_deal_112 (by decide) ?_
    refine lv_istore (lv' := [(4, .int 0), (0, .ref (ad 0)), (1, .int a1), (2, .int a2), (3, .int l3)]) (pc := 113) hx hb dX11_deal_113 hl (by decide) rfl (fun ls hl => ?_)
    exact wX11_deal_115 hC hret hlk hU hk53 FU hf hH hS (lv_sub hl [1, 2, 3, 4, 0] rfl)
  · have hf := gif_n hc hf
    refine lv_aload_n (pc := 68) hx hb dX11_deal_68 rfl (lv_at hl 0 rfl) ?_
    refine g_get (pc := 69) (v := .ref (ad 36)) hC hU hH gk1_0 g_cl11 66 (by decide) kf_X11_124 rfl dX11_deal_69 ?_
    refine lv_iload (pc := 72) hx hb dX11_deal_72 (lv_at hl 4 rfl) ?_
    refine lv_iload (pc := 74) hx hb dX11_deal_74 (lv_at hl 4 rfl) ?_
    refine lv_bipush (v := 8) (pc := 76) hx hb dX11_deal_76 (by decide) ?_
    refine lv_irem (pc := 78) hx hb dX11_deal_78 (by decide) ?_
    refine lv_aload_n (pc := 79) hx hb dX11_deal_79 rfl (lv_at hl 0 rfl) ?_
    refine g_get (pc := 80) (v := .int (st.1 0 48)) hC hU hH gk1_0 g_cl11 48 (by decide) kf_X11_392 rfl dX11_deal_80 ?_
    refine lv_icmp_ge (tgt := 104) (pc := 83) hx hb dX11_deal_83 (by decide) (fun hc => ?_) (fun hc => ?_)
    · have hf := gif_p hc hf
      refine lv_iconst (v := 0) (pc := 104) hx hb dX11_deal_104 (by decide) ?_
      exact bX11_deal_105 hC hret hlk hU hk53 hk61 hf hH hS (lv_sub hl [0, 1, 2, 3, 4] rfl)
    · have hf := gif_n hc hf
      refine lv_aload_n (pc := 86) hx hb dX11_deal_86 rfl (lv_at hl 0 rfl) ?_
      refine lv_iload (pc := 87) hx hb dX11_deal_87 (lv_at hl 4 rfl) ?_
      refine lv_bipush (v := 8) (pc := 89) hx hb dX11_deal_89 (by decide) ?_
      refine lv_irem (pc := 91) hx hb dX11_deal_91 (by decide) ?_
      refine lv_iload (pc := 92) hx hb dX11_deal_92 (lv_at hl 4 rfl) ?_
      refine lv_bipush (v := 8) (pc := 94) hx hb dX11_deal_94 (by decide) ?_
      refine lv_idiv (pc := 96) hx hb dX11_deal_96 (by decide) ?_
      refine lv_iload_n (pc := 97) hx hb dX11_deal_97 rfl (lv_at hl 1 rfl) ?_
      obtain ⟨q61_1, hq61_1, hf⟩ := gbd hf
      refine g_callVi (pc := 98) (rest := [.int l4, .ref (ad 36)]) hC hU hH hS hl.1 gk1_0 rfl (by decide) (mX11_settledBy  hq61_1) ky_X11_settledBy km_X11_496 ⟨Nat.le_of_ble_eq_true rfl, Nat.le_of_ble_eq_true rfl⟩ ⟨Nat.zero_le _, Nat.zero_le _⟩ rfl (Nat.le_of_ble_eq_true rfl) dX11_deal_98 rfl (fun H locs hH hS => ?_)
      refine lv_goto (tgt := 105) (pc := 101) hx hb dX11_deal_101 (by decide) ?_
      exact bX11_deal_105 hC hret hlk hU hk53 hk61 hf hH hS (lv_sub hl [0, 1, 2, 3, 4] rfl)
def hX11_deal_61 (a1 : Int32) (a2 : Int32) (k53 : Int32 → gS → Option (Int32 × gS)) : Nat → Int32 → Int32 → gS → Option (Int32 × gS)
  | 0 => fun _ _ _ => none
  | n + 1 => fun l3 l4 st => fX11_deal_61 a1 a2 k53 (hX11_deal_61 a1 a2 k53 n) l3 l4 st
set_option maxRecDepth 100000 in
set_option maxHeartbeats 4000000 in
theorem wX11_deal_61 {a1 : Int32} {a2 : Int32} (hC : CallFix p m c cX11_deal 5 s args lw_good RX11) (hret : meth.sig.returnType = (some .int)) (hlk : meth.locks = false) (hU : gU 1 D cA ad s)  {r : Int32} {st' : gS} {k53 : Int32 → gS → Option (Int32 × gS)} (hk53 : ∀ {l3 : Int32} {st : gS} {H : Heap} {locs : List Loc} {ls : Array Slot}, k53 l3 st = some (r, st') → gP0 1 D cA ad st H → va_S (gA 1 ad) s.heap H locs → lv_has ls 5 [(0, .ref (ad 0)), (1, .int a1), (2, .int a2), (3, .int l3)] → W p l e (gRm 4) s m args below meth c H locs 0 0 (MQ below (gQc 1 D cA ad st' (some (.int r))) args s 0 0 (gA 1 ad)) (F0 m 53 ls [])) : ∀ (n : Nat) {l3 : Int32} {l4 : Int32} {st : gS} {H : Heap} {locs : List Loc} {ls : Array Slot}, hX11_deal_61 a1 a2 k53 n l3 l4 st = some (r, st') → gP0 1 D cA ad st H → va_S (gA 1 ad) s.heap H locs → lv_has ls 5 [(0, .ref (ad 0)), (1, .int a1), (2, .int a2), (3, .int l3), (4, .int l4)] → W p l e (gRm 4) s m args below meth c H locs 0 0 (MQ below (gQc 1 D cA ad st' (some (.int r))) args s 0 0 (gA 1 ad)) (F0 m 61 ls []) := by
  intro n
  induction n with
  | zero => intro l3 l4 st H locs ls hf hH hS hl; cases hf
  | succ n ih =>
    intro l3 l4 st H locs ls hf hH hS hl
    exact bX11_deal_61 (a1 := a1) (a2 := a2) hC hret hlk hU hk53 (fun hf hH hS hl => ih hf hH hS hl) hf hH hS hl
def fX11_deal_53 (a1 : Int32) (a2 : Int32) (k53 : Int32 → gS → Option (Int32 × gS)) (l3 : Int32) (st : gS) : Option (Int32 × gS) :=
  if a2 ≤ l3 then (gc (gI 0 18) (gc (gI (st.1 28 (0 : Int32).toNatClampNeg) 16) (some (st.1 35 (st.1 28 (0 : Int32).toNatClampNeg).toNatClampNeg, st)))) else (hX11_deal_61 a1 a2 k53 FU l3 0 st)
set_option maxRecDepth 100000 in
set_option maxHeartbeats 4000000 in
theorem bX11_deal_53 {a1 : Int32} {a2 : Int32} (hC : CallFix p m c cX11_deal 5 s args lw_good RX11) (hret : meth.sig.returnType = (some .int)) (hlk : meth.locks = false) (hU : gU 1 D cA ad s)  {r : Int32} {st' : gS} {k53 : Int32 → gS → Option (Int32 × gS)} (hk53 : ∀ {l3 : Int32} {st : gS} {H : Heap} {locs : List Loc} {ls : Array Slot}, k53 l3 st = some (r, st') → gP0 1 D cA ad st H → va_S (gA 1 ad) s.heap H locs → lv_has ls 5 [(0, .ref (ad 0)), (1, .int a1), (2, .int a2), (3, .int l3)] → W p l e (gRm 4) s m args below meth c H locs 0 0 (MQ below (gQc 1 D cA ad st' (some (.int r))) args s 0 0 (gA 1 ad)) (F0 m 53 ls [])) {l3 : Int32} {st : gS} {H : Heap} {locs : List Loc} {ls : Array Slot} (hf : fX11_deal_53 a1 a2 k53 l3 st = some (r, st')) (hH : gP0 1 D cA ad st H) (hS : va_S (gA 1 ad) s.heap H locs) (hl : lv_has ls 5 [(0, .ref (ad 0)), (1, .int a1), (2, .int a2), (3, .int l3)]) : W p l e (gRm 4) s m args below meth c H locs 0 0 (MQ below (gQc 1 D cA ad st' (some (.int r))) args s 0 0 (gA 1 ad)) (F0 m 53 ls []) := by
  obtain ⟨hx, hb, hml, hown, hts⟩ := id hC
  unfold fX11_deal_53 at hf
  refine lv_iload_n (pc := 53) hx hb dX11_deal_53 rfl (lv_at hl 3 rfl) ?_
  refine lv_iload_n (pc := 54) hx hb dX11_deal_54 rfl (lv_at hl 2 rfl) ?_
  refine lv_icmp_ge (tgt := 148) (pc := 55) hx hb dX11_deal_55 (by decide) (fun hc => ?_) (fun hc => ?_)
  · have hf := gif_p hc hf
    refine lv_aload_n (pc := 148) hx hb dX11_deal_148 rfl (lv_at hl 0 rfl) ?_
    refine g_get (pc := 149) (v := .ref (ad 35)) hC hU hH gk1_0 g_cl11 65 (by decide) kf_X11_121 rfl dX11_deal_149 ?_
    refine lv_aload_n (pc := 152) hx hb dX11_deal_152 rfl (lv_at hl 0 rfl) ?_
    refine g_get (pc := 153) (v := .ref (ad 28)) hC hU hH gk1_0 g_cl11 55 (by decide) kf_X11_100 rfl dX11_deal_153 ?_
    refine lv_iconst (v := 0) (pc := 156) hx hb dX11_deal_156 (by decide) ?_
    obtain ⟨h53_1, hf⟩ := gc_s hf
    refine g_iald (pc := 157) hC hU hH gk1_28 gn1_28 h53_1 dX11_deal_157 ?_
    obtain ⟨h53_2, hf⟩ := gc_s hf
    refine g_iald (pc := 158) hC hU hH gk1_35 gn1_35 h53_2 dX11_deal_158 ?_
    exact g_iret (pc := 159) hC hret hlk hH hS hf dX11_deal_159
  · have hf := gif_n hc hf
    refine lv_iconst (v := 0) (pc := 58) hx hb dX11_deal_58 (by decide) ?_
    refine lv_istore (lv' := [(4, .int 0), (0, .ref (ad 0)), (1, .int a1), (2, .int a2), (3, .int l3)]) (pc := 59) hx hb dX11_deal_59 hl (by decide) rfl (fun ls hl => ?_)
    exact wX11_deal_61 hC hret hlk hU hk53 FU hf hH hS (lv_sub hl [1, 2, 3, 4, 0] rfl)
def hX11_deal_53 (a1 : Int32) (a2 : Int32)  : Nat → Int32 → gS → Option (Int32 × gS)
  | 0 => fun _ _ => none
  | n + 1 => fun l3 st => fX11_deal_53 a1 a2 (hX11_deal_53 a1 a2 n) l3 st
set_option maxRecDepth 100000 in
set_option maxHeartbeats 4000000 in
theorem wX11_deal_53 {a1 : Int32} {a2 : Int32} (hC : CallFix p m c cX11_deal 5 s args lw_good RX11) (hret : meth.sig.returnType = (some .int)) (hlk : meth.locks = false) (hU : gU 1 D cA ad s)  {r : Int32} {st' : gS}  : ∀ (n : Nat) {l3 : Int32} {st : gS} {H : Heap} {locs : List Loc} {ls : Array Slot}, hX11_deal_53 a1 a2 n l3 st = some (r, st') → gP0 1 D cA ad st H → va_S (gA 1 ad) s.heap H locs → lv_has ls 5 [(0, .ref (ad 0)), (1, .int a1), (2, .int a2), (3, .int l3)] → W p l e (gRm 4) s m args below meth c H locs 0 0 (MQ below (gQc 1 D cA ad st' (some (.int r))) args s 0 0 (gA 1 ad)) (F0 m 53 ls []) := by
  intro n
  induction n with
  | zero => intro l3 st H locs ls hf hH hS hl; cases hf
  | succ n ih =>
    intro l3 st H locs ls hf hH hS hl
    exact bX11_deal_53 (a1 := a1) (a2 := a2) hC hret hlk hU (fun hf hH hS hl => ih hf hH hS hl) hf hH hS hl
def fX11_deal_29 (a1 : Int32) (a2 : Int32) (k29 : Int32 → gS → Option (Int32 × gS)) (l3 : Int32) (st : gS) : Option (Int32 × gS) :=
  if 16 ≤ l3 then (hX11_deal_53 a1 a2 FU 0 st) else (gc (gI l3 16) (k29 (l3 + 1) (wi st 35 l3.toNatClampNeg (l3 - l3 / 8 * 8))))
set_option maxRecDepth 100000 in
set_option maxHeartbeats 4000000 in
theorem bX11_deal_29 {a1 : Int32} {a2 : Int32} (hC : CallFix p m c cX11_deal 5 s args lw_good RX11) (hret : meth.sig.returnType = (some .int)) (hlk : meth.locks = false) (hU : gU 1 D cA ad s)  {r : Int32} {st' : gS} {k29 : Int32 → gS → Option (Int32 × gS)} (hk29 : ∀ {l3 : Int32} {st : gS} {H : Heap} {locs : List Loc} {ls : Array Slot}, k29 l3 st = some (r, st') → gP0 1 D cA ad st H → va_S (gA 1 ad) s.heap H locs → lv_has ls 5 [(0, .ref (ad 0)), (1, .int a1), (2, .int a2), (3, .int l3)] → W p l e (gRm 4) s m args below meth c H locs 0 0 (MQ below (gQc 1 D cA ad st' (some (.int r))) args s 0 0 (gA 1 ad)) (F0 m 29 ls [])) {l3 : Int32} {st : gS} {H : Heap} {locs : List Loc} {ls : Array Slot} (hf : fX11_deal_29 a1 a2 k29 l3 st = some (r, st')) (hH : gP0 1 D cA ad st H) (hS : va_S (gA 1 ad) s.heap H locs) (hl : lv_has ls 5 [(0, .ref (ad 0)), (1, .int a1), (2, .int a2), (3, .int l3)]) : W p l e (gRm 4) s m args below meth c H locs 0 0 (MQ below (gQc 1 D cA ad st' (some (.int r))) args s 0 0 (gA 1 ad)) (F0 m 29 ls []) := by
  obtain ⟨hx, hb, hml, hown, hts⟩ := id hC
  unfold fX11_deal_29 at hf
  refine lv_iload_n (pc := 29) hx hb dX11_deal_29 rfl (lv_at hl 3 rfl) ?_
  refine lv_bipush (v := 16) (pc := 30) hx hb dX11_deal_30 (by decide) ?_
  refine lv_icmp_ge (tgt := 51) (pc := 32) hx hb dX11_deal_32 (by decide) (fun hc => ?_) (fun hc => ?_)
  · have hf := gif_p hc hf
    refine lv_iconst (v := 0) (pc := 51) hx hb dX11_deal_51 (by decide) ?_
    refine lv_istore_n (lv' := [(3, .int 0), (0, .ref (ad 0)), (1, .int a1), (2, .int a2)]) (pc := 52) hx hb dX11_deal_52 rfl hl (by decide) rfl (fun ls hl => ?_)
    exact wX11_deal_53 hC hret hlk hU FU hf hH hS (lv_sub hl [1, 2, 3, 0] rfl)
  · have hf := gif_n hc hf
    refine lv_aload_n (pc := 35) hx hb dX11_deal_35 rfl (lv_at hl 0 rfl) ?_
    refine g_get (pc := 36) (v := .ref (ad 35)) hC hU hH gk1_0 g_cl11 65 (by decide) kf_X11_121 rfl dX11_deal_36 ?_
    refine lv_iload_n (pc := 39) hx hb dX11_deal_39 rfl (lv_at hl 3 rfl) ?_
    refine lv_iload_n (pc := 40) hx hb dX11_deal_40 rfl (lv_at hl 3 rfl) ?_
    refine lv_bipush (v := 8) (pc := 41) hx hb dX11_deal_41 (by decide) ?_
    refine lv_irem (pc := 43) hx hb dX11_deal_43 (by decide) ?_
    obtain ⟨h29_1, hf⟩ := gc_s hf
    refine g_iast (pc := 44) hC hU hH hS gk1_35 gn1_35 h29_1 dX11_deal_44 (fun H locs hH hS => ?_)
    refine lv_iinc (v := l3 + 1) (lv' := [(3, .int (l3 + 1)), (0, .ref (ad 0)), (1, .int a1), (2, .int a2)]) (k := 3) (pc := 45) hx hb dX11_deal_45 hl rfl rfl (by decide) rfl (fun ls hl => ?_)
    refine lv_goto (tgt := 29) (pc := 48) hx hb dX11_deal_48 (by decide) ?_
    exact hk29 hf hH hS (lv_sub hl [1, 2, 3, 0] rfl)
def hX11_deal_29 (a1 : Int32) (a2 : Int32)  : Nat → Int32 → gS → Option (Int32 × gS)
  | 0 => fun _ _ => none
  | n + 1 => fun l3 st => fX11_deal_29 a1 a2 (hX11_deal_29 a1 a2 n) l3 st
set_option maxRecDepth 100000 in
set_option maxHeartbeats 4000000 in
theorem wX11_deal_29 {a1 : Int32} {a2 : Int32} (hC : CallFix p m c cX11_deal 5 s args lw_good RX11) (hret : meth.sig.returnType = (some .int)) (hlk : meth.locks = false) (hU : gU 1 D cA ad s)  {r : Int32} {st' : gS}  : ∀ (n : Nat) {l3 : Int32} {st : gS} {H : Heap} {locs : List Loc} {ls : Array Slot}, hX11_deal_29 a1 a2 n l3 st = some (r, st') → gP0 1 D cA ad st H → va_S (gA 1 ad) s.heap H locs → lv_has ls 5 [(0, .ref (ad 0)), (1, .int a1), (2, .int a2), (3, .int l3)] → W p l e (gRm 4) s m args below meth c H locs 0 0 (MQ below (gQc 1 D cA ad st' (some (.int r))) args s 0 0 (gA 1 ad)) (F0 m 29 ls []) := by
  intro n
  induction n with
  | zero => intro l3 st H locs ls hf hH hS hl; cases hf
  | succ n ih =>
    intro l3 st H locs ls hf hH hS hl
    exact bX11_deal_29 (a1 := a1) (a2 := a2) hC hret hlk hU (fun hf hH hS hl => ih hf hH hS hl) hf hH hS hl
def fX11_deal (a1 : Int32) (a2 : Int32)   (st : gS) : Option (Int32 × gS) :=
  (fX11_isOther a1 st).bind fun q0_1 => (if q0_1.1 = 0 then (some ((-1), q0_1.2)) else ((fX11_isIn a2 0 8 q0_1.2).bind fun q0_2 => (if q0_2.1 = 0 then (some ((-1), q0_2.2)) else (if (q0_2.2.1 0 48) = 0 then (some ((-1), q0_2.2)) else (hX11_deal_29 a1 a2 FU 0 q0_2.2)))))
set_option maxRecDepth 100000 in
set_option maxHeartbeats 4000000 in
theorem bX11_deal_0 {a1 : Int32} {a2 : Int32} (hC : CallFix p m c cX11_deal 5 s args lw_good RX11) (hret : meth.sig.returnType = (some .int)) (hlk : meth.locks = false) (hU : gU 1 D cA ad s)  {r : Int32} {st' : gS}   {st : gS} {H : Heap} {locs : List Loc} {ls : Array Slot} (hf : fX11_deal a1 a2 st = some (r, st')) (hH : gP0 1 D cA ad st H) (hS : va_S (gA 1 ad) s.heap H locs) (hl : lv_has ls 5 [(0, .ref (ad 0)), (1, .int a1), (2, .int a2)]) : W p l e (gRm 4) s m args below meth c H locs 0 0 (MQ below (gQc 1 D cA ad st' (some (.int r))) args s 0 0 (gA 1 ad)) (F0 m 0 ls []) := by
  obtain ⟨hx, hb, hml, hown, hts⟩ := id hC
  unfold fX11_deal at hf
  refine lv_aload_n (pc := 0) hx hb dX11_deal_0 rfl (lv_at hl 0 rfl) ?_
  refine lv_iload_n (pc := 1) hx hb dX11_deal_1 rfl (lv_at hl 1 rfl) ?_
  obtain ⟨q0_1, hq0_1, hf⟩ := gbd hf
  refine g_callVi (pc := 2) (rest := []) hC hU hH hS hl.1 gk1_0 rfl (by decide) (mX11_isOther  hq0_1) ky_X11_isOther km_X11_471 ⟨Nat.le_of_ble_eq_true rfl, Nat.le_of_ble_eq_true rfl⟩ ⟨Nat.zero_le _, Nat.zero_le _⟩ rfl (Nat.le_of_ble_eq_true rfl) dX11_deal_2 rfl (fun H locs hH hS => ?_)
  refine lv_if_eq (tgt := 25) (pc := 5) hx hb dX11_deal_5 (by decide) (fun hc => ?_) (fun hc => ?_)
  · have hf := gif_p hc hf
    refine lv_iconst (v := (-1)) (pc := 25) hx hb dX11_deal_25 (by decide) ?_
    exact g_iret (pc := 26) hC hret hlk hH hS hf dX11_deal_26
  · have hf := gif_n hc hf
    refine lv_iload_n (pc := 8) hx hb dX11_deal_8 rfl (lv_at hl 2 rfl) ?_
    refine lv_iconst (v := 0) (pc := 9) hx hb dX11_deal_9 (by decide) ?_
    refine lv_bipush (v := 8) (pc := 10) hx hb dX11_deal_10 (by decide) ?_
    obtain ⟨q0_2, hq0_2, hf⟩ := gbd hf
    refine g_callSi (pc := 12) (rest := []) hC hU hH hS hl.1 (mX11_isIn  hq0_2) ky_X11_isIn km_X11_416 ⟨Nat.le_of_ble_eq_true rfl, Nat.le_of_ble_eq_true rfl⟩ ⟨Nat.zero_le _, Nat.zero_le _⟩ rfl (Nat.le_of_ble_eq_true rfl) dX11_deal_12 rfl (fun H locs hH hS => ?_)
    refine lv_if_eq (tgt := 25) (pc := 15) hx hb dX11_deal_15 (by decide) (fun hc => ?_) (fun hc => ?_)
    · have hf := gif_p hc hf
      refine lv_iconst (v := (-1)) (pc := 25) hx hb dX11_deal_25 (by decide) ?_
      exact g_iret (pc := 26) hC hret hlk hH hS hf dX11_deal_26
    · have hf := gif_n hc hf
      refine lv_aload_n (pc := 18) hx hb dX11_deal_18 rfl (lv_at hl 0 rfl) ?_
      refine g_get (pc := 19) (v := .int (q0_2.2.1 0 48)) hC hU hH gk1_0 g_cl11 48 (by decide) kf_X11_392 rfl dX11_deal_19 ?_
      refine lv_if_ne (tgt := 27) (pc := 22) hx hb dX11_deal_22 (by decide) (fun hc => ?_) (fun hc => ?_)
      · have hf := gif_n hc hf
        refine lv_iconst (v := 0) (pc := 27) hx hb dX11_deal_27 (by decide) ?_
        refine lv_istore_n (lv' := [(3, .int 0), (0, .ref (ad 0)), (1, .int a1), (2, .int a2)]) (pc := 28) hx hb dX11_deal_28 rfl hl (by decide) rfl (fun ls hl => ?_)
        exact wX11_deal_29 hC hret hlk hU FU hf hH hS (lv_sub hl [1, 2, 3, 0] rfl)
      · have hf := gif_p hc hf
        refine lv_iconst (v := (-1)) (pc := 25) hx hb dX11_deal_25 (by decide) ?_
        exact g_iret (pc := 26) hC hret hlk hH hS hf dX11_deal_26
set_option maxRecDepth 100000 in
set_option maxHeartbeats 4000000 in
theorem mX11_deal {l : Launch} {D : va_G} {cA : Nat → ClassId} {ad : Nat → Nat} {a1 : Int32} {a2 : Int32}  {r : Int32} {st st' : gS} (hf : fX11_deal a1 a2 st = some (r, st')) : gM l yX11_deal cX11_deal 5 (some .int) 4 1 D cA ad st [.ref (ad 0), .int a1, .int a2] (some (.int r)) st' := by
  refine g_met (by decide) (Nat.le_of_ble_eq_true rfl) ?_
  intro p e s m args below meth c ls hC hret hlk hU hH hl
  exact bX11_deal_0 hC hret hlk hU hf hH va_S.rf hl
def fX11_leastWorth_5 (a1 : Int32) (k5 : Int32 → Int32 → gS → Option (Int32 × gS)) (l2 : Int32) (l3 : Int32) (st : gS) : Option (Int32 × gS) :=
  if (st.1 0 49) ≤ l3 then (some (l2, st)) else ((fX11_worthOf l3 a1 st).bind fun q5_1 => (if l2 ≤ q5_1.1 then (k5 l2 (l3 + 1) q5_1.2) else ((fX11_worthOf l3 a1 q5_1.2).bind fun q5_2 => (k5 q5_2.1 (l3 + 1) q5_2.2))))
set_option maxRecDepth 100000 in
set_option maxHeartbeats 4000000 in
theorem bX11_leastWorth_5 {a1 : Int32} (hC : CallFix p m c cX11_leastWorth 4 s args lw_good RX11) (hret : meth.sig.returnType = (some .int)) (hlk : meth.locks = false) (hU : gU 1 D cA ad s)  {r : Int32} {st' : gS} {k5 : Int32 → Int32 → gS → Option (Int32 × gS)} (hk5 : ∀ {l2 : Int32} {l3 : Int32} {st : gS} {H : Heap} {locs : List Loc} {ls : Array Slot}, k5 l2 l3 st = some (r, st') → gP0 1 D cA ad st H → va_S (gA 1 ad) s.heap H locs → lv_has ls 4 [(0, .ref (ad 0)), (1, .int a1), (2, .int l2), (3, .int l3)] → W p l e (gRm 2) s m args below meth c H locs 0 0 (MQ below (gQc 1 D cA ad st' (some (.int r))) args s 0 0 (gA 1 ad)) (F0 m 5 ls [])) {l2 : Int32} {l3 : Int32} {st : gS} {H : Heap} {locs : List Loc} {ls : Array Slot} (hf : fX11_leastWorth_5 a1 k5 l2 l3 st = some (r, st')) (hH : gP0 1 D cA ad st H) (hS : va_S (gA 1 ad) s.heap H locs) (hl : lv_has ls 4 [(0, .ref (ad 0)), (1, .int a1), (2, .int l2), (3, .int l3)]) : W p l e (gRm 2) s m args below meth c H locs 0 0 (MQ below (gQc 1 D cA ad st' (some (.int r))) args s 0 0 (gA 1 ad)) (F0 m 5 ls []) := by
  obtain ⟨hx, hb, hml, hown, hts⟩ := id hC
  unfold fX11_leastWorth_5 at hf
  refine lv_iload_n (pc := 5) hx hb dX11_leastWorth_5 rfl (lv_at hl 3 rfl) ?_
  refine lv_aload_n (pc := 6) hx hb dX11_leastWorth_6 rfl (lv_at hl 0 rfl) ?_
  refine g_get (pc := 7) (v := .int (st.1 0 49)) hC hU hH gk1_0 g_cl11 49 (by decide) kf_X11_395 rfl dX11_leastWorth_7 ?_
  refine lv_icmp_ge (tgt := 40) (pc := 10) hx hb dX11_leastWorth_10 (by decide) (fun hc => ?_) (fun hc => ?_)
  · have hf := gif_p hc hf
    refine lv_iload_n (pc := 40) hx hb dX11_leastWorth_40 rfl (lv_at hl 2 rfl) ?_
    exact g_iret (pc := 41) hC hret hlk hH hS hf dX11_leastWorth_41
  · have hf := gif_n hc hf
    refine lv_aload_n (pc := 13) hx hb dX11_leastWorth_13 rfl (lv_at hl 0 rfl) ?_
    refine lv_iload_n (pc := 14) hx hb dX11_leastWorth_14 rfl (lv_at hl 3 rfl) ?_
    refine lv_iload_n (pc := 15) hx hb dX11_leastWorth_15 rfl (lv_at hl 1 rfl) ?_
    obtain ⟨q5_1, hq5_1, hf⟩ := gbd hf
    refine g_callVi (pc := 16) (rest := []) hC hU hH hS hl.1 gk1_0 rfl (by decide) (mX11_worthOf  hq5_1) ky_X11_worthOf km_X11_446 ⟨Nat.le_of_ble_eq_true rfl, Nat.le_of_ble_eq_true rfl⟩ ⟨Nat.zero_le _, Nat.zero_le _⟩ rfl (Nat.le_of_ble_eq_true rfl) dX11_leastWorth_16 rfl (fun H locs hH hS => ?_)
    refine lv_iload_n (pc := 19) hx hb dX11_leastWorth_19 rfl (lv_at hl 2 rfl) ?_
    refine lv_icmp_ge (tgt := 32) (pc := 20) hx hb dX11_leastWorth_20 (by decide) (fun hc => ?_) (fun hc => ?_)
    · have hf := gif_p hc hf
      refine lv_iload_n (pc := 32) hx hb dX11_leastWorth_32 rfl (lv_at hl 2 rfl) ?_
      refine lv_istore_n (lv' := [(2, .int l2), (0, .ref (ad 0)), (1, .int a1), (3, .int l3)]) (pc := 33) hx hb dX11_leastWorth_33 rfl hl (by decide) rfl (fun ls hl => ?_)
      refine lv_iinc (v := l3 + 1) (lv' := [(3, .int (l3 + 1)), (2, .int l2), (0, .ref (ad 0)), (1, .int a1)]) (k := 3) (pc := 34) hx hb dX11_leastWorth_34 hl rfl rfl (by decide) rfl (fun ls hl => ?_)
      refine lv_goto (tgt := 5) (pc := 37) hx hb dX11_leastWorth_37 (by decide) ?_
      exact hk5 hf hH hS (lv_sub hl [2, 3, 1, 0] rfl)
    · have hf := gif_n hc hf
      refine lv_aload_n (pc := 23) hx hb dX11_leastWorth_23 rfl (lv_at hl 0 rfl) ?_
      refine lv_iload_n (pc := 24) hx hb dX11_leastWorth_24 rfl (lv_at hl 3 rfl) ?_
      refine lv_iload_n (pc := 25) hx hb dX11_leastWorth_25 rfl (lv_at hl 1 rfl) ?_
      obtain ⟨q5_2, hq5_2, hf⟩ := gbd hf
      refine g_callVi (pc := 26) (rest := []) hC hU hH hS hl.1 gk1_0 rfl (by decide) (mX11_worthOf  hq5_2) ky_X11_worthOf km_X11_446 ⟨Nat.le_of_ble_eq_true rfl, Nat.le_of_ble_eq_true rfl⟩ ⟨Nat.zero_le _, Nat.zero_le _⟩ rfl (Nat.le_of_ble_eq_true rfl) dX11_leastWorth_26 rfl (fun H locs hH hS => ?_)
      refine lv_goto (tgt := 33) (pc := 29) hx hb dX11_leastWorth_29 (by decide) ?_
      refine lv_istore_n (lv' := [(2, .int q5_2.1), (0, .ref (ad 0)), (1, .int a1), (3, .int l3)]) (pc := 33) hx hb dX11_leastWorth_33 rfl hl (by decide) rfl (fun ls hl => ?_)
      refine lv_iinc (v := l3 + 1) (lv' := [(3, .int (l3 + 1)), (2, .int q5_2.1), (0, .ref (ad 0)), (1, .int a1)]) (k := 3) (pc := 34) hx hb dX11_leastWorth_34 hl rfl rfl (by decide) rfl (fun ls hl => ?_)
      refine lv_goto (tgt := 5) (pc := 37) hx hb dX11_leastWorth_37 (by decide) ?_
      exact hk5 hf hH hS (lv_sub hl [2, 3, 1, 0] rfl)
def hX11_leastWorth_5 (a1 : Int32)  : Nat → Int32 → Int32 → gS → Option (Int32 × gS)
  | 0 => fun _ _ _ => none
  | n + 1 => fun l2 l3 st => fX11_leastWorth_5 a1 (hX11_leastWorth_5 a1 n) l2 l3 st
set_option maxRecDepth 100000 in
set_option maxHeartbeats 4000000 in
theorem wX11_leastWorth_5 {a1 : Int32} (hC : CallFix p m c cX11_leastWorth 4 s args lw_good RX11) (hret : meth.sig.returnType = (some .int)) (hlk : meth.locks = false) (hU : gU 1 D cA ad s)  {r : Int32} {st' : gS}  : ∀ (n : Nat) {l2 : Int32} {l3 : Int32} {st : gS} {H : Heap} {locs : List Loc} {ls : Array Slot}, hX11_leastWorth_5 a1 n l2 l3 st = some (r, st') → gP0 1 D cA ad st H → va_S (gA 1 ad) s.heap H locs → lv_has ls 4 [(0, .ref (ad 0)), (1, .int a1), (2, .int l2), (3, .int l3)] → W p l e (gRm 2) s m args below meth c H locs 0 0 (MQ below (gQc 1 D cA ad st' (some (.int r))) args s 0 0 (gA 1 ad)) (F0 m 5 ls []) := by
  intro n
  induction n with
  | zero => intro l2 l3 st H locs ls hf hH hS hl; cases hf
  | succ n ih =>
    intro l2 l3 st H locs ls hf hH hS hl
    exact bX11_leastWorth_5 (a1 := a1) hC hret hlk hU (fun hf hH hS hl => ih hf hH hS hl) hf hH hS hl
def fX11_leastWorth (a1 : Int32)   (st : gS) : Option (Int32 × gS) :=
  hX11_leastWorth_5 a1 FU 99 0 st
set_option maxRecDepth 100000 in
set_option maxHeartbeats 4000000 in
theorem bX11_leastWorth_0 {a1 : Int32} (hC : CallFix p m c cX11_leastWorth 4 s args lw_good RX11) (hret : meth.sig.returnType = (some .int)) (hlk : meth.locks = false) (hU : gU 1 D cA ad s)  {r : Int32} {st' : gS}   {st : gS} {H : Heap} {locs : List Loc} {ls : Array Slot} (hf : fX11_leastWorth a1 st = some (r, st')) (hH : gP0 1 D cA ad st H) (hS : va_S (gA 1 ad) s.heap H locs) (hl : lv_has ls 4 [(0, .ref (ad 0)), (1, .int a1)]) : W p l e (gRm 2) s m args below meth c H locs 0 0 (MQ below (gQc 1 D cA ad st' (some (.int r))) args s 0 0 (gA 1 ad)) (F0 m 0 ls []) := by
  obtain ⟨hx, hb, hml, hown, hts⟩ := id hC
  unfold fX11_leastWorth at hf
  refine lv_bipush (v := 99) (pc := 0) hx hb dX11_leastWorth_0 (by decide) ?_
  refine lv_istore_n (lv' := [(2, .int 99), (0, .ref (ad 0)), (1, .int a1)]) (pc := 2) hx hb dX11_leastWorth_2 rfl hl (by decide) rfl (fun ls hl => ?_)
  refine lv_iconst (v := 0) (pc := 3) hx hb dX11_leastWorth_3 (by decide) ?_
  refine lv_istore_n (lv' := [(3, .int 0), (2, .int 99), (0, .ref (ad 0)), (1, .int a1)]) (pc := 4) hx hb dX11_leastWorth_4 rfl hl (by decide) rfl (fun ls hl => ?_)
  exact wX11_leastWorth_5 hC hret hlk hU FU hf hH hS (lv_sub hl [2, 3, 1, 0] rfl)
set_option maxRecDepth 100000 in
set_option maxHeartbeats 4000000 in
theorem mX11_leastWorth {l : Launch} {D : va_G} {cA : Nat → ClassId} {ad : Nat → Nat} {a1 : Int32}  {r : Int32} {st st' : gS} (hf : fX11_leastWorth a1 st = some (r, st')) : gM l yX11_leastWorth cX11_leastWorth 4 (some .int) 2 1 D cA ad st [.ref (ad 0), .int a1] (some (.int r)) st' := by
  refine g_met (by decide) (Nat.le_of_ble_eq_true rfl) ?_
  intro p e s m args below meth c ls hC hret hlk hU hH hl
  exact bX11_leastWorth_0 hC hret hlk hU hf hH va_S.rf hl
def fX11_allWorth_4 (a1 : Int32) (k4 : Int32 → Int32 → gS → Option (Int32 × gS)) (l2 : Int32) (l3 : Int32) (st : gS) : Option (Int32 × gS) :=
  if (st.1 0 49) ≤ l3 then (some (l2, st)) else ((fX11_worthOf l3 a1 st).bind fun q4_1 => (k4 (l2 + q4_1.1) (l3 + 1) q4_1.2))
set_option maxRecDepth 100000 in
set_option maxHeartbeats 4000000 in
theorem bX11_allWorth_4 {a1 : Int32} (hC : CallFix p m c cX11_allWorth 4 s args lw_good RX11) (hret : meth.sig.returnType = (some .int)) (hlk : meth.locks = false) (hU : gU 1 D cA ad s)  {r : Int32} {st' : gS} {k4 : Int32 → Int32 → gS → Option (Int32 × gS)} (hk4 : ∀ {l2 : Int32} {l3 : Int32} {st : gS} {H : Heap} {locs : List Loc} {ls : Array Slot}, k4 l2 l3 st = some (r, st') → gP0 1 D cA ad st H → va_S (gA 1 ad) s.heap H locs → lv_has ls 4 [(0, .ref (ad 0)), (1, .int a1), (2, .int l2), (3, .int l3)] → W p l e (gRm 2) s m args below meth c H locs 0 0 (MQ below (gQc 1 D cA ad st' (some (.int r))) args s 0 0 (gA 1 ad)) (F0 m 4 ls [])) {l2 : Int32} {l3 : Int32} {st : gS} {H : Heap} {locs : List Loc} {ls : Array Slot} (hf : fX11_allWorth_4 a1 k4 l2 l3 st = some (r, st')) (hH : gP0 1 D cA ad st H) (hS : va_S (gA 1 ad) s.heap H locs) (hl : lv_has ls 4 [(0, .ref (ad 0)), (1, .int a1), (2, .int l2), (3, .int l3)]) : W p l e (gRm 2) s m args below meth c H locs 0 0 (MQ below (gQc 1 D cA ad st' (some (.int r))) args s 0 0 (gA 1 ad)) (F0 m 4 ls []) := by
  obtain ⟨hx, hb, hml, hown, hts⟩ := id hC
  unfold fX11_allWorth_4 at hf
  refine lv_iload_n (pc := 4) hx hb dX11_allWorth_4 rfl (lv_at hl 3 rfl) ?_
  refine lv_aload_n (pc := 5) hx hb dX11_allWorth_5 rfl (lv_at hl 0 rfl) ?_
  refine g_get (pc := 6) (v := .int (st.1 0 49)) hC hU hH gk1_0 g_cl11 49 (by decide) kf_X11_395 rfl dX11_allWorth_6 ?_
  refine lv_icmp_ge (tgt := 27) (pc := 9) hx hb dX11_allWorth_9 (by decide) (fun hc => ?_) (fun hc => ?_)
  · have hf := gif_p hc hf
    refine lv_iload_n (pc := 27) hx hb dX11_allWorth_27 rfl (lv_at hl 2 rfl) ?_
    exact g_iret (pc := 28) hC hret hlk hH hS hf dX11_allWorth_28
  · have hf := gif_n hc hf
    refine lv_iload_n (pc := 12) hx hb dX11_allWorth_12 rfl (lv_at hl 2 rfl) ?_
    refine lv_aload_n (pc := 13) hx hb dX11_allWorth_13 rfl (lv_at hl 0 rfl) ?_
    refine lv_iload_n (pc := 14) hx hb dX11_allWorth_14 rfl (lv_at hl 3 rfl) ?_
    refine lv_iload_n (pc := 15) hx hb dX11_allWorth_15 rfl (lv_at hl 1 rfl) ?_
    obtain ⟨q4_1, hq4_1, hf⟩ := gbd hf
    refine g_callVi (pc := 16) (rest := [.int l2]) hC hU hH hS hl.1 gk1_0 rfl (by decide) (mX11_worthOf  hq4_1) ky_X11_worthOf km_X11_446 ⟨Nat.le_of_ble_eq_true rfl, Nat.le_of_ble_eq_true rfl⟩ ⟨Nat.zero_le _, Nat.zero_le _⟩ rfl (Nat.le_of_ble_eq_true rfl) dX11_allWorth_16 rfl (fun H locs hH hS => ?_)
    refine lv_iadd (pc := 19) hx hb dX11_allWorth_19 ?_
    refine lv_istore_n (lv' := [(2, .int (l2 + q4_1.1)), (0, .ref (ad 0)), (1, .int a1), (3, .int l3)]) (pc := 20) hx hb dX11_allWorth_20 rfl hl (by decide) rfl (fun ls hl => ?_)
    refine lv_iinc (v := l3 + 1) (lv' := [(3, .int (l3 + 1)), (2, .int (l2 + q4_1.1)), (0, .ref (ad 0)), (1, .int a1)]) (k := 3) (pc := 21) hx hb dX11_allWorth_21 hl rfl rfl (by decide) rfl (fun ls hl => ?_)
    refine lv_goto (tgt := 4) (pc := 24) hx hb dX11_allWorth_24 (by decide) ?_
    exact hk4 hf hH hS (lv_sub hl [2, 3, 1, 0] rfl)
def hX11_allWorth_4 (a1 : Int32)  : Nat → Int32 → Int32 → gS → Option (Int32 × gS)
  | 0 => fun _ _ _ => none
  | n + 1 => fun l2 l3 st => fX11_allWorth_4 a1 (hX11_allWorth_4 a1 n) l2 l3 st
set_option maxRecDepth 100000 in
set_option maxHeartbeats 4000000 in
theorem wX11_allWorth_4 {a1 : Int32} (hC : CallFix p m c cX11_allWorth 4 s args lw_good RX11) (hret : meth.sig.returnType = (some .int)) (hlk : meth.locks = false) (hU : gU 1 D cA ad s)  {r : Int32} {st' : gS}  : ∀ (n : Nat) {l2 : Int32} {l3 : Int32} {st : gS} {H : Heap} {locs : List Loc} {ls : Array Slot}, hX11_allWorth_4 a1 n l2 l3 st = some (r, st') → gP0 1 D cA ad st H → va_S (gA 1 ad) s.heap H locs → lv_has ls 4 [(0, .ref (ad 0)), (1, .int a1), (2, .int l2), (3, .int l3)] → W p l e (gRm 2) s m args below meth c H locs 0 0 (MQ below (gQc 1 D cA ad st' (some (.int r))) args s 0 0 (gA 1 ad)) (F0 m 4 ls []) := by
  intro n
  induction n with
  | zero => intro l2 l3 st H locs ls hf hH hS hl; cases hf
  | succ n ih =>
    intro l2 l3 st H locs ls hf hH hS hl
    exact bX11_allWorth_4 (a1 := a1) hC hret hlk hU (fun hf hH hS hl => ih hf hH hS hl) hf hH hS hl
def fX11_allWorth (a1 : Int32)   (st : gS) : Option (Int32 × gS) :=
  hX11_allWorth_4 a1 FU 0 0 st
set_option maxRecDepth 100000 in
set_option maxHeartbeats 4000000 in
theorem bX11_allWorth_0 {a1 : Int32} (hC : CallFix p m c cX11_allWorth 4 s args lw_good RX11) (hret : meth.sig.returnType = (some .int)) (hlk : meth.locks = false) (hU : gU 1 D cA ad s)  {r : Int32} {st' : gS}   {st : gS} {H : Heap} {locs : List Loc} {ls : Array Slot} (hf : fX11_allWorth a1 st = some (r, st')) (hH : gP0 1 D cA ad st H) (hS : va_S (gA 1 ad) s.heap H locs) (hl : lv_has ls 4 [(0, .ref (ad 0)), (1, .int a1)]) : W p l e (gRm 2) s m args below meth c H locs 0 0 (MQ below (gQc 1 D cA ad st' (some (.int r))) args s 0 0 (gA 1 ad)) (F0 m 0 ls []) := by
  obtain ⟨hx, hb, hml, hown, hts⟩ := id hC
  unfold fX11_allWorth at hf
  refine lv_iconst (v := 0) (pc := 0) hx hb dX11_allWorth_0 (by decide) ?_
  refine lv_istore_n (lv' := [(2, .int 0), (0, .ref (ad 0)), (1, .int a1)]) (pc := 1) hx hb dX11_allWorth_1 rfl hl (by decide) rfl (fun ls hl => ?_)
  refine lv_iconst (v := 0) (pc := 2) hx hb dX11_allWorth_2 (by decide) ?_
  refine lv_istore_n (lv' := [(3, .int 0), (2, .int 0), (0, .ref (ad 0)), (1, .int a1)]) (pc := 3) hx hb dX11_allWorth_3 rfl hl (by decide) rfl (fun ls hl => ?_)
  exact wX11_allWorth_4 hC hret hlk hU FU hf hH hS (lv_sub hl [2, 3, 1, 0] rfl)
set_option maxRecDepth 100000 in
set_option maxHeartbeats 4000000 in
theorem mX11_allWorth {l : Launch} {D : va_G} {cA : Nat → ClassId} {ad : Nat → Nat} {a1 : Int32}  {r : Int32} {st st' : gS} (hf : fX11_allWorth a1 st = some (r, st')) : gM l yX11_allWorth cX11_allWorth 4 (some .int) 2 1 D cA ad st [.ref (ad 0), .int a1] (some (.int r)) st' := by
  refine g_met (by decide) (Nat.le_of_ble_eq_true rfl) ?_
  intro p e s m args below meth c ls hC hret hlk hU hH hl
  exact bX11_allWorth_0 hC hret hlk hU hf hH va_S.rf hl
def fX11_fair_58  (k4 : Int32 → Int32 → gS → Option (Int32 × gS)) (l2 : Int32) (st : gS) : Option (Int32 × gS) :=
  k4 l2 (l2 + 1) st
set_option maxRecDepth 100000 in
set_option maxHeartbeats 4000000 in
theorem bX11_fair_58  (hC : CallFix p m c cX11_fair 3 s args lw_good RX11) (hret : meth.sig.returnType = (some .int)) (hlk : meth.locks = false) (hU : gU 1 D cA ad s)  {r : Int32} {st' : gS} {k4 : Int32 → Int32 → gS → Option (Int32 × gS)} (hk4 : ∀ {l1 : Int32} {l2 : Int32} {st : gS} {H : Heap} {locs : List Loc} {ls : Array Slot}, k4 l1 l2 st = some (r, st') → gP0 1 D cA ad st H → va_S (gA 1 ad) s.heap H locs → lv_has ls 3 [(0, .ref (ad 0)), (1, .int l1), (2, .int l2)] → W p l e (gRm 3) s m args below meth c H locs 0 0 (MQ below (gQc 1 D cA ad st' (some (.int r))) args s 0 0 (gA 1 ad)) (F0 m 4 ls [])) {l2 : Int32} {st : gS} {H : Heap} {locs : List Loc} {ls : Array Slot} (hf : fX11_fair_58 k4 l2 st = some (r, st')) (hH : gP0 1 D cA ad st H) (hS : va_S (gA 1 ad) s.heap H locs) (hl : lv_has ls 3 [(0, .ref (ad 0)), (2, .int l2)]) : W p l e (gRm 3) s m args below meth c H locs 0 0 (MQ below (gQc 1 D cA ad st' (some (.int r))) args s 0 0 (gA 1 ad)) (F0 m 58 ls []) := by
  obtain ⟨hx, hb, hml, hown, hts⟩ := id hC
  unfold fX11_fair_58 at hf
  refine lv_iload_n (pc := 58) hx hb dX11_fair_58 rfl (lv_at hl 1 rfl) ?_
  refine lv_istore_n (lv' := [(1, .int l2), (0, .ref (ad 0)), (2, .int l2)]) (pc := 59) hx hb dX11_fair_59 rfl hl (by decide) rfl (fun ls hl => ?_)
  refine lv_iinc (v := l2 + 1) (lv' := [(2, .int (l2 + 1)), (1, .int l2), (0, .ref (ad 0))]) (k := 2) (pc := 60) hx hb dX11_fair_60 hl rfl rfl (by decide) rfl (fun ls hl => ?_)
  refine lv_goto (tgt := 4) (pc := 63) hx hb dX11_fair_63 (by decide) ?_
  exact hk4 hf hH hS (lv_sub hl [2, 1, 0] rfl)
def fX11_fair_4  (k4 : Int32 → Int32 → gS → Option (Int32 × gS)) (l1 : Int32) (l2 : Int32) (st : gS) : Option (Int32 × gS) :=
  if (st.1 0 48) ≤ l2 then (some (l1, st)) else (if l1 < 0 then (fX11_fair_58 k4 l2 st) else ((fX11_leastWorth l2 st).bind fun q4_1 => ((fX11_leastWorth l1 q4_1.2).bind fun q4_2 => (if q4_1.1 < q4_2.1 then (k4 l1 (l2 + 1) q4_2.2) else ((fX11_leastWorth l2 q4_2.2).bind fun q4_3 => ((fX11_leastWorth l1 q4_3.2).bind fun q4_4 => (if q4_3.1 = q4_4.1 then ((fX11_allWorth l2 q4_4.2).bind fun q4_5 => ((fX11_allWorth l1 q4_5.2).bind fun q4_6 => (if q4_6.1 < q4_5.1 then (fX11_fair_58 k4 l2 q4_6.2) else (k4 l1 (l2 + 1) q4_6.2)))) else (fX11_fair_58 k4 l2 q4_4.2))))))))
set_option maxRecDepth 100000 in
set_option maxHeartbeats 4000000 in
theorem bX11_fair_4  (hC : CallFix p m c cX11_fair 3 s args lw_good RX11) (hret : meth.sig.returnType = (some .int)) (hlk : meth.locks = false) (hU : gU 1 D cA ad s)  {r : Int32} {st' : gS} {k4 : Int32 → Int32 → gS → Option (Int32 × gS)} (hk4 : ∀ {l1 : Int32} {l2 : Int32} {st : gS} {H : Heap} {locs : List Loc} {ls : Array Slot}, k4 l1 l2 st = some (r, st') → gP0 1 D cA ad st H → va_S (gA 1 ad) s.heap H locs → lv_has ls 3 [(0, .ref (ad 0)), (1, .int l1), (2, .int l2)] → W p l e (gRm 3) s m args below meth c H locs 0 0 (MQ below (gQc 1 D cA ad st' (some (.int r))) args s 0 0 (gA 1 ad)) (F0 m 4 ls [])) {l1 : Int32} {l2 : Int32} {st : gS} {H : Heap} {locs : List Loc} {ls : Array Slot} (hf : fX11_fair_4 k4 l1 l2 st = some (r, st')) (hH : gP0 1 D cA ad st H) (hS : va_S (gA 1 ad) s.heap H locs) (hl : lv_has ls 3 [(0, .ref (ad 0)), (1, .int l1), (2, .int l2)]) : W p l e (gRm 3) s m args below meth c H locs 0 0 (MQ below (gQc 1 D cA ad st' (some (.int r))) args s 0 0 (gA 1 ad)) (F0 m 4 ls []) := by
  obtain ⟨hx, hb, hml, hown, hts⟩ := id hC
  unfold fX11_fair_4 at hf
  refine lv_iload_n (pc := 4) hx hb dX11_fair_4 rfl (lv_at hl 2 rfl) ?_
  refine lv_aload_n (pc := 5) hx hb dX11_fair_5 rfl (lv_at hl 0 rfl) ?_
  refine g_get (pc := 6) (v := .int (st.1 0 48)) hC hU hH gk1_0 g_cl11 48 (by decide) kf_X11_392 rfl dX11_fair_6 ?_
  refine lv_icmp_ge (tgt := 66) (pc := 9) hx hb dX11_fair_9 (by decide) (fun hc => ?_) (fun hc => ?_)
  · have hf := gif_p hc hf
    refine lv_iload_n (pc := 66) hx hb dX11_fair_66 rfl (lv_at hl 1 rfl) ?_
    exact g_iret (pc := 67) hC hret hlk hH hS hf dX11_fair_67
  · have hf := gif_n hc hf
    refine lv_iload_n (pc := 12) hx hb dX11_fair_12 rfl (lv_at hl 1 rfl) ?_
    refine lv_if_lt (tgt := 58) (pc := 13) hx hb dX11_fair_13 (by decide) (fun hc => ?_) (fun hc => ?_)
    · have hf := gif_p hc hf
      exact bX11_fair_58 hC hret hlk hU hk4 hf hH hS (lv_sub hl [0, 2] rfl)
    · have hf := gif_n hc hf
      refine lv_aload_n (pc := 16) hx hb dX11_fair_16 rfl (lv_at hl 0 rfl) ?_
      refine lv_iload_n (pc := 17) hx hb dX11_fair_17 rfl (lv_at hl 2 rfl) ?_
      obtain ⟨q4_1, hq4_1, hf⟩ := gbd hf
      refine g_callVi (pc := 18) (rest := []) hC hU hH hS hl.1 gk1_0 rfl (by decide) (mX11_leastWorth  hq4_1) ky_X11_leastWorth km_X11_499 ⟨Nat.le_of_ble_eq_true rfl, Nat.le_of_ble_eq_true rfl⟩ ⟨Nat.zero_le _, Nat.zero_le _⟩ rfl (Nat.le_of_ble_eq_true rfl) dX11_fair_18 rfl (fun H locs hH hS => ?_)
      refine lv_aload_n (pc := 21) hx hb dX11_fair_21 rfl (lv_at hl 0 rfl) ?_
      refine lv_iload_n (pc := 22) hx hb dX11_fair_22 rfl (lv_at hl 1 rfl) ?_
      obtain ⟨q4_2, hq4_2, hf⟩ := gbd hf
      refine g_callVi (pc := 23) (rest := [.int q4_1.1]) hC hU hH hS hl.1 gk1_0 rfl (by decide) (mX11_leastWorth  hq4_2) ky_X11_leastWorth km_X11_499 ⟨Nat.le_of_ble_eq_true rfl, Nat.le_of_ble_eq_true rfl⟩ ⟨Nat.zero_le _, Nat.zero_le _⟩ rfl (Nat.le_of_ble_eq_true rfl) dX11_fair_23 rfl (fun H locs hH hS => ?_)
      refine lv_icmp_lt (tgt := 60) (pc := 26) hx hb dX11_fair_26 (by decide) (fun hc => ?_) (fun hc => ?_)
      · have hf := gif_p hc hf
        refine lv_iinc (v := l2 + 1) (lv' := [(2, .int (l2 + 1)), (0, .ref (ad 0)), (1, .int l1)]) (k := 2) (pc := 60) hx hb dX11_fair_60 hl rfl rfl (by decide) rfl (fun ls hl => ?_)
        refine lv_goto (tgt := 4) (pc := 63) hx hb dX11_fair_63 (by decide) ?_
        exact hk4 hf hH hS (lv_sub hl [1, 2, 0] rfl)
      · have hf := gif_n hc hf
        refine lv_aload_n (pc := 29) hx hb dX11_fair_29 rfl (lv_at hl 0 rfl) ?_
        refine lv_iload_n (pc := 30) hx hb dX11_fair_30 rfl (lv_at hl 2 rfl) ?_
        obtain ⟨q4_3, hq4_3, hf⟩ := gbd hf
        refine g_callVi (pc := 31) (rest := []) hC hU hH hS hl.1 gk1_0 rfl (by decide) (mX11_leastWorth  hq4_3) ky_X11_leastWorth km_X11_499 ⟨Nat.le_of_ble_eq_true rfl, Nat.le_of_ble_eq_true rfl⟩ ⟨Nat.zero_le _, Nat.zero_le _⟩ rfl (Nat.le_of_ble_eq_true rfl) dX11_fair_31 rfl (fun H locs hH hS => ?_)
        refine lv_aload_n (pc := 34) hx hb dX11_fair_34 rfl (lv_at hl 0 rfl) ?_
        refine lv_iload_n (pc := 35) hx hb dX11_fair_35 rfl (lv_at hl 1 rfl) ?_
        obtain ⟨q4_4, hq4_4, hf⟩ := gbd hf
        refine g_callVi (pc := 36) (rest := [.int q4_3.1]) hC hU hH hS hl.1 gk1_0 rfl (by decide) (mX11_leastWorth  hq4_4) ky_X11_leastWorth km_X11_499 ⟨Nat.le_of_ble_eq_true rfl, Nat.le_of_ble_eq_true rfl⟩ ⟨Nat.zero_le _, Nat.zero_le _⟩ rfl (Nat.le_of_ble_eq_true rfl) dX11_fair_36 rfl (fun H locs hH hS => ?_)
        refine lv_icmp_ne (tgt := 58) (pc := 39) hx hb dX11_fair_39 (by decide) (fun hc => ?_) (fun hc => ?_)
        · have hf := gif_n hc hf
          exact bX11_fair_58 hC hret hlk hU hk4 hf hH hS (lv_sub hl [0, 2] rfl)
        · have hf := gif_p hc hf
          refine lv_aload_n (pc := 42) hx hb dX11_fair_42 rfl (lv_at hl 0 rfl) ?_
          refine lv_iload_n (pc := 43) hx hb dX11_fair_43 rfl (lv_at hl 2 rfl) ?_
          obtain ⟨q4_5, hq4_5, hf⟩ := gbd hf
          refine g_callVi (pc := 44) (rest := []) hC hU hH hS hl.1 gk1_0 rfl (by decide) (mX11_allWorth  hq4_5) ky_X11_allWorth km_X11_502 ⟨Nat.le_of_ble_eq_true rfl, Nat.le_of_ble_eq_true rfl⟩ ⟨Nat.zero_le _, Nat.zero_le _⟩ rfl (Nat.le_of_ble_eq_true rfl) dX11_fair_44 rfl (fun H locs hH hS => ?_)
          refine lv_aload_n (pc := 47) hx hb dX11_fair_47 rfl (lv_at hl 0 rfl) ?_
          refine lv_iload_n (pc := 48) hx hb dX11_fair_48 rfl (lv_at hl 1 rfl) ?_
          obtain ⟨q4_6, hq4_6, hf⟩ := gbd hf
          refine g_callVi (pc := 49) (rest := [.int q4_5.1]) hC hU hH hS hl.1 gk1_0 rfl (by decide) (mX11_allWorth  hq4_6) ky_X11_allWorth km_X11_502 ⟨Nat.le_of_ble_eq_true rfl, Nat.le_of_ble_eq_true rfl⟩ ⟨Nat.zero_le _, Nat.zero_le _⟩ rfl (Nat.le_of_ble_eq_true rfl) dX11_fair_49 rfl (fun H locs hH hS => ?_)
          refine lv_icmp_gt (tgt := 58) (pc := 52) hx hb dX11_fair_52 (by decide) (fun hc => ?_) (fun hc => ?_)
          · have hf := gif_p hc hf
            exact bX11_fair_58 hC hret hlk hU hk4 hf hH hS (lv_sub hl [0, 2] rfl)
          · have hf := gif_n hc hf
            refine lv_goto (tgt := 60) (pc := 55) hx hb dX11_fair_55 (by decide) ?_
            refine lv_iinc (v := l2 + 1) (lv' := [(2, .int (l2 + 1)), (0, .ref (ad 0)), (1, .int l1)]) (k := 2) (pc := 60) hx hb dX11_fair_60 hl rfl rfl (by decide) rfl (fun ls hl => ?_)
            refine lv_goto (tgt := 4) (pc := 63) hx hb dX11_fair_63 (by decide) ?_
            exact hk4 hf hH hS (lv_sub hl [1, 2, 0] rfl)
def hX11_fair_4   : Nat → Int32 → Int32 → gS → Option (Int32 × gS)
  | 0 => fun _ _ _ => none
  | n + 1 => fun l1 l2 st => fX11_fair_4 (hX11_fair_4  n) l1 l2 st
set_option maxRecDepth 100000 in
set_option maxHeartbeats 4000000 in
theorem wX11_fair_4  (hC : CallFix p m c cX11_fair 3 s args lw_good RX11) (hret : meth.sig.returnType = (some .int)) (hlk : meth.locks = false) (hU : gU 1 D cA ad s)  {r : Int32} {st' : gS}  : ∀ (n : Nat) {l1 : Int32} {l2 : Int32} {st : gS} {H : Heap} {locs : List Loc} {ls : Array Slot}, hX11_fair_4  n l1 l2 st = some (r, st') → gP0 1 D cA ad st H → va_S (gA 1 ad) s.heap H locs → lv_has ls 3 [(0, .ref (ad 0)), (1, .int l1), (2, .int l2)] → W p l e (gRm 3) s m args below meth c H locs 0 0 (MQ below (gQc 1 D cA ad st' (some (.int r))) args s 0 0 (gA 1 ad)) (F0 m 4 ls []) := by
  intro n
  induction n with
  | zero => intro l1 l2 st H locs ls hf hH hS hl; cases hf
  | succ n ih =>
    intro l1 l2 st H locs ls hf hH hS hl
    exact bX11_fair_4  hC hret hlk hU (fun hf hH hS hl => ih hf hH hS hl) hf hH hS hl
def fX11_fair    (st : gS) : Option (Int32 × gS) :=
  hX11_fair_4 FU (-1) 0 st
set_option maxRecDepth 100000 in
set_option maxHeartbeats 4000000 in
theorem bX11_fair_0  (hC : CallFix p m c cX11_fair 3 s args lw_good RX11) (hret : meth.sig.returnType = (some .int)) (hlk : meth.locks = false) (hU : gU 1 D cA ad s)  {r : Int32} {st' : gS}   {st : gS} {H : Heap} {locs : List Loc} {ls : Array Slot} (hf : fX11_fair st = some (r, st')) (hH : gP0 1 D cA ad st H) (hS : va_S (gA 1 ad) s.heap H locs) (hl : lv_has ls 3 [(0, .ref (ad 0))]) : W p l e (gRm 3) s m args below meth c H locs 0 0 (MQ below (gQc 1 D cA ad st' (some (.int r))) args s 0 0 (gA 1 ad)) (F0 m 0 ls []) := by
  obtain ⟨hx, hb, hml, hown, hts⟩ := id hC
  unfold fX11_fair at hf
  refine lv_iconst (v := (-1)) (pc := 0) hx hb dX11_fair_0 (by decide) ?_
  refine lv_istore_n (lv' := [(1, .int (-1)), (0, .ref (ad 0))]) (pc := 1) hx hb dX11_fair_1 rfl hl (by decide) rfl (fun ls hl => ?_)
  refine lv_iconst (v := 0) (pc := 2) hx hb dX11_fair_2 (by decide) ?_
  refine lv_istore_n (lv' := [(2, .int 0), (1, .int (-1)), (0, .ref (ad 0))]) (pc := 3) hx hb dX11_fair_3 rfl hl (by decide) rfl (fun ls hl => ?_)
  exact wX11_fair_4 hC hret hlk hU FU hf hH hS (lv_sub hl [2, 1, 0] rfl)
set_option maxRecDepth 100000 in
set_option maxHeartbeats 4000000 in
theorem mX11_fair {l : Launch} {D : va_G} {cA : Nat → ClassId} {ad : Nat → Nat}   {r : Int32} {st st' : gS} (hf : fX11_fair  st = some (r, st')) : gM l yX11_fair cX11_fair 3 (some .int) 3 1 D cA ad st [.ref (ad 0)] (some (.int r)) st' := by
  refine g_met (by decide) (Nat.le_of_ble_eq_true rfl) ?_
  intro p e s m args below meth c ls hC hret hlk hU hH hl
  exact bX11_fair_0 hC hret hlk hU hf hH va_S.rf hl
def fX11_isBetter_56 (a1 : Int32) (a2 : Int32) (k22 : Int32 → Int32 → gS → Option (Int32 × gS)) (l4 : Int32) (st : gS) : Option (Int32 × gS) :=
  k22 0 (l4 + 1) st
set_option maxRecDepth 100000 in
set_option maxHeartbeats 4000000 in
theorem bX11_isBetter_56 {a1 : Int32} {a2 : Int32} (hC : CallFix p m c cX11_isBetter 5 s args lw_good RX11) (hret : meth.sig.returnType = (some .boolean)) (hlk : meth.locks = false) (hU : gU 1 D cA ad s)  {r : Int32} {st' : gS} {k22 : Int32 → Int32 → gS → Option (Int32 × gS)} (hk22 : ∀ {l3 : Int32} {l4 : Int32} {st : gS} {H : Heap} {locs : List Loc} {ls : Array Slot}, k22 l3 l4 st = some (r, st') → gP0 1 D cA ad st H → va_S (gA 1 ad) s.heap H locs → lv_has ls 5 [(0, .ref (ad 0)), (1, .int a1), (2, .int a2), (3, .int l3), (4, .int l4)] → W p l e (gRm 3) s m args below meth c H locs 0 0 (MQ below (gQc 1 D cA ad st' (some (.int r))) args s 0 0 (gA 1 ad)) (F0 m 22 ls [])) {l4 : Int32} {st : gS} {H : Heap} {locs : List Loc} {ls : Array Slot} (hf : fX11_isBetter_56 a1 a2 k22 l4 st = some (r, st')) (hH : gP0 1 D cA ad st H) (hS : va_S (gA 1 ad) s.heap H locs) (hl : lv_has ls 5 [(0, .ref (ad 0)), (1, .int a1), (2, .int a2), (4, .int l4)]) : W p l e (gRm 3) s m args below meth c H locs 0 0 (MQ below (gQc 1 D cA ad st' (some (.int r))) args s 0 0 (gA 1 ad)) (F0 m 56 ls []) := by
  obtain ⟨hx, hb, hml, hown, hts⟩ := id hC
  unfold fX11_isBetter_56 at hf
  refine lv_iconst (v := 0) (pc := 56) hx hb dX11_isBetter_56 (by decide) ?_
  refine lv_istore_n (lv' := [(3, .int 0), (0, .ref (ad 0)), (1, .int a1), (2, .int a2), (4, .int l4)]) (pc := 57) hx hb dX11_isBetter_57 rfl hl (by decide) rfl (fun ls hl => ?_)
  refine lv_iinc (v := l4 + 1) (lv' := [(4, .int (l4 + 1)), (3, .int 0), (0, .ref (ad 0)), (1, .int a1), (2, .int a2)]) (k := 4) (pc := 58) hx hb dX11_isBetter_58 hl rfl rfl (by decide) rfl (fun ls hl => ?_)
  refine lv_goto (tgt := 22) (pc := 61) hx hb dX11_isBetter_61 (by decide) ?_
  exact hk22 hf hH hS (lv_sub hl [2, 3, 4, 1, 0] rfl)
def fX11_isBetter_22 (a1 : Int32) (a2 : Int32) (k22 : Int32 → Int32 → gS → Option (Int32 × gS)) (l3 : Int32) (l4 : Int32) (st : gS) : Option (Int32 × gS) :=
  if (st.1 0 49) ≤ l4 then (gc (gB l3) (some (l3, st))) else (if l3 = 0 then (fX11_isBetter_56 a1 a2 k22 l4 st) else ((fX11_worthOf l4 a1 st).bind fun q22_1 => ((fX11_worthOf l4 a2 q22_1.2).bind fun q22_2 => (if q22_1.1 < q22_2.1 then (fX11_isBetter_56 a1 a2 k22 l4 q22_2.2) else (k22 1 (l4 + 1) q22_2.2)))))
set_option maxRecDepth 100000 in
set_option maxHeartbeats 4000000 in
theorem bX11_isBetter_22 {a1 : Int32} {a2 : Int32} (hC : CallFix p m c cX11_isBetter 5 s args lw_good RX11) (hret : meth.sig.returnType = (some .boolean)) (hlk : meth.locks = false) (hU : gU 1 D cA ad s)  {r : Int32} {st' : gS} {k22 : Int32 → Int32 → gS → Option (Int32 × gS)} (hk22 : ∀ {l3 : Int32} {l4 : Int32} {st : gS} {H : Heap} {locs : List Loc} {ls : Array Slot}, k22 l3 l4 st = some (r, st') → gP0 1 D cA ad st H → va_S (gA 1 ad) s.heap H locs → lv_has ls 5 [(0, .ref (ad 0)), (1, .int a1), (2, .int a2), (3, .int l3), (4, .int l4)] → W p l e (gRm 3) s m args below meth c H locs 0 0 (MQ below (gQc 1 D cA ad st' (some (.int r))) args s 0 0 (gA 1 ad)) (F0 m 22 ls [])) {l3 : Int32} {l4 : Int32} {st : gS} {H : Heap} {locs : List Loc} {ls : Array Slot} (hf : fX11_isBetter_22 a1 a2 k22 l3 l4 st = some (r, st')) (hH : gP0 1 D cA ad st H) (hS : va_S (gA 1 ad) s.heap H locs) (hl : lv_has ls 5 [(0, .ref (ad 0)), (1, .int a1), (2, .int a2), (3, .int l3), (4, .int l4)]) : W p l e (gRm 3) s m args below meth c H locs 0 0 (MQ below (gQc 1 D cA ad st' (some (.int r))) args s 0 0 (gA 1 ad)) (F0 m 22 ls []) := by
  obtain ⟨hx, hb, hml, hown, hts⟩ := id hC
  unfold fX11_isBetter_22 at hf
  refine lv_iload (pc := 22) hx hb dX11_isBetter_22 (lv_at hl 4 rfl) ?_
  refine lv_aload_n (pc := 24) hx hb dX11_isBetter_24 rfl (lv_at hl 0 rfl) ?_
  refine g_get (pc := 25) (v := .int (st.1 0 49)) hC hU hH gk1_0 g_cl11 49 (by decide) kf_X11_395 rfl dX11_isBetter_25 ?_
  refine lv_icmp_ge (tgt := 64) (pc := 28) hx hb dX11_isBetter_28 (by decide) (fun hc => ?_) (fun hc => ?_)
  · have hf := gif_p hc hf
    refine lv_iload_n (pc := 64) hx hb dX11_isBetter_64 rfl (lv_at hl 3 rfl) ?_
    obtain ⟨h22_1, hf⟩ := gc_s hf
    exact g_zret (pc := 65) hC hret hlk hH hS h22_1 hf dX11_isBetter_65
  · have hf := gif_n hc hf
    refine lv_iload_n (pc := 31) hx hb dX11_isBetter_31 rfl (lv_at hl 3 rfl) ?_
    refine lv_if_eq (tgt := 56) (pc := 32) hx hb dX11_isBetter_32 (by decide) (fun hc => ?_) (fun hc => ?_)
    · have hf := gif_p hc hf
      exact bX11_isBetter_56 hC hret hlk hU hk22 hf hH hS (lv_sub hl [0, 1, 2, 4] rfl)
    · have hf := gif_n hc hf
      refine lv_aload_n (pc := 35) hx hb dX11_isBetter_35 rfl (lv_at hl 0 rfl) ?_
      refine lv_iload (pc := 36) hx hb dX11_isBetter_36 (lv_at hl 4 rfl) ?_
      refine lv_iload_n (pc := 38) hx hb dX11_isBetter_38 rfl (lv_at hl 1 rfl) ?_
      obtain ⟨q22_1, hq22_1, hf⟩ := gbd hf
      refine g_callVi (pc := 39) (rest := []) hC hU hH hS hl.1 gk1_0 rfl (by decide) (mX11_worthOf  hq22_1) ky_X11_worthOf km_X11_446 ⟨Nat.le_of_ble_eq_true rfl, Nat.le_of_ble_eq_true rfl⟩ ⟨Nat.zero_le _, Nat.zero_le _⟩ rfl (Nat.le_of_ble_eq_true rfl) dX11_isBetter_39 rfl (fun H locs hH hS => ?_)
      refine lv_aload_n (pc := 42) hx hb dX11_isBetter_42 rfl (lv_at hl 0 rfl) ?_
      refine lv_iload (pc := 43) hx hb dX11_isBetter_43 (lv_at hl 4 rfl) ?_
      refine lv_iload_n (pc := 45) hx hb dX11_isBetter_45 rfl (lv_at hl 2 rfl) ?_
      obtain ⟨q22_2, hq22_2, hf⟩ := gbd hf
      refine g_callVi (pc := 46) (rest := [.int q22_1.1]) hC hU hH hS hl.1 gk1_0 rfl (by decide) (mX11_worthOf  hq22_2) ky_X11_worthOf km_X11_446 ⟨Nat.le_of_ble_eq_true rfl, Nat.le_of_ble_eq_true rfl⟩ ⟨Nat.zero_le _, Nat.zero_le _⟩ rfl (Nat.le_of_ble_eq_true rfl) dX11_isBetter_46 rfl (fun H locs hH hS => ?_)
      refine lv_icmp_lt (tgt := 56) (pc := 49) hx hb dX11_isBetter_49 (by decide) (fun hc => ?_) (fun hc => ?_)
      · have hf := gif_p hc hf
        exact bX11_isBetter_56 hC hret hlk hU hk22 hf hH hS (lv_sub hl [0, 1, 2, 4] rfl)
      · have hf := gif_n hc hf
        refine lv_iconst (v := 1) (pc := 52) hx hb dX11_isBetter_52 (by decide) ?_
        refine lv_goto (tgt := 57) (pc := 53) hx hb dX11_isBetter_53 (by decide) ?_
        refine lv_istore_n (lv' := [(3, .int 1), (0, .ref (ad 0)), (1, .int a1), (2, .int a2), (4, .int l4)]) (pc := 57) hx hb dX11_isBetter_57 rfl hl (by decide) rfl (fun ls hl => ?_)
        refine lv_iinc (v := l4 + 1) (lv' := [(4, .int (l4 + 1)), (3, .int 1), (0, .ref (ad 0)), (1, .int a1), (2, .int a2)]) (k := 4) (pc := 58) hx hb dX11_isBetter_58 hl rfl rfl (by decide) rfl (fun ls hl => ?_)
        refine lv_goto (tgt := 22) (pc := 61) hx hb dX11_isBetter_61 (by decide) ?_
        exact hk22 hf hH hS (lv_sub hl [2, 3, 4, 1, 0] rfl)
def hX11_isBetter_22 (a1 : Int32) (a2 : Int32)  : Nat → Int32 → Int32 → gS → Option (Int32 × gS)
  | 0 => fun _ _ _ => none
  | n + 1 => fun l3 l4 st => fX11_isBetter_22 a1 a2 (hX11_isBetter_22 a1 a2 n) l3 l4 st
set_option maxRecDepth 100000 in
set_option maxHeartbeats 4000000 in
theorem wX11_isBetter_22 {a1 : Int32} {a2 : Int32} (hC : CallFix p m c cX11_isBetter 5 s args lw_good RX11) (hret : meth.sig.returnType = (some .boolean)) (hlk : meth.locks = false) (hU : gU 1 D cA ad s)  {r : Int32} {st' : gS}  : ∀ (n : Nat) {l3 : Int32} {l4 : Int32} {st : gS} {H : Heap} {locs : List Loc} {ls : Array Slot}, hX11_isBetter_22 a1 a2 n l3 l4 st = some (r, st') → gP0 1 D cA ad st H → va_S (gA 1 ad) s.heap H locs → lv_has ls 5 [(0, .ref (ad 0)), (1, .int a1), (2, .int a2), (3, .int l3), (4, .int l4)] → W p l e (gRm 3) s m args below meth c H locs 0 0 (MQ below (gQc 1 D cA ad st' (some (.int r))) args s 0 0 (gA 1 ad)) (F0 m 22 ls []) := by
  intro n
  induction n with
  | zero => intro l3 l4 st H locs ls hf hH hS hl; cases hf
  | succ n ih =>
    intro l3 l4 st H locs ls hf hH hS hl
    exact bX11_isBetter_22 (a1 := a1) (a2 := a2) hC hret hlk hU (fun hf hH hS hl => ih hf hH hS hl) hf hH hS hl
def fX11_isBetter_18 (a1 : Int32) (a2 : Int32)  (s0 : Int32) (st : gS) : Option (Int32 × gS) :=
  hX11_isBetter_22 a1 a2 FU s0 0 st
set_option maxRecDepth 100000 in
set_option maxHeartbeats 4000000 in
theorem bX11_isBetter_18 {a1 : Int32} {a2 : Int32} (hC : CallFix p m c cX11_isBetter 5 s args lw_good RX11) (hret : meth.sig.returnType = (some .boolean)) (hlk : meth.locks = false) (hU : gU 1 D cA ad s)  {r : Int32} {st' : gS}  {s0 : Int32} {st : gS} {H : Heap} {locs : List Loc} {ls : Array Slot} (hf : fX11_isBetter_18 a1 a2 s0 st = some (r, st')) (hH : gP0 1 D cA ad st H) (hS : va_S (gA 1 ad) s.heap H locs) (hl : lv_has ls 5 [(0, .ref (ad 0)), (1, .int a1), (2, .int a2)]) : W p l e (gRm 3) s m args below meth c H locs 0 0 (MQ below (gQc 1 D cA ad st' (some (.int r))) args s 0 0 (gA 1 ad)) (F0 m 18 ls [.int s0]) := by
  obtain ⟨hx, hb, hml, hown, hts⟩ := id hC
  unfold fX11_isBetter_18 at hf
  refine lv_istore_n (lv' := [(3, .int s0), (0, .ref (ad 0)), (1, .int a1), (2, .int a2)]) (pc := 18) hx hb dX11_isBetter_18 rfl hl (by decide) rfl (fun ls hl => ?_)
  refine lv_iconst (v := 0) (pc := 19) hx hb dX11_isBetter_19 (by decide) ?_
  refine lv_istore (lv' := [(4, .int 0), (3, .int s0), (0, .ref (ad 0)), (1, .int a1), (2, .int a2)]) (pc := 20) hx hb dX11_isBetter_20 hl (by decide) rfl (fun ls hl => ?_)
  exact wX11_isBetter_22 hC hret hlk hU FU hf hH hS (lv_sub hl [2, 3, 4, 1, 0] rfl)
def fX11_isBetter (a1 : Int32) (a2 : Int32)   (st : gS) : Option (Int32 × gS) :=
  (fX11_allWorth a1 st).bind fun q0_1 => ((fX11_allWorth a2 q0_1.2).bind fun q0_2 => (if q0_1.1 ≤ q0_2.1 then (fX11_isBetter_18 a1 a2 0 q0_2.2) else (fX11_isBetter_18 a1 a2 1 q0_2.2)))
set_option maxRecDepth 100000 in
set_option maxHeartbeats 4000000 in
theorem bX11_isBetter_0 {a1 : Int32} {a2 : Int32} (hC : CallFix p m c cX11_isBetter 5 s args lw_good RX11) (hret : meth.sig.returnType = (some .boolean)) (hlk : meth.locks = false) (hU : gU 1 D cA ad s)  {r : Int32} {st' : gS}   {st : gS} {H : Heap} {locs : List Loc} {ls : Array Slot} (hf : fX11_isBetter a1 a2 st = some (r, st')) (hH : gP0 1 D cA ad st H) (hS : va_S (gA 1 ad) s.heap H locs) (hl : lv_has ls 5 [(0, .ref (ad 0)), (1, .int a1), (2, .int a2)]) : W p l e (gRm 3) s m args below meth c H locs 0 0 (MQ below (gQc 1 D cA ad st' (some (.int r))) args s 0 0 (gA 1 ad)) (F0 m 0 ls []) := by
  obtain ⟨hx, hb, hml, hown, hts⟩ := id hC
  unfold fX11_isBetter at hf
  refine lv_aload_n (pc := 0) hx hb dX11_isBetter_0 rfl (lv_at hl 0 rfl) ?_
  refine lv_iload_n (pc := 1) hx hb dX11_isBetter_1 rfl (lv_at hl 1 rfl) ?_
  obtain ⟨q0_1, hq0_1, hf⟩ := gbd hf
  refine g_callVi (pc := 2) (rest := []) hC hU hH hS hl.1 gk1_0 rfl (by decide) (mX11_allWorth  hq0_1) ky_X11_allWorth km_X11_502 ⟨Nat.le_of_ble_eq_true rfl, Nat.le_of_ble_eq_true rfl⟩ ⟨Nat.zero_le _, Nat.zero_le _⟩ rfl (Nat.le_of_ble_eq_true rfl) dX11_isBetter_2 rfl (fun H locs hH hS => ?_)
  refine lv_aload_n (pc := 5) hx hb dX11_isBetter_5 rfl (lv_at hl 0 rfl) ?_
  refine lv_iload_n (pc := 6) hx hb dX11_isBetter_6 rfl (lv_at hl 2 rfl) ?_
  obtain ⟨q0_2, hq0_2, hf⟩ := gbd hf
  refine g_callVi (pc := 7) (rest := [.int q0_1.1]) hC hU hH hS hl.1 gk1_0 rfl (by decide) (mX11_allWorth  hq0_2) ky_X11_allWorth km_X11_502 ⟨Nat.le_of_ble_eq_true rfl, Nat.le_of_ble_eq_true rfl⟩ ⟨Nat.zero_le _, Nat.zero_le _⟩ rfl (Nat.le_of_ble_eq_true rfl) dX11_isBetter_7 rfl (fun H locs hH hS => ?_)
  refine lv_icmp_le (tgt := 17) (pc := 10) hx hb dX11_isBetter_10 (by decide) (fun hc => ?_) (fun hc => ?_)
  · have hf := gif_p hc hf
    refine lv_iconst (v := 0) (pc := 17) hx hb dX11_isBetter_17 (by decide) ?_
    exact bX11_isBetter_18 hC hret hlk hU hf hH hS (lv_sub hl [0, 1, 2] rfl)
  · have hf := gif_n hc hf
    refine lv_iconst (v := 1) (pc := 13) hx hb dX11_isBetter_13 (by decide) ?_
    refine lv_goto (tgt := 18) (pc := 14) hx hb dX11_isBetter_14 (by decide) ?_
    exact bX11_isBetter_18 hC hret hlk hU hf hH hS (lv_sub hl [0, 1, 2] rfl)
set_option maxRecDepth 100000 in
set_option maxHeartbeats 4000000 in
theorem mX11_isBetter {l : Launch} {D : va_G} {cA : Nat → ClassId} {ad : Nat → Nat} {a1 : Int32} {a2 : Int32}  {r : Int32} {st st' : gS} (hf : fX11_isBetter a1 a2 st = some (r, st')) : gM l yX11_isBetter cX11_isBetter 5 (some .boolean) 3 1 D cA ad st [.ref (ad 0), .int a1, .int a2] (some (.int r)) st' := by
  refine g_met (by decide) (Nat.le_of_ble_eq_true rfl) ?_
  intro p e s m args below meth c ls hC hret hlk hU hH hl
  exact bX11_isBetter_0 hC hret hlk hU hf hH va_S.rf hl
def fX11_good_44  (k4 : Int32 → Int32 → gS → Option (Int32 × gS)) (k17 : Int32 → Int32 → Int32 → Int32 → gS → Option (Int32 × gS)) (l1 : Int32) (l2 : Int32) (l4 : Int32) (st : gS) : Option (Int32 × gS) :=
  k17 l1 l2 0 (l4 + 1) st
set_option maxRecDepth 100000 in
set_option maxHeartbeats 4000000 in
theorem bX11_good_44  (hC : CallFix p m c cX11_good 5 s args lw_good RX11) (hret : meth.sig.returnType = (some .int)) (hlk : meth.locks = false) (hU : gU 1 D cA ad s)  {r : Int32} {st' : gS} {k4 : Int32 → Int32 → gS → Option (Int32 × gS)} (hk4 : ∀ {l1 : Int32} {l2 : Int32} {st : gS} {H : Heap} {locs : List Loc} {ls : Array Slot}, k4 l1 l2 st = some (r, st') → gP0 1 D cA ad st H → va_S (gA 1 ad) s.heap H locs → lv_has ls 5 [(0, .ref (ad 0)), (1, .int l1), (2, .int l2)] → W p l e (gRm 4) s m args below meth c H locs 0 0 (MQ below (gQc 1 D cA ad st' (some (.int r))) args s 0 0 (gA 1 ad)) (F0 m 4 ls [])) {k17 : Int32 → Int32 → Int32 → Int32 → gS → Option (Int32 × gS)} (hk17 : ∀ {l1 : Int32} {l2 : Int32} {l3 : Int32} {l4 : Int32} {st : gS} {H : Heap} {locs : List Loc} {ls : Array Slot}, k17 l1 l2 l3 l4 st = some (r, st') → gP0 1 D cA ad st H → va_S (gA 1 ad) s.heap H locs → lv_has ls 5 [(0, .ref (ad 0)), (1, .int l1), (2, .int l2), (3, .int l3), (4, .int l4)] → W p l e (gRm 4) s m args below meth c H locs 0 0 (MQ below (gQc 1 D cA ad st' (some (.int r))) args s 0 0 (gA 1 ad)) (F0 m 17 ls [])) {l1 : Int32} {l2 : Int32} {l4 : Int32} {st : gS} {H : Heap} {locs : List Loc} {ls : Array Slot} (hf : fX11_good_44 k4 k17 l1 l2 l4 st = some (r, st')) (hH : gP0 1 D cA ad st H) (hS : va_S (gA 1 ad) s.heap H locs) (hl : lv_has ls 5 [(0, .ref (ad 0)), (1, .int l1), (2, .int l2), (4, .int l4)]) : W p l e (gRm 4) s m args below meth c H locs 0 0 (MQ below (gQc 1 D cA ad st' (some (.int r))) args s 0 0 (gA 1 ad)) (F0 m 44 ls []) := by
  obtain ⟨hx, hb, hml, hown, hts⟩ := id hC
  unfold fX11_good_44 at hf
  refine lv_iconst (v := 0) (pc := 44) hx hb dX11_good_44 (by decide) ?_
  refine lv_istore_n (lv' := [(3, .int 0), (0, .ref (ad 0)), (1, .int l1), (2, .int l2), (4, .int l4)]) (pc := 45) hx hb dX11_good_45 rfl hl (by decide) rfl (fun ls hl => ?_)
  refine lv_iinc (v := l4 + 1) (lv' := [(4, .int (l4 + 1)), (3, .int 0), (0, .ref (ad 0)), (1, .int l1), (2, .int l2)]) (k := 4) (pc := 46) hx hb dX11_good_46 hl rfl rfl (by decide) rfl (fun ls hl => ?_)
  refine lv_goto (tgt := 17) (pc := 49) hx hb dX11_good_49 (by decide) ?_
  exact hk17 hf hH hS (lv_sub hl [2, 3, 4, 1, 0] rfl)
def fX11_good_17  (k4 : Int32 → Int32 → gS → Option (Int32 × gS)) (k17 : Int32 → Int32 → Int32 → Int32 → gS → Option (Int32 × gS)) (l1 : Int32) (l2 : Int32) (l3 : Int32) (l4 : Int32) (st : gS) : Option (Int32 × gS) :=
  if (st.1 0 48) ≤ l4 then ((fX11_truth l3 st).bind fun q17_1 => (gl (l1 ||| (q17_1.1 <<< (l2 &&& 31))) fun x60 => (k4 x60 (l2 + 1) q17_1.2))) else (if l3 = 0 then (fX11_good_44 k4 k17 l1 l2 l4 st) else ((fX11_isBetter l4 l2 st).bind fun q17_2 => (if q17_2.1 = 0 then (k17 l1 l2 1 (l4 + 1) q17_2.2) else (fX11_good_44 k4 k17 l1 l2 l4 q17_2.2))))
set_option maxRecDepth 100000 in
set_option maxHeartbeats 4000000 in
theorem bX11_good_17  (hC : CallFix p m c cX11_good 5 s args lw_good RX11) (hret : meth.sig.returnType = (some .int)) (hlk : meth.locks = false) (hU : gU 1 D cA ad s)  {r : Int32} {st' : gS} {k4 : Int32 → Int32 → gS → Option (Int32 × gS)} (hk4 : ∀ {l1 : Int32} {l2 : Int32} {st : gS} {H : Heap} {locs : List Loc} {ls : Array Slot}, k4 l1 l2 st = some (r, st') → gP0 1 D cA ad st H → va_S (gA 1 ad) s.heap H locs → lv_has ls 5 [(0, .ref (ad 0)), (1, .int l1), (2, .int l2)] → W p l e (gRm 4) s m args below meth c H locs 0 0 (MQ below (gQc 1 D cA ad st' (some (.int r))) args s 0 0 (gA 1 ad)) (F0 m 4 ls [])) {k17 : Int32 → Int32 → Int32 → Int32 → gS → Option (Int32 × gS)} (hk17 : ∀ {l1 : Int32} {l2 : Int32} {l3 : Int32} {l4 : Int32} {st : gS} {H : Heap} {locs : List Loc} {ls : Array Slot}, k17 l1 l2 l3 l4 st = some (r, st') → gP0 1 D cA ad st H → va_S (gA 1 ad) s.heap H locs → lv_has ls 5 [(0, .ref (ad 0)), (1, .int l1), (2, .int l2), (3, .int l3), (4, .int l4)] → W p l e (gRm 4) s m args below meth c H locs 0 0 (MQ below (gQc 1 D cA ad st' (some (.int r))) args s 0 0 (gA 1 ad)) (F0 m 17 ls [])) {l1 : Int32} {l2 : Int32} {l3 : Int32} {l4 : Int32} {st : gS} {H : Heap} {locs : List Loc} {ls : Array Slot} (hf : fX11_good_17 k4 k17 l1 l2 l3 l4 st = some (r, st')) (hH : gP0 1 D cA ad st H) (hS : va_S (gA 1 ad) s.heap H locs) (hl : lv_has ls 5 [(0, .ref (ad 0)), (1, .int l1), (2, .int l2), (3, .int l3), (4, .int l4)]) : W p l e (gRm 4) s m args below meth c H locs 0 0 (MQ below (gQc 1 D cA ad st' (some (.int r))) args s 0 0 (gA 1 ad)) (F0 m 17 ls []) := by
  obtain ⟨hx, hb, hml, hown, hts⟩ := id hC
  unfold fX11_good_17 at hf
  refine lv_iload (pc := 17) hx hb dX11_good_17 (lv_at hl 4 rfl) ?_
  refine lv_aload_n (pc := 19) hx hb dX11_good_19 rfl (lv_at hl 0 rfl) ?_
  refine g_get (pc := 20) (v := .int (st.1 0 48)) hC hU hH gk1_0 g_cl11 48 (by decide) kf_X11_392 rfl dX11_good_20 ?_
  refine lv_icmp_ge (tgt := 52) (pc := 23) hx hb dX11_good_23 (by decide) (fun hc => ?_) (fun hc => ?_)
  · have hf := gif_p hc hf
    refine lv_iload_n (pc := 52) hx hb dX11_good_52 rfl (lv_at hl 1 rfl) ?_
    refine lv_iload_n (pc := 53) hx hb dX11_good_53 rfl (lv_at hl 3 rfl) ?_
    obtain ⟨q17_1, hq17_1, hf⟩ := gbd hf
    refine g_callSi (pc := 54) (rest := [.int l1]) hC hU hH hS hl.1 (mX11_truth  hq17_1) ky_X11_truth km_X11_325 ⟨Nat.le_of_ble_eq_true rfl, Nat.le_of_ble_eq_true rfl⟩ ⟨Nat.zero_le _, Nat.zero_le _⟩ rfl (Nat.le_of_ble_eq_true rfl) dX11_good_54 rfl (fun H locs hH hS => ?_)
    refine lv_iload_n (pc := 57) hx hb dX11_good_57 rfl (lv_at hl 2 rfl) ?_
    refine lv_ishl (pc := 58) hx hb dX11_good_58 ?_
    refine lv_ior (pc := 59) hx hb dX11_good_59 ?_
    refine lv_topi (pc := 60) (fun x60 ex60 => ?_)
    have hf := gl_s ex60 hf
    refine lv_istore_n (lv' := [(1, .int x60), (0, .ref (ad 0)), (2, .int l2), (3, .int l3), (4, .int l4)]) (pc := 60) hx hb dX11_good_60 rfl hl (by decide) rfl (fun ls hl => ?_)
    refine lv_iinc (v := l2 + 1) (lv' := [(2, .int (l2 + 1)), (1, .int x60), (0, .ref (ad 0)), (3, .int l3), (4, .int l4)]) (k := 2) (pc := 61) hx hb dX11_good_61 hl rfl rfl (by decide) rfl (fun ls hl => ?_)
    refine lv_goto (tgt := 4) (pc := 64) hx hb dX11_good_64 (by decide) ?_
    exact hk4 hf hH hS (lv_sub hl [2, 1, 0] rfl)
  · have hf := gif_n hc hf
    refine lv_iload_n (pc := 26) hx hb dX11_good_26 rfl (lv_at hl 3 rfl) ?_
    refine lv_if_eq (tgt := 44) (pc := 27) hx hb dX11_good_27 (by decide) (fun hc => ?_) (fun hc => ?_)
    · have hf := gif_p hc hf
      exact bX11_good_44 hC hret hlk hU hk4 hk17 hf hH hS (lv_sub hl [0, 1, 2, 4] rfl)
    · have hf := gif_n hc hf
      refine lv_aload_n (pc := 30) hx hb dX11_good_30 rfl (lv_at hl 0 rfl) ?_
      refine lv_iload (pc := 31) hx hb dX11_good_31 (lv_at hl 4 rfl) ?_
      refine lv_iload_n (pc := 33) hx hb dX11_good_33 rfl (lv_at hl 2 rfl) ?_
      obtain ⟨q17_2, hq17_2, hf⟩ := gbd hf
      refine g_callVi (pc := 34) (rest := []) hC hU hH hS hl.1 gk1_0 rfl (by decide) (mX11_isBetter  hq17_2) ky_X11_isBetter km_X11_505 ⟨Nat.le_of_ble_eq_true rfl, Nat.le_of_ble_eq_true rfl⟩ ⟨Nat.zero_le _, Nat.zero_le _⟩ rfl (Nat.le_of_ble_eq_true rfl) dX11_good_34 rfl (fun H locs hH hS => ?_)
      refine lv_if_ne (tgt := 44) (pc := 37) hx hb dX11_good_37 (by decide) (fun hc => ?_) (fun hc => ?_)
      · have hf := gif_n hc hf
        exact bX11_good_44 hC hret hlk hU hk4 hk17 hf hH hS (lv_sub hl [0, 1, 2, 4] rfl)
      · have hf := gif_p hc hf
        refine lv_iconst (v := 1) (pc := 40) hx hb dX11_good_40 (by decide) ?_
        refine lv_goto (tgt := 45) (pc := 41) hx hb dX11_good_41 (by decide) ?_
        refine lv_istore_n (lv' := [(3, .int 1), (0, .ref (ad 0)), (1, .int l1), (2, .int l2), (4, .int l4)]) (pc := 45) hx hb dX11_good_45 rfl hl (by decide) rfl (fun ls hl => ?_)
        refine lv_iinc (v := l4 + 1) (lv' := [(4, .int (l4 + 1)), (3, .int 1), (0, .ref (ad 0)), (1, .int l1), (2, .int l2)]) (k := 4) (pc := 46) hx hb dX11_good_46 hl rfl rfl (by decide) rfl (fun ls hl => ?_)
        refine lv_goto (tgt := 17) (pc := 49) hx hb dX11_good_49 (by decide) ?_
        exact hk17 hf hH hS (lv_sub hl [2, 3, 4, 1, 0] rfl)
def hX11_good_17  (k4 : Int32 → Int32 → gS → Option (Int32 × gS)) : Nat → Int32 → Int32 → Int32 → Int32 → gS → Option (Int32 × gS)
  | 0 => fun _ _ _ _ _ => none
  | n + 1 => fun l1 l2 l3 l4 st => fX11_good_17 k4 (hX11_good_17 k4 n) l1 l2 l3 l4 st
set_option maxRecDepth 100000 in
set_option maxHeartbeats 4000000 in
theorem wX11_good_17  (hC : CallFix p m c cX11_good 5 s args lw_good RX11) (hret : meth.sig.returnType = (some .int)) (hlk : meth.locks = false) (hU : gU 1 D cA ad s)  {r : Int32} {st' : gS} {k4 : Int32 → Int32 → gS → Option (Int32 × gS)} (hk4 : ∀ {l1 : Int32} {l2 : Int32} {st : gS} {H : Heap} {locs : List Loc} {ls : Array Slot}, k4 l1 l2 st = some (r, st') → gP0 1 D cA ad st H → va_S (gA 1 ad) s.heap H locs → lv_has ls 5 [(0, .ref (ad 0)), (1, .int l1), (2, .int l2)] → W p l e (gRm 4) s m args below meth c H locs 0 0 (MQ below (gQc 1 D cA ad st' (some (.int r))) args s 0 0 (gA 1 ad)) (F0 m 4 ls [])) : ∀ (n : Nat) {l1 : Int32} {l2 : Int32} {l3 : Int32} {l4 : Int32} {st : gS} {H : Heap} {locs : List Loc} {ls : Array Slot}, hX11_good_17 k4 n l1 l2 l3 l4 st = some (r, st') → gP0 1 D cA ad st H → va_S (gA 1 ad) s.heap H locs → lv_has ls 5 [(0, .ref (ad 0)), (1, .int l1), (2, .int l2), (3, .int l3), (4, .int l4)] → W p l e (gRm 4) s m args below meth c H locs 0 0 (MQ below (gQc 1 D cA ad st' (some (.int r))) args s 0 0 (gA 1 ad)) (F0 m 17 ls []) := by
  intro n
  induction n with
  | zero => intro l1 l2 l3 l4 st H locs ls hf hH hS hl; cases hf
  | succ n ih =>
    intro l1 l2 l3 l4 st H locs ls hf hH hS hl
    exact bX11_good_17  hC hret hlk hU hk4 (fun hf hH hS hl => ih hf hH hS hl) hf hH hS hl
def fX11_good_4  (k4 : Int32 → Int32 → gS → Option (Int32 × gS)) (l1 : Int32) (l2 : Int32) (st : gS) : Option (Int32 × gS) :=
  if (st.1 0 48) ≤ l2 then (some (l1, st)) else (hX11_good_17 k4 FU l1 l2 1 0 st)
set_option maxRecDepth 100000 in
set_option maxHeartbeats 4000000 in
theorem bX11_good_4  (hC : CallFix p m c cX11_good 5 s args lw_good RX11) (hret : meth.sig.returnType = (some .int)) (hlk : meth.locks = false) (hU : gU 1 D cA ad s)  {r : Int32} {st' : gS} {k4 : Int32 → Int32 → gS → Option (Int32 × gS)} (hk4 : ∀ {l1 : Int32} {l2 : Int32} {st : gS} {H : Heap} {locs : List Loc} {ls : Array Slot}, k4 l1 l2 st = some (r, st') → gP0 1 D cA ad st H → va_S (gA 1 ad) s.heap H locs → lv_has ls 5 [(0, .ref (ad 0)), (1, .int l1), (2, .int l2)] → W p l e (gRm 4) s m args below meth c H locs 0 0 (MQ below (gQc 1 D cA ad st' (some (.int r))) args s 0 0 (gA 1 ad)) (F0 m 4 ls [])) {l1 : Int32} {l2 : Int32} {st : gS} {H : Heap} {locs : List Loc} {ls : Array Slot} (hf : fX11_good_4 k4 l1 l2 st = some (r, st')) (hH : gP0 1 D cA ad st H) (hS : va_S (gA 1 ad) s.heap H locs) (hl : lv_has ls 5 [(0, .ref (ad 0)), (1, .int l1), (2, .int l2)]) : W p l e (gRm 4) s m args below meth c H locs 0 0 (MQ below (gQc 1 D cA ad st' (some (.int r))) args s 0 0 (gA 1 ad)) (F0 m 4 ls []) := by
  obtain ⟨hx, hb, hml, hown, hts⟩ := id hC
  unfold fX11_good_4 at hf
  refine lv_iload_n (pc := 4) hx hb dX11_good_4 rfl (lv_at hl 2 rfl) ?_
  refine lv_aload_n (pc := 5) hx hb dX11_good_5 rfl (lv_at hl 0 rfl) ?_
  refine g_get (pc := 6) (v := .int (st.1 0 48)) hC hU hH gk1_0 g_cl11 48 (by decide) kf_X11_392 rfl dX11_good_6 ?_
  refine lv_icmp_ge (tgt := 67) (pc := 9) hx hb dX11_good_9 (by decide) (fun hc => ?_) (fun hc => ?_)
  · have hf := gif_p hc hf
    refine lv_iload_n (pc := 67) hx hb dX11_good_67 rfl (lv_at hl 1 rfl) ?_
    exact g_iret (pc := 68) hC hret hlk hH hS hf dX11_good_68
  · have hf := gif_n hc hf
    refine lv_iconst (v := 1) (pc := 12) hx hb dX11_good_12 (by decide) ?_
    refine lv_istore_n (lv' := [(3, .int 1), (0, .ref (ad 0)), (1, .int l1), (2, .int l2)]) (pc := 13) hx hb dX11_good_13 rfl hl (by decide) rfl (fun ls hl => ?_)
    refine lv_iconst (v := 0) (pc := 14) hx hb dX11_good_14 (by decide) ?_
    refine lv_istore (lv' := [(4, .int 0), (3, .int 1), (0, .ref (ad 0)), (1, .int l1), (2, .int l2)]) (pc := 15) hx hb dX11_good_15 hl (by decide) rfl (fun ls hl => ?_)
    exact wX11_good_17 hC hret hlk hU hk4 FU hf hH hS (lv_sub hl [2, 3, 4, 1, 0] rfl)
def hX11_good_4   : Nat → Int32 → Int32 → gS → Option (Int32 × gS)
  | 0 => fun _ _ _ => none
  | n + 1 => fun l1 l2 st => fX11_good_4 (hX11_good_4  n) l1 l2 st
set_option maxRecDepth 100000 in
set_option maxHeartbeats 4000000 in
theorem wX11_good_4  (hC : CallFix p m c cX11_good 5 s args lw_good RX11) (hret : meth.sig.returnType = (some .int)) (hlk : meth.locks = false) (hU : gU 1 D cA ad s)  {r : Int32} {st' : gS}  : ∀ (n : Nat) {l1 : Int32} {l2 : Int32} {st : gS} {H : Heap} {locs : List Loc} {ls : Array Slot}, hX11_good_4  n l1 l2 st = some (r, st') → gP0 1 D cA ad st H → va_S (gA 1 ad) s.heap H locs → lv_has ls 5 [(0, .ref (ad 0)), (1, .int l1), (2, .int l2)] → W p l e (gRm 4) s m args below meth c H locs 0 0 (MQ below (gQc 1 D cA ad st' (some (.int r))) args s 0 0 (gA 1 ad)) (F0 m 4 ls []) := by
  intro n
  induction n with
  | zero => intro l1 l2 st H locs ls hf hH hS hl; cases hf
  | succ n ih =>
    intro l1 l2 st H locs ls hf hH hS hl
    exact bX11_good_4  hC hret hlk hU (fun hf hH hS hl => ih hf hH hS hl) hf hH hS hl
def fX11_good    (st : gS) : Option (Int32 × gS) :=
  hX11_good_4 FU 0 0 st
set_option maxRecDepth 100000 in
set_option maxHeartbeats 4000000 in
theorem bX11_good_0  (hC : CallFix p m c cX11_good 5 s args lw_good RX11) (hret : meth.sig.returnType = (some .int)) (hlk : meth.locks = false) (hU : gU 1 D cA ad s)  {r : Int32} {st' : gS}   {st : gS} {H : Heap} {locs : List Loc} {ls : Array Slot} (hf : fX11_good st = some (r, st')) (hH : gP0 1 D cA ad st H) (hS : va_S (gA 1 ad) s.heap H locs) (hl : lv_has ls 5 [(0, .ref (ad 0))]) : W p l e (gRm 4) s m args below meth c H locs 0 0 (MQ below (gQc 1 D cA ad st' (some (.int r))) args s 0 0 (gA 1 ad)) (F0 m 0 ls []) := by
  obtain ⟨hx, hb, hml, hown, hts⟩ := id hC
  unfold fX11_good at hf
  refine lv_iconst (v := 0) (pc := 0) hx hb dX11_good_0 (by decide) ?_
  refine lv_istore_n (lv' := [(1, .int 0), (0, .ref (ad 0))]) (pc := 1) hx hb dX11_good_1 rfl hl (by decide) rfl (fun ls hl => ?_)
  refine lv_iconst (v := 0) (pc := 2) hx hb dX11_good_2 (by decide) ?_
  refine lv_istore_n (lv' := [(2, .int 0), (1, .int 0), (0, .ref (ad 0))]) (pc := 3) hx hb dX11_good_3 rfl hl (by decide) rfl (fun ls hl => ?_)
  exact wX11_good_4 hC hret hlk hU FU hf hH hS (lv_sub hl [2, 1, 0] rfl)
set_option maxRecDepth 100000 in
set_option maxHeartbeats 4000000 in
theorem mX11_good {l : Launch} {D : va_G} {cA : Nat → ClassId} {ad : Nat → Nat}   {r : Int32} {st st' : gS} (hf : fX11_good  st = some (r, st')) : gM l yX11_good cX11_good 5 (some .int) 4 1 D cA ad st [.ref (ad 0)] (some (.int r)) st' := by
  refine g_met (by decide) (Nat.le_of_ble_eq_true rfl) ?_
  intro p e s m args below meth c ls hC hret hlk hU hH hl
  exact bX11_good_0 hC hret hlk hU hf hH va_S.rf hl
def fX11_onFrom_4 (a1 : Int32) (k4 : Int32 → Int32 → gS → Option (Int32 × gS)) (l2 : Int32) (l3 : Int32) (st : gS) : Option (Int32 × gS) :=
  if (st.1 0 50) ≤ l3 then (some (l2, st)) else (gc (gI l3 16) (if ((a1 >>> ((st.1 21 l3.toNatClampNeg) &&& 31)) &&& 1) = 1 then ((fX11_whoCan l3 st).bind fun q4_1 => (if q4_1.1 = 0 then (k4 l2 (l3 + 1) q4_1.2) else (gc (gI l3 16) (gl (l2 ||| (1 <<< ((q4_1.2.1 22 l3.toNatClampNeg) &&& 31))) fun x44 => (k4 x44 (l3 + 1) q4_1.2))))) else (k4 l2 (l3 + 1) st)))
set_option maxRecDepth 100000 in
set_option maxHeartbeats 4000000 in
theorem bX11_onFrom_4 {a1 : Int32} (hC : CallFix p m c cX11_onFrom 4 s args lw_good RX11) (hret : meth.sig.returnType = (some .int)) (hlk : meth.locks = false) (hU : gU 1 D cA ad s)  {r : Int32} {st' : gS} {k4 : Int32 → Int32 → gS → Option (Int32 × gS)} (hk4 : ∀ {l2 : Int32} {l3 : Int32} {st : gS} {H : Heap} {locs : List Loc} {ls : Array Slot}, k4 l2 l3 st = some (r, st') → gP0 1 D cA ad st H → va_S (gA 1 ad) s.heap H locs → lv_has ls 4 [(0, .ref (ad 0)), (1, .int a1), (2, .int l2), (3, .int l3)] → W p l e (gRm 4) s m args below meth c H locs 0 0 (MQ below (gQc 1 D cA ad st' (some (.int r))) args s 0 0 (gA 1 ad)) (F0 m 4 ls [])) {l2 : Int32} {l3 : Int32} {st : gS} {H : Heap} {locs : List Loc} {ls : Array Slot} (hf : fX11_onFrom_4 a1 k4 l2 l3 st = some (r, st')) (hH : gP0 1 D cA ad st H) (hS : va_S (gA 1 ad) s.heap H locs) (hl : lv_has ls 4 [(0, .ref (ad 0)), (1, .int a1), (2, .int l2), (3, .int l3)]) : W p l e (gRm 4) s m args below meth c H locs 0 0 (MQ below (gQc 1 D cA ad st' (some (.int r))) args s 0 0 (gA 1 ad)) (F0 m 4 ls []) := by
  obtain ⟨hx, hb, hml, hown, hts⟩ := id hC
  unfold fX11_onFrom_4 at hf
  refine lv_iload_n (pc := 4) hx hb dX11_onFrom_4 rfl (lv_at hl 3 rfl) ?_
  refine lv_aload_n (pc := 5) hx hb dX11_onFrom_5 rfl (lv_at hl 0 rfl) ?_
  refine g_get (pc := 6) (v := .int (st.1 0 50)) hC hU hH gk1_0 g_cl11 50 (by decide) kf_X11_398 rfl dX11_onFrom_6 ?_
  refine lv_icmp_ge (tgt := 51) (pc := 9) hx hb dX11_onFrom_9 (by decide) (fun hc => ?_) (fun hc => ?_)
  · have hf := gif_p hc hf
    refine lv_iload_n (pc := 51) hx hb dX11_onFrom_51 rfl (lv_at hl 2 rfl) ?_
    exact g_iret (pc := 52) hC hret hlk hH hS hf dX11_onFrom_52
  · have hf := gif_n hc hf
    refine lv_iload_n (pc := 12) hx hb dX11_onFrom_12 rfl (lv_at hl 1 rfl) ?_
    refine lv_aload_n (pc := 13) hx hb dX11_onFrom_13 rfl (lv_at hl 0 rfl) ?_
    refine g_get (pc := 14) (v := .ref (ad 21)) hC hU hH gk1_0 g_cl11 36 (by decide) kf_X11_75 rfl dX11_onFrom_14 ?_
    refine lv_iload_n (pc := 17) hx hb dX11_onFrom_17 rfl (lv_at hl 3 rfl) ?_
    obtain ⟨h4_1, hf⟩ := gc_s hf
    refine g_iald (pc := 18) hC hU hH gk1_21 gn1_21 h4_1 dX11_onFrom_18 ?_
    refine lv_ishr (pc := 19) hx hb dX11_onFrom_19 ?_
    refine lv_iconst (v := 1) (pc := 20) hx hb dX11_onFrom_20 (by decide) ?_
    refine lv_iand (pc := 21) hx hb dX11_onFrom_21 ?_
    refine lv_iconst (v := 1) (pc := 22) hx hb dX11_onFrom_22 (by decide) ?_
    refine lv_icmp_ne (tgt := 45) (pc := 23) hx hb dX11_onFrom_23 (by decide) (fun hc => ?_) (fun hc => ?_)
    · have hf := gif_n hc hf
      refine lv_iinc (v := l3 + 1) (lv' := [(3, .int (l3 + 1)), (0, .ref (ad 0)), (1, .int a1), (2, .int l2)]) (k := 3) (pc := 45) hx hb dX11_onFrom_45 hl rfl rfl (by decide) rfl (fun ls hl => ?_)
      refine lv_goto (tgt := 4) (pc := 48) hx hb dX11_onFrom_48 (by decide) ?_
      exact hk4 hf hH hS (lv_sub hl [1, 2, 3, 0] rfl)
    · have hf := gif_p hc hf
      refine lv_aload_n (pc := 26) hx hb dX11_onFrom_26 rfl (lv_at hl 0 rfl) ?_
      refine lv_iload_n (pc := 27) hx hb dX11_onFrom_27 rfl (lv_at hl 3 rfl) ?_
      obtain ⟨q4_1, hq4_1, hf⟩ := gbd hf
      refine g_callVi (pc := 28) (rest := []) hC hU hH hS hl.1 gk1_0 rfl (by decide) (mX11_whoCan  hq4_1) ky_X11_whoCan km_X11_440 ⟨Nat.le_of_ble_eq_true rfl, Nat.le_of_ble_eq_true rfl⟩ ⟨Nat.zero_le _, Nat.zero_le _⟩ rfl (Nat.le_of_ble_eq_true rfl) dX11_onFrom_28 rfl (fun H locs hH hS => ?_)
      refine lv_if_eq (tgt := 45) (pc := 31) hx hb dX11_onFrom_31 (by decide) (fun hc => ?_) (fun hc => ?_)
      · have hf := gif_p hc hf
        refine lv_iinc (v := l3 + 1) (lv' := [(3, .int (l3 + 1)), (0, .ref (ad 0)), (1, .int a1), (2, .int l2)]) (k := 3) (pc := 45) hx hb dX11_onFrom_45 hl rfl rfl (by decide) rfl (fun ls hl => ?_)
        refine lv_goto (tgt := 4) (pc := 48) hx hb dX11_onFrom_48 (by decide) ?_
        exact hk4 hf hH hS (lv_sub hl [1, 2, 3, 0] rfl)
      · have hf := gif_n hc hf
        refine lv_iload_n (pc := 34) hx hb dX11_onFrom_34 rfl (lv_at hl 2 rfl) ?_
        refine lv_iconst (v := 1) (pc := 35) hx hb dX11_onFrom_35 (by decide) ?_
        refine lv_aload_n (pc := 36) hx hb dX11_onFrom_36 rfl (lv_at hl 0 rfl) ?_
        refine g_get (pc := 37) (v := .ref (ad 22)) hC hU hH gk1_0 g_cl11 37 (by decide) kf_X11_78 rfl dX11_onFrom_37 ?_
        refine lv_iload_n (pc := 40) hx hb dX11_onFrom_40 rfl (lv_at hl 3 rfl) ?_
        obtain ⟨h4_2, hf⟩ := gc_s hf
        refine g_iald (pc := 41) hC hU hH gk1_22 gn1_22 h4_2 dX11_onFrom_41 ?_
        refine lv_ishl (pc := 42) hx hb dX11_onFrom_42 ?_
        refine lv_ior (pc := 43) hx hb dX11_onFrom_43 ?_
        refine lv_topi (pc := 44) (fun x44 ex44 => ?_)
        have hf := gl_s ex44 hf
        refine lv_istore_n (lv' := [(2, .int x44), (0, .ref (ad 0)), (1, .int a1), (3, .int l3)]) (pc := 44) hx hb dX11_onFrom_44 rfl hl (by decide) rfl (fun ls hl => ?_)
        refine lv_iinc (v := l3 + 1) (lv' := [(3, .int (l3 + 1)), (2, .int x44), (0, .ref (ad 0)), (1, .int a1)]) (k := 3) (pc := 45) hx hb dX11_onFrom_45 hl rfl rfl (by decide) rfl (fun ls hl => ?_)
        refine lv_goto (tgt := 4) (pc := 48) hx hb dX11_onFrom_48 (by decide) ?_
        exact hk4 hf hH hS (lv_sub hl [2, 3, 1, 0] rfl)
def hX11_onFrom_4 (a1 : Int32)  : Nat → Int32 → Int32 → gS → Option (Int32 × gS)
  | 0 => fun _ _ _ => none
  | n + 1 => fun l2 l3 st => fX11_onFrom_4 a1 (hX11_onFrom_4 a1 n) l2 l3 st
set_option maxRecDepth 100000 in
set_option maxHeartbeats 4000000 in
theorem wX11_onFrom_4 {a1 : Int32} (hC : CallFix p m c cX11_onFrom 4 s args lw_good RX11) (hret : meth.sig.returnType = (some .int)) (hlk : meth.locks = false) (hU : gU 1 D cA ad s)  {r : Int32} {st' : gS}  : ∀ (n : Nat) {l2 : Int32} {l3 : Int32} {st : gS} {H : Heap} {locs : List Loc} {ls : Array Slot}, hX11_onFrom_4 a1 n l2 l3 st = some (r, st') → gP0 1 D cA ad st H → va_S (gA 1 ad) s.heap H locs → lv_has ls 4 [(0, .ref (ad 0)), (1, .int a1), (2, .int l2), (3, .int l3)] → W p l e (gRm 4) s m args below meth c H locs 0 0 (MQ below (gQc 1 D cA ad st' (some (.int r))) args s 0 0 (gA 1 ad)) (F0 m 4 ls []) := by
  intro n
  induction n with
  | zero => intro l2 l3 st H locs ls hf hH hS hl; cases hf
  | succ n ih =>
    intro l2 l3 st H locs ls hf hH hS hl
    exact bX11_onFrom_4 (a1 := a1) hC hret hlk hU (fun hf hH hS hl => ih hf hH hS hl) hf hH hS hl
def fX11_onFrom (a1 : Int32)   (st : gS) : Option (Int32 × gS) :=
  hX11_onFrom_4 a1 FU 0 0 st
set_option maxRecDepth 100000 in
set_option maxHeartbeats 4000000 in
theorem bX11_onFrom_0 {a1 : Int32} (hC : CallFix p m c cX11_onFrom 4 s args lw_good RX11) (hret : meth.sig.returnType = (some .int)) (hlk : meth.locks = false) (hU : gU 1 D cA ad s)  {r : Int32} {st' : gS}   {st : gS} {H : Heap} {locs : List Loc} {ls : Array Slot} (hf : fX11_onFrom a1 st = some (r, st')) (hH : gP0 1 D cA ad st H) (hS : va_S (gA 1 ad) s.heap H locs) (hl : lv_has ls 4 [(0, .ref (ad 0)), (1, .int a1)]) : W p l e (gRm 4) s m args below meth c H locs 0 0 (MQ below (gQc 1 D cA ad st' (some (.int r))) args s 0 0 (gA 1 ad)) (F0 m 0 ls []) := by
  obtain ⟨hx, hb, hml, hown, hts⟩ := id hC
  unfold fX11_onFrom at hf
  refine lv_iconst (v := 0) (pc := 0) hx hb dX11_onFrom_0 (by decide) ?_
  refine lv_istore_n (lv' := [(2, .int 0), (0, .ref (ad 0)), (1, .int a1)]) (pc := 1) hx hb dX11_onFrom_1 rfl hl (by decide) rfl (fun ls hl => ?_)
  refine lv_iconst (v := 0) (pc := 2) hx hb dX11_onFrom_2 (by decide) ?_
  refine lv_istore_n (lv' := [(3, .int 0), (2, .int 0), (0, .ref (ad 0)), (1, .int a1)]) (pc := 3) hx hb dX11_onFrom_3 rfl hl (by decide) rfl (fun ls hl => ?_)
  exact wX11_onFrom_4 hC hret hlk hU FU hf hH hS (lv_sub hl [2, 3, 1, 0] rfl)
set_option maxRecDepth 100000 in
set_option maxHeartbeats 4000000 in
theorem mX11_onFrom {l : Launch} {D : va_G} {cA : Nat → ClassId} {ad : Nat → Nat} {a1 : Int32}  {r : Int32} {st st' : gS} (hf : fX11_onFrom a1 st = some (r, st')) : gM l yX11_onFrom cX11_onFrom 4 (some .int) 4 1 D cA ad st [.ref (ad 0), .int a1] (some (.int r)) st' := by
  refine g_met (by decide) (Nat.le_of_ble_eq_true rfl) ?_
  intro p e s m args below meth c ls hC hret hlk hU hH hl
  exact bX11_onFrom_0 hC hret hlk hU hf hH va_S.rf hl
def fX11_round_16 (a1 : Int32) (k16 : Int32 → Int32 → gS → Option (Int32 × gS)) (l2 : Int32) (l3 : Int32) (st : gS) : Option (Int32 × gS) :=
  if 8 < l3 then (some ((-1), st)) else ((fX11_onFrom l2 st).bind fun q16_1 => (if ((q16_1.1 >>> (a1 &&& 31)) &&& 1) = 1 then (some (l3, q16_1.2)) else (k16 q16_1.1 (l3 + 1) q16_1.2)))
set_option maxRecDepth 100000 in
set_option maxHeartbeats 4000000 in
theorem bX11_round_16 {a1 : Int32} (hC : CallFix p m c cX11_round 4 s args lw_good RX11) (hret : meth.sig.returnType = (some .int)) (hlk : meth.locks = false) (hU : gU 1 D cA ad s)  {r : Int32} {st' : gS} {k16 : Int32 → Int32 → gS → Option (Int32 × gS)} (hk16 : ∀ {l2 : Int32} {l3 : Int32} {st : gS} {H : Heap} {locs : List Loc} {ls : Array Slot}, k16 l2 l3 st = some (r, st') → gP0 1 D cA ad st H → va_S (gA 1 ad) s.heap H locs → lv_has ls 4 [(0, .ref (ad 0)), (1, .int a1), (2, .int l2), (3, .int l3)] → W p l e (gRm 5) s m args below meth c H locs 0 0 (MQ below (gQc 1 D cA ad st' (some (.int r))) args s 0 0 (gA 1 ad)) (F0 m 16 ls [])) {l2 : Int32} {l3 : Int32} {st : gS} {H : Heap} {locs : List Loc} {ls : Array Slot} (hf : fX11_round_16 a1 k16 l2 l3 st = some (r, st')) (hH : gP0 1 D cA ad st H) (hS : va_S (gA 1 ad) s.heap H locs) (hl : lv_has ls 4 [(0, .ref (ad 0)), (1, .int a1), (2, .int l2), (3, .int l3)]) : W p l e (gRm 5) s m args below meth c H locs 0 0 (MQ below (gQc 1 D cA ad st' (some (.int r))) args s 0 0 (gA 1 ad)) (F0 m 16 ls []) := by
  obtain ⟨hx, hb, hml, hown, hts⟩ := id hC
  unfold fX11_round_16 at hf
  refine lv_iload_n (pc := 16) hx hb dX11_round_16 rfl (lv_at hl 3 rfl) ?_
  refine lv_bipush (v := 8) (pc := 17) hx hb dX11_round_17 (by decide) ?_
  refine lv_icmp_gt (tgt := 45) (pc := 19) hx hb dX11_round_19 (by decide) (fun hc => ?_) (fun hc => ?_)
  · have hf := gif_p hc hf
    refine lv_iconst (v := (-1)) (pc := 45) hx hb dX11_round_45 (by decide) ?_
    exact g_iret (pc := 46) hC hret hlk hH hS hf dX11_round_46
  · have hf := gif_n hc hf
    refine lv_aload_n (pc := 22) hx hb dX11_round_22 rfl (lv_at hl 0 rfl) ?_
    refine lv_iload_n (pc := 23) hx hb dX11_round_23 rfl (lv_at hl 2 rfl) ?_
    obtain ⟨q16_1, hq16_1, hf⟩ := gbd hf
    refine g_callVi (pc := 24) (rest := []) hC hU hH hS hl.1 gk1_0 rfl (by decide) (mX11_onFrom  hq16_1) ky_X11_onFrom km_X11_508 ⟨Nat.le_of_ble_eq_true rfl, Nat.le_of_ble_eq_true rfl⟩ ⟨Nat.zero_le _, Nat.zero_le _⟩ rfl (Nat.le_of_ble_eq_true rfl) dX11_round_24 rfl (fun H locs hH hS => ?_)
    refine lv_istore_n (lv' := [(2, .int q16_1.1), (0, .ref (ad 0)), (1, .int a1), (3, .int l3)]) (pc := 27) hx hb dX11_round_27 rfl hl (by decide) rfl (fun ls hl => ?_)
    refine lv_iload_n (pc := 28) hx hb dX11_round_28 rfl (lv_at hl 0 rfl) ?_
    refine lv_iload_n (pc := 29) hx hb dX11_round_29 rfl (lv_at hl 2 rfl) ?_
    refine lv_ishr (pc := 30) hx hb dX11_round_30 ?_
    refine lv_iconst (v := 1) (pc := 31) hx hb dX11_round_31 (by decide) ?_
    refine lv_iand (pc := 32) hx hb dX11_round_32 ?_
    refine lv_iconst (v := 1) (pc := 33) hx hb dX11_round_33 (by decide) ?_
    refine lv_icmp_ne (tgt := 39) (pc := 34) hx hb dX11_round_34 (by decide) (fun hc => ?_) (fun hc => ?_)
    · have hf := gif_n hc hf
      refine lv_iinc (v := l3 + 1) (lv' := [(3, .int (l3 + 1)), (2, .int q16_1.1), (0, .ref (ad 0)), (1, .int a1)]) (k := 3) (pc := 39) hx hb dX11_round_39 hl rfl rfl (by decide) rfl (fun ls hl => ?_)
      refine lv_goto (tgt := 16) (pc := 42) hx hb dX11_round_42 (by decide) ?_
      exact hk16 hf hH hS (lv_sub hl [2, 3, 1, 0] rfl)
    · have hf := gif_p hc hf
      refine lv_iload_n (pc := 37) hx hb dX11_round_37 rfl (lv_at hl 3 rfl) ?_
      exact g_iret (pc := 38) hC hret hlk hH hS hf dX11_round_38
def hX11_round_16 (a1 : Int32)  : Nat → Int32 → Int32 → gS → Option (Int32 × gS)
  | 0 => fun _ _ _ => none
  | n + 1 => fun l2 l3 st => fX11_round_16 a1 (hX11_round_16 a1 n) l2 l3 st
set_option maxRecDepth 100000 in
set_option maxHeartbeats 4000000 in
theorem wX11_round_16 {a1 : Int32} (hC : CallFix p m c cX11_round 4 s args lw_good RX11) (hret : meth.sig.returnType = (some .int)) (hlk : meth.locks = false) (hU : gU 1 D cA ad s)  {r : Int32} {st' : gS}  : ∀ (n : Nat) {l2 : Int32} {l3 : Int32} {st : gS} {H : Heap} {locs : List Loc} {ls : Array Slot}, hX11_round_16 a1 n l2 l3 st = some (r, st') → gP0 1 D cA ad st H → va_S (gA 1 ad) s.heap H locs → lv_has ls 4 [(0, .ref (ad 0)), (1, .int a1), (2, .int l2), (3, .int l3)] → W p l e (gRm 5) s m args below meth c H locs 0 0 (MQ below (gQc 1 D cA ad st' (some (.int r))) args s 0 0 (gA 1 ad)) (F0 m 16 ls []) := by
  intro n
  induction n with
  | zero => intro l2 l3 st H locs ls hf hH hS hl; cases hf
  | succ n ih =>
    intro l2 l3 st H locs ls hf hH hS hl
    exact bX11_round_16 (a1 := a1) hC hret hlk hU (fun hf hH hS hl => ih hf hH hS hl) hf hH hS hl
def fX11_round (a1 : Int32)   (st : gS) : Option (Int32 × gS) :=
  (fX11_isFigure a1 st).bind fun q0_1 => (if q0_1.1 = 0 then (some ((-1), q0_1.2)) else (gl (1 <<< (a1 &&& 31)) fun x13 => (hX11_round_16 a1 FU x13 1 q0_1.2)))
set_option maxRecDepth 100000 in
set_option maxHeartbeats 4000000 in
theorem bX11_round_0 {a1 : Int32} (hC : CallFix p m c cX11_round 4 s args lw_good RX11) (hret : meth.sig.returnType = (some .int)) (hlk : meth.locks = false) (hU : gU 1 D cA ad s)  {r : Int32} {st' : gS}   {st : gS} {H : Heap} {locs : List Loc} {ls : Array Slot} (hf : fX11_round a1 st = some (r, st')) (hH : gP0 1 D cA ad st H) (hS : va_S (gA 1 ad) s.heap H locs) (hl : lv_has ls 4 [(0, .ref (ad 0)), (1, .int a1)]) : W p l e (gRm 5) s m args below meth c H locs 0 0 (MQ below (gQc 1 D cA ad st' (some (.int r))) args s 0 0 (gA 1 ad)) (F0 m 0 ls []) := by
  obtain ⟨hx, hb, hml, hown, hts⟩ := id hC
  unfold fX11_round at hf
  refine lv_aload_n (pc := 0) hx hb dX11_round_0 rfl (lv_at hl 0 rfl) ?_
  refine lv_iload_n (pc := 1) hx hb dX11_round_1 rfl (lv_at hl 1 rfl) ?_
  obtain ⟨q0_1, hq0_1, hf⟩ := gbd hf
  refine g_callVi (pc := 2) (rest := []) hC hU hH hS hl.1 gk1_0 rfl (by decide) (mX11_isFigure  hq0_1) ky_X11_isFigure km_X11_443 ⟨Nat.le_of_ble_eq_true rfl, Nat.le_of_ble_eq_true rfl⟩ ⟨Nat.zero_le _, Nat.zero_le _⟩ rfl (Nat.le_of_ble_eq_true rfl) dX11_round_2 rfl (fun H locs hH hS => ?_)
  refine lv_if_ne (tgt := 10) (pc := 5) hx hb dX11_round_5 (by decide) (fun hc => ?_) (fun hc => ?_)
  · have hf := gif_n hc hf
    refine lv_iconst (v := 1) (pc := 10) hx hb dX11_round_10 (by decide) ?_
    refine lv_iload_n (pc := 11) hx hb dX11_round_11 rfl (lv_at hl 1 rfl) ?_
    refine lv_ishl (pc := 12) hx hb dX11_round_12 ?_
    refine lv_topi (pc := 13) (fun x13 ex13 => ?_)
    have hf := gl_s ex13 hf
    refine lv_istore_n (lv' := [(2, .int x13), (0, .ref (ad 0)), (1, .int a1)]) (pc := 13) hx hb dX11_round_13 rfl hl (by decide) rfl (fun ls hl => ?_)
    refine lv_iconst (v := 1) (pc := 14) hx hb dX11_round_14 (by decide) ?_
    refine lv_istore_n (lv' := [(3, .int 1), (2, .int x13), (0, .ref (ad 0)), (1, .int a1)]) (pc := 15) hx hb dX11_round_15 rfl hl (by decide) rfl (fun ls hl => ?_)
    exact wX11_round_16 hC hret hlk hU FU hf hH hS (lv_sub hl [2, 3, 1, 0] rfl)
  · have hf := gif_p hc hf
    refine lv_iconst (v := (-1)) (pc := 8) hx hb dX11_round_8 (by decide) ?_
    exact g_iret (pc := 9) hC hret hlk hH hS hf dX11_round_9
set_option maxRecDepth 100000 in
set_option maxHeartbeats 4000000 in
theorem mX11_round {l : Launch} {D : va_G} {cA : Nat → ClassId} {ad : Nat → Nat} {a1 : Int32}  {r : Int32} {st st' : gS} (hf : fX11_round a1 st = some (r, st')) : gM l yX11_round cX11_round 4 (some .int) 5 1 D cA ad st [.ref (ad 0), .int a1] (some (.int r)) st' := by
  refine g_met (by decide) (Nat.le_of_ble_eq_true rfl) ?_
  intro p e s m args below meth c ls hC hret hlk hU hH hl
  exact bX11_round_0 hC hret hlk hU hf hH va_S.rf hl
def fX11_near_34 (a1 : Int32) (k34 : Int32 → Int32 → gS → Option (Int32 × gS)) (l2 : Int32) (l3 : Int32) (st : gS) : Option (Int32 × gS) :=
  if a1 ≤ l3 then (some (l2, st)) else ((fX11_onFrom l2 st).bind fun q34_1 => (k34 q34_1.1 (l3 + 1) q34_1.2))
set_option maxRecDepth 100000 in
set_option maxHeartbeats 4000000 in
theorem bX11_near_34 {a1 : Int32} (hC : CallFix p m c cX11_near 4 s args lw_good RX11) (hret : meth.sig.returnType = (some .int)) (hlk : meth.locks = false) (hU : gU 1 D cA ad s)  {r : Int32} {st' : gS} {k34 : Int32 → Int32 → gS → Option (Int32 × gS)} (hk34 : ∀ {l2 : Int32} {l3 : Int32} {st : gS} {H : Heap} {locs : List Loc} {ls : Array Slot}, k34 l2 l3 st = some (r, st') → gP0 1 D cA ad st H → va_S (gA 1 ad) s.heap H locs → lv_has ls 4 [(0, .ref (ad 0)), (1, .int a1), (2, .int l2), (3, .int l3)] → W p l e (gRm 5) s m args below meth c H locs 0 0 (MQ below (gQc 1 D cA ad st' (some (.int r))) args s 0 0 (gA 1 ad)) (F0 m 34 ls [])) {l2 : Int32} {l3 : Int32} {st : gS} {H : Heap} {locs : List Loc} {ls : Array Slot} (hf : fX11_near_34 a1 k34 l2 l3 st = some (r, st')) (hH : gP0 1 D cA ad st H) (hS : va_S (gA 1 ad) s.heap H locs) (hl : lv_has ls 4 [(0, .ref (ad 0)), (1, .int a1), (2, .int l2), (3, .int l3)]) : W p l e (gRm 5) s m args below meth c H locs 0 0 (MQ below (gQc 1 D cA ad st' (some (.int r))) args s 0 0 (gA 1 ad)) (F0 m 34 ls []) := by
  obtain ⟨hx, hb, hml, hown, hts⟩ := id hC
  unfold fX11_near_34 at hf
  refine lv_iload_n (pc := 34) hx hb dX11_near_34 rfl (lv_at hl 3 rfl) ?_
  refine lv_iload_n (pc := 35) hx hb dX11_near_35 rfl (lv_at hl 1 rfl) ?_
  refine lv_icmp_ge (tgt := 51) (pc := 36) hx hb dX11_near_36 (by decide) (fun hc => ?_) (fun hc => ?_)
  · have hf := gif_p hc hf
    refine lv_iload_n (pc := 51) hx hb dX11_near_51 rfl (lv_at hl 2 rfl) ?_
    exact g_iret (pc := 52) hC hret hlk hH hS hf dX11_near_52
  · have hf := gif_n hc hf
    refine lv_aload_n (pc := 39) hx hb dX11_near_39 rfl (lv_at hl 0 rfl) ?_
    refine lv_iload_n (pc := 40) hx hb dX11_near_40 rfl (lv_at hl 2 rfl) ?_
    obtain ⟨q34_1, hq34_1, hf⟩ := gbd hf
    refine g_callVi (pc := 41) (rest := []) hC hU hH hS hl.1 gk1_0 rfl (by decide) (mX11_onFrom  hq34_1) ky_X11_onFrom km_X11_508 ⟨Nat.le_of_ble_eq_true rfl, Nat.le_of_ble_eq_true rfl⟩ ⟨Nat.zero_le _, Nat.zero_le _⟩ rfl (Nat.le_of_ble_eq_true rfl) dX11_near_41 rfl (fun H locs hH hS => ?_)
    refine lv_istore_n (lv' := [(2, .int q34_1.1), (0, .ref (ad 0)), (1, .int a1), (3, .int l3)]) (pc := 44) hx hb dX11_near_44 rfl hl (by decide) rfl (fun ls hl => ?_)
    refine lv_iinc (v := l3 + 1) (lv' := [(3, .int (l3 + 1)), (2, .int q34_1.1), (0, .ref (ad 0)), (1, .int a1)]) (k := 3) (pc := 45) hx hb dX11_near_45 hl rfl rfl (by decide) rfl (fun ls hl => ?_)
    refine lv_goto (tgt := 34) (pc := 48) hx hb dX11_near_48 (by decide) ?_
    exact hk34 hf hH hS (lv_sub hl [2, 3, 1, 0] rfl)
def hX11_near_34 (a1 : Int32)  : Nat → Int32 → Int32 → gS → Option (Int32 × gS)
  | 0 => fun _ _ _ => none
  | n + 1 => fun l2 l3 st => fX11_near_34 a1 (hX11_near_34 a1 n) l2 l3 st
set_option maxRecDepth 100000 in
set_option maxHeartbeats 4000000 in
theorem wX11_near_34 {a1 : Int32} (hC : CallFix p m c cX11_near 4 s args lw_good RX11) (hret : meth.sig.returnType = (some .int)) (hlk : meth.locks = false) (hU : gU 1 D cA ad s)  {r : Int32} {st' : gS}  : ∀ (n : Nat) {l2 : Int32} {l3 : Int32} {st : gS} {H : Heap} {locs : List Loc} {ls : Array Slot}, hX11_near_34 a1 n l2 l3 st = some (r, st') → gP0 1 D cA ad st H → va_S (gA 1 ad) s.heap H locs → lv_has ls 4 [(0, .ref (ad 0)), (1, .int a1), (2, .int l2), (3, .int l3)] → W p l e (gRm 5) s m args below meth c H locs 0 0 (MQ below (gQc 1 D cA ad st' (some (.int r))) args s 0 0 (gA 1 ad)) (F0 m 34 ls []) := by
  intro n
  induction n with
  | zero => intro l2 l3 st H locs ls hf hH hS hl; cases hf
  | succ n ih =>
    intro l2 l3 st H locs ls hf hH hS hl
    exact bX11_near_34 (a1 := a1) hC hret hlk hU (fun hf hH hS hl => ih hf hH hS hl) hf hH hS hl
def fX11_near_31 (a1 : Int32)  (s0 : Int32) (st : gS) : Option (Int32 × gS) :=
  hX11_near_34 a1 FU s0 0 st
set_option maxRecDepth 100000 in
set_option maxHeartbeats 4000000 in
theorem bX11_near_31 {a1 : Int32} (hC : CallFix p m c cX11_near 4 s args lw_good RX11) (hret : meth.sig.returnType = (some .int)) (hlk : meth.locks = false) (hU : gU 1 D cA ad s)  {r : Int32} {st' : gS}  {s0 : Int32} {st : gS} {H : Heap} {locs : List Loc} {ls : Array Slot} (hf : fX11_near_31 a1 s0 st = some (r, st')) (hH : gP0 1 D cA ad st H) (hS : va_S (gA 1 ad) s.heap H locs) (hl : lv_has ls 4 [(0, .ref (ad 0)), (1, .int a1)]) : W p l e (gRm 5) s m args below meth c H locs 0 0 (MQ below (gQc 1 D cA ad st' (some (.int r))) args s 0 0 (gA 1 ad)) (F0 m 31 ls [.int s0]) := by
  obtain ⟨hx, hb, hml, hown, hts⟩ := id hC
  unfold fX11_near_31 at hf
  refine lv_istore_n (lv' := [(2, .int s0), (0, .ref (ad 0)), (1, .int a1)]) (pc := 31) hx hb dX11_near_31 rfl hl (by decide) rfl (fun ls hl => ?_)
  refine lv_iconst (v := 0) (pc := 32) hx hb dX11_near_32 (by decide) ?_
  refine lv_istore_n (lv' := [(3, .int 0), (2, .int s0), (0, .ref (ad 0)), (1, .int a1)]) (pc := 33) hx hb dX11_near_33 rfl hl (by decide) rfl (fun ls hl => ?_)
  exact wX11_near_34 hC hret hlk hU FU hf hH hS (lv_sub hl [2, 3, 1, 0] rfl)
def fX11_near (a1 : Int32)   (st : gS) : Option (Int32 × gS) :=
  (fX11_isIn a1 0 8 st).bind fun q0_1 => (if q0_1.1 = 0 then (some ((-1), q0_1.2)) else (if (q0_1.2.1 0 48) = 0 then (fX11_near_31 a1 0 q0_1.2) else (gc (gI 0 18) (fX11_near_31 a1 (1 <<< ((q0_1.2.1 28 (0 : Int32).toNatClampNeg) &&& 31)) q0_1.2))))
set_option maxRecDepth 100000 in
set_option maxHeartbeats 4000000 in
theorem bX11_near_0 {a1 : Int32} (hC : CallFix p m c cX11_near 4 s args lw_good RX11) (hret : meth.sig.returnType = (some .int)) (hlk : meth.locks = false) (hU : gU 1 D cA ad s)  {r : Int32} {st' : gS}   {st : gS} {H : Heap} {locs : List Loc} {ls : Array Slot} (hf : fX11_near a1 st = some (r, st')) (hH : gP0 1 D cA ad st H) (hS : va_S (gA 1 ad) s.heap H locs) (hl : lv_has ls 4 [(0, .ref (ad 0)), (1, .int a1)]) : W p l e (gRm 5) s m args below meth c H locs 0 0 (MQ below (gQc 1 D cA ad st' (some (.int r))) args s 0 0 (gA 1 ad)) (F0 m 0 ls []) := by
  obtain ⟨hx, hb, hml, hown, hts⟩ := id hC
  unfold fX11_near at hf
  refine lv_iload_n (pc := 0) hx hb dX11_near_0 rfl (lv_at hl 1 rfl) ?_
  refine lv_iconst (v := 0) (pc := 1) hx hb dX11_near_1 (by decide) ?_
  refine lv_bipush (v := 8) (pc := 2) hx hb dX11_near_2 (by decide) ?_
  obtain ⟨q0_1, hq0_1, hf⟩ := gbd hf
  refine g_callSi (pc := 4) (rest := []) hC hU hH hS hl.1 (mX11_isIn  hq0_1) ky_X11_isIn km_X11_416 ⟨Nat.le_of_ble_eq_true rfl, Nat.le_of_ble_eq_true rfl⟩ ⟨Nat.zero_le _, Nat.zero_le _⟩ rfl (Nat.le_of_ble_eq_true rfl) dX11_near_4 rfl (fun H locs hH hS => ?_)
  refine lv_if_ne (tgt := 12) (pc := 7) hx hb dX11_near_7 (by decide) (fun hc => ?_) (fun hc => ?_)
  · have hf := gif_n hc hf
    refine lv_aload_n (pc := 12) hx hb dX11_near_12 rfl (lv_at hl 0 rfl) ?_
    refine g_get (pc := 13) (v := .int (q0_1.2.1 0 48)) hC hU hH gk1_0 g_cl11 48 (by decide) kf_X11_392 rfl dX11_near_13 ?_
    refine lv_if_ne (tgt := 23) (pc := 16) hx hb dX11_near_16 (by decide) (fun hc => ?_) (fun hc => ?_)
    · have hf := gif_n hc hf
      refine lv_iconst (v := 1) (pc := 23) hx hb dX11_near_23 (by decide) ?_
      refine lv_aload_n (pc := 24) hx hb dX11_near_24 rfl (lv_at hl 0 rfl) ?_
      refine g_get (pc := 25) (v := .ref (ad 28)) hC hU hH gk1_0 g_cl11 55 (by decide) kf_X11_100 rfl dX11_near_25 ?_
      refine lv_iconst (v := 0) (pc := 28) hx hb dX11_near_28 (by decide) ?_
      obtain ⟨h0_1, hf⟩ := gc_s hf
      refine g_iald (pc := 29) hC hU hH gk1_28 gn1_28 h0_1 dX11_near_29 ?_
      refine lv_ishl (pc := 30) hx hb dX11_near_30 ?_
      exact bX11_near_31 hC hret hlk hU hf hH hS (lv_sub hl [0, 1] rfl)
    · have hf := gif_p hc hf
      refine lv_iconst (v := 0) (pc := 19) hx hb dX11_near_19 (by decide) ?_
      refine lv_goto (tgt := 31) (pc := 20) hx hb dX11_near_20 (by decide) ?_
      exact bX11_near_31 hC hret hlk hU hf hH hS (lv_sub hl [0, 1] rfl)
  · have hf := gif_p hc hf
    refine lv_iconst (v := (-1)) (pc := 10) hx hb dX11_near_10 (by decide) ?_
    exact g_iret (pc := 11) hC hret hlk hH hS hf dX11_near_11
set_option maxRecDepth 100000 in
set_option maxHeartbeats 4000000 in
theorem mX11_near {l : Launch} {D : va_G} {cA : Nat → ClassId} {ad : Nat → Nat} {a1 : Int32}  {r : Int32} {st st' : gS} (hf : fX11_near a1 st = some (r, st')) : gM l yX11_near cX11_near 4 (some .int) 5 1 D cA ad st [.ref (ad 0), .int a1] (some (.int r)) st' := by
  refine g_met (by decide) (Nat.le_of_ble_eq_true rfl) ?_
  intro p e s m args below meth c ls hC hret hlk hU hH hl
  exact bX11_near_0 hC hret hlk hU hf hH va_S.rf hl
def fX11_both (a1 : Int32) (a2 : Int32)   (st : gS) : Option (Int32 × gS) :=
  (fX11_isTribe a1 st).bind fun q0_1 => (if q0_1.1 = 0 then (some ((-1), q0_1.2)) else ((fX11_isTribe a2 q0_1.2).bind fun q0_2 => (if q0_2.1 = 0 then (some ((-1), q0_2.2)) else ((fX11_movesOf a1 (-2) q0_2.2).bind fun q0_3 => ((fX11_movesOf a2 (-2) q0_3.2).bind fun q0_4 => (some (q0_3.1 &&& q0_4.1, q0_4.2)))))))
set_option maxRecDepth 100000 in
set_option maxHeartbeats 4000000 in
theorem bX11_both_0 {a1 : Int32} {a2 : Int32} (hC : CallFix p m c cX11_both 3 s args lw_good RX11) (hret : meth.sig.returnType = (some .int)) (hlk : meth.locks = false) (hU : gU 1 D cA ad s)  {r : Int32} {st' : gS}   {st : gS} {H : Heap} {locs : List Loc} {ls : Array Slot} (hf : fX11_both a1 a2 st = some (r, st')) (hH : gP0 1 D cA ad st H) (hS : va_S (gA 1 ad) s.heap H locs) (hl : lv_has ls 3 [(0, .ref (ad 0)), (1, .int a1), (2, .int a2)]) : W p l e (gRm 4) s m args below meth c H locs 0 0 (MQ below (gQc 1 D cA ad st' (some (.int r))) args s 0 0 (gA 1 ad)) (F0 m 0 ls []) := by
  obtain ⟨hx, hb, hml, hown, hts⟩ := id hC
  unfold fX11_both at hf
  refine lv_aload_n (pc := 0) hx hb dX11_both_0 rfl (lv_at hl 0 rfl) ?_
  refine lv_iload_n (pc := 1) hx hb dX11_both_1 rfl (lv_at hl 1 rfl) ?_
  obtain ⟨q0_1, hq0_1, hf⟩ := gbd hf
  refine g_callVi (pc := 2) (rest := []) hC hU hH hS hl.1 gk1_0 rfl (by decide) (mX11_isTribe  hq0_1) ky_X11_isTribe km_X11_431 ⟨Nat.le_of_ble_eq_true rfl, Nat.le_of_ble_eq_true rfl⟩ ⟨Nat.zero_le _, Nat.zero_le _⟩ rfl (Nat.le_of_ble_eq_true rfl) dX11_both_2 rfl (fun H locs hH hS => ?_)
  refine lv_if_eq (tgt := 34) (pc := 5) hx hb dX11_both_5 (by decide) (fun hc => ?_) (fun hc => ?_)
  · have hf := gif_p hc hf
    refine lv_iconst (v := (-1)) (pc := 34) hx hb dX11_both_34 (by decide) ?_
    exact g_iret (pc := 35) hC hret hlk hH hS hf dX11_both_35
  · have hf := gif_n hc hf
    refine lv_aload_n (pc := 8) hx hb dX11_both_8 rfl (lv_at hl 0 rfl) ?_
    refine lv_iload_n (pc := 9) hx hb dX11_both_9 rfl (lv_at hl 2 rfl) ?_
    obtain ⟨q0_2, hq0_2, hf⟩ := gbd hf
    refine g_callVi (pc := 10) (rest := []) hC hU hH hS hl.1 gk1_0 rfl (by decide) (mX11_isTribe  hq0_2) ky_X11_isTribe km_X11_431 ⟨Nat.le_of_ble_eq_true rfl, Nat.le_of_ble_eq_true rfl⟩ ⟨Nat.zero_le _, Nat.zero_le _⟩ rfl (Nat.le_of_ble_eq_true rfl) dX11_both_10 rfl (fun H locs hH hS => ?_)
    refine lv_if_eq (tgt := 34) (pc := 13) hx hb dX11_both_13 (by decide) (fun hc => ?_) (fun hc => ?_)
    · have hf := gif_p hc hf
      refine lv_iconst (v := (-1)) (pc := 34) hx hb dX11_both_34 (by decide) ?_
      exact g_iret (pc := 35) hC hret hlk hH hS hf dX11_both_35
    · have hf := gif_n hc hf
      refine lv_aload_n (pc := 16) hx hb dX11_both_16 rfl (lv_at hl 0 rfl) ?_
      refine lv_iload_n (pc := 17) hx hb dX11_both_17 rfl (lv_at hl 1 rfl) ?_
      refine lv_bipush (v := (-2)) (pc := 18) hx hb dX11_both_18 (by decide) ?_
      obtain ⟨q0_3, hq0_3, hf⟩ := gbd hf
      refine g_callVi (pc := 20) (rest := []) hC hU hH hS hl.1 gk1_0 rfl (by decide) (mX11_movesOf  hq0_3) ky_X11_movesOf km_X11_434 ⟨Nat.le_of_ble_eq_true rfl, Nat.le_of_ble_eq_true rfl⟩ ⟨Nat.zero_le _, Nat.zero_le _⟩ rfl (Nat.le_of_ble_eq_true rfl) dX11_both_20 rfl (fun H locs hH hS => ?_)
      refine lv_aload_n (pc := 23) hx hb dX11_both_23 rfl (lv_at hl 0 rfl) ?_
      refine lv_iload_n (pc := 24) hx hb dX11_both_24 rfl (lv_at hl 2 rfl) ?_
      refine lv_bipush (v := (-2)) (pc := 25) hx hb dX11_both_25 (by decide) ?_
      obtain ⟨q0_4, hq0_4, hf⟩ := gbd hf
      refine g_callVi (pc := 27) (rest := [.int q0_3.1]) hC hU hH hS hl.1 gk1_0 rfl (by decide) (mX11_movesOf  hq0_4) ky_X11_movesOf km_X11_434 ⟨Nat.le_of_ble_eq_true rfl, Nat.le_of_ble_eq_true rfl⟩ ⟨Nat.zero_le _, Nat.zero_le _⟩ rfl (Nat.le_of_ble_eq_true rfl) dX11_both_27 rfl (fun H locs hH hS => ?_)
      refine lv_iand (pc := 30) hx hb dX11_both_30 ?_
      refine lv_goto (tgt := 35) (pc := 31) hx hb dX11_both_31 (by decide) ?_
      exact g_iret (pc := 35) hC hret hlk hH hS hf dX11_both_35
set_option maxRecDepth 100000 in
set_option maxHeartbeats 4000000 in
theorem mX11_both {l : Launch} {D : va_G} {cA : Nat → ClassId} {ad : Nat → Nat} {a1 : Int32} {a2 : Int32}  {r : Int32} {st st' : gS} (hf : fX11_both a1 a2 st = some (r, st')) : gM l yX11_both cX11_both 3 (some .int) 4 1 D cA ad st [.ref (ad 0), .int a1, .int a2] (some (.int r)) st' := by
  refine g_met (by decide) (Nat.le_of_ble_eq_true rfl) ?_
  intro p e s m args below meth c ls hC hret hlk hU hH hl
  exact bX11_both_0 hC hret hlk hU hf hH va_S.rf hl
def fX11_clumsy_53 (a1 : Int32) (k14 : Int32 → Int32 → gS → Option (Int32 × gS)) (l3 : Int32) (st : gS) : Option (Int32 × gS) :=
  k14 l3 (l3 + 1) st
set_option maxRecDepth 100000 in
set_option maxHeartbeats 4000000 in
theorem bX11_clumsy_53 {a1 : Int32} (hC : CallFix p m c cX11_clumsy 4 s args lw_good RX11) (hret : meth.sig.returnType = (some .int)) (hlk : meth.locks = false) (hU : gU 1 D cA ad s)  {r : Int32} {st' : gS} {k14 : Int32 → Int32 → gS → Option (Int32 × gS)} (hk14 : ∀ {l2 : Int32} {l3 : Int32} {st : gS} {H : Heap} {locs : List Loc} {ls : Array Slot}, k14 l2 l3 st = some (r, st') → gP0 1 D cA ad st H → va_S (gA 1 ad) s.heap H locs → lv_has ls 4 [(0, .ref (ad 0)), (1, .int a1), (2, .int l2), (3, .int l3)] → W p l e (gRm 5) s m args below meth c H locs 0 0 (MQ below (gQc 1 D cA ad st' (some (.int r))) args s 0 0 (gA 1 ad)) (F0 m 14 ls [])) {l3 : Int32} {st : gS} {H : Heap} {locs : List Loc} {ls : Array Slot} (hf : fX11_clumsy_53 a1 k14 l3 st = some (r, st')) (hH : gP0 1 D cA ad st H) (hS : va_S (gA 1 ad) s.heap H locs) (hl : lv_has ls 4 [(0, .ref (ad 0)), (1, .int a1), (3, .int l3)]) : W p l e (gRm 5) s m args below meth c H locs 0 0 (MQ below (gQc 1 D cA ad st' (some (.int r))) args s 0 0 (gA 1 ad)) (F0 m 53 ls []) := by
  obtain ⟨hx, hb, hml, hown, hts⟩ := id hC
  unfold fX11_clumsy_53 at hf
  refine lv_iload_n (pc := 53) hx hb dX11_clumsy_53 rfl (lv_at hl 2 rfl) ?_
  refine lv_istore_n (lv' := [(2, .int l3), (0, .ref (ad 0)), (1, .int a1), (3, .int l3)]) (pc := 54) hx hb dX11_clumsy_54 rfl hl (by decide) rfl (fun ls hl => ?_)
  refine lv_iinc (v := l3 + 1) (lv' := [(3, .int (l3 + 1)), (2, .int l3), (0, .ref (ad 0)), (1, .int a1)]) (k := 3) (pc := 55) hx hb dX11_clumsy_55 hl rfl rfl (by decide) rfl (fun ls hl => ?_)
  refine lv_goto (tgt := 14) (pc := 58) hx hb dX11_clumsy_58 (by decide) ?_
  exact hk14 hf hH hS (lv_sub hl [2, 3, 1, 0] rfl)
def fX11_clumsy_14 (a1 : Int32) (k14 : Int32 → Int32 → gS → Option (Int32 × gS)) (l2 : Int32) (l3 : Int32) (st : gS) : Option (Int32 × gS) :=
  if (st.1 0 49) ≤ l3 then (some (l2, st)) else ((fX11_can l3 a1 st).bind fun q14_1 => (if q14_1.1 = 0 then (k14 l2 (l3 + 1) q14_1.2) else (if l2 < 0 then (fX11_clumsy_53 a1 k14 l3 q14_1.2) else ((fX11_slipOf l3 a1 q14_1.2).bind fun q14_2 => ((fX11_slipOf l2 a1 q14_2.2).bind fun q14_3 => (if q14_3.1 < q14_2.1 then (fX11_clumsy_53 a1 k14 l3 q14_3.2) else (k14 l2 (l3 + 1) q14_3.2)))))))
set_option maxRecDepth 100000 in
set_option maxHeartbeats 4000000 in
theorem bX11_clumsy_14 {a1 : Int32} (hC : CallFix p m c cX11_clumsy 4 s args lw_good RX11) (hret : meth.sig.returnType = (some .int)) (hlk : meth.locks = false) (hU : gU 1 D cA ad s)  {r : Int32} {st' : gS} {k14 : Int32 → Int32 → gS → Option (Int32 × gS)} (hk14 : ∀ {l2 : Int32} {l3 : Int32} {st : gS} {H : Heap} {locs : List Loc} {ls : Array Slot}, k14 l2 l3 st = some (r, st') → gP0 1 D cA ad st H → va_S (gA 1 ad) s.heap H locs → lv_has ls 4 [(0, .ref (ad 0)), (1, .int a1), (2, .int l2), (3, .int l3)] → W p l e (gRm 5) s m args below meth c H locs 0 0 (MQ below (gQc 1 D cA ad st' (some (.int r))) args s 0 0 (gA 1 ad)) (F0 m 14 ls [])) {l2 : Int32} {l3 : Int32} {st : gS} {H : Heap} {locs : List Loc} {ls : Array Slot} (hf : fX11_clumsy_14 a1 k14 l2 l3 st = some (r, st')) (hH : gP0 1 D cA ad st H) (hS : va_S (gA 1 ad) s.heap H locs) (hl : lv_has ls 4 [(0, .ref (ad 0)), (1, .int a1), (2, .int l2), (3, .int l3)]) : W p l e (gRm 5) s m args below meth c H locs 0 0 (MQ below (gQc 1 D cA ad st' (some (.int r))) args s 0 0 (gA 1 ad)) (F0 m 14 ls []) := by
  obtain ⟨hx, hb, hml, hown, hts⟩ := id hC
  unfold fX11_clumsy_14 at hf
  refine lv_iload_n (pc := 14) hx hb dX11_clumsy_14 rfl (lv_at hl 3 rfl) ?_
  refine lv_aload_n (pc := 15) hx hb dX11_clumsy_15 rfl (lv_at hl 0 rfl) ?_
  refine g_get (pc := 16) (v := .int (st.1 0 49)) hC hU hH gk1_0 g_cl11 49 (by decide) kf_X11_395 rfl dX11_clumsy_16 ?_
  refine lv_icmp_ge (tgt := 61) (pc := 19) hx hb dX11_clumsy_19 (by decide) (fun hc => ?_) (fun hc => ?_)
  · have hf := gif_p hc hf
    refine lv_iload_n (pc := 61) hx hb dX11_clumsy_61 rfl (lv_at hl 2 rfl) ?_
    exact g_iret (pc := 62) hC hret hlk hH hS hf dX11_clumsy_62
  · have hf := gif_n hc hf
    refine lv_aload_n (pc := 22) hx hb dX11_clumsy_22 rfl (lv_at hl 0 rfl) ?_
    refine lv_iload_n (pc := 23) hx hb dX11_clumsy_23 rfl (lv_at hl 3 rfl) ?_
    refine lv_iload_n (pc := 24) hx hb dX11_clumsy_24 rfl (lv_at hl 1 rfl) ?_
    obtain ⟨q14_1, hq14_1, hf⟩ := gbd hf
    refine g_callVi (pc := 25) (rest := []) hC hU hH hS hl.1 gk1_0 rfl (by decide) (mX11_can  hq14_1) ky_X11_can km_X11_427 ⟨Nat.le_of_ble_eq_true rfl, Nat.le_of_ble_eq_true rfl⟩ ⟨Nat.zero_le _, Nat.zero_le _⟩ rfl (Nat.le_of_ble_eq_true rfl) dX11_clumsy_25 rfl (fun H locs hH hS => ?_)
    refine lv_if_eq (tgt := 55) (pc := 28) hx hb dX11_clumsy_28 (by decide) (fun hc => ?_) (fun hc => ?_)
    · have hf := gif_p hc hf
      refine lv_iinc (v := l3 + 1) (lv' := [(3, .int (l3 + 1)), (0, .ref (ad 0)), (1, .int a1), (2, .int l2)]) (k := 3) (pc := 55) hx hb dX11_clumsy_55 hl rfl rfl (by decide) rfl (fun ls hl => ?_)
      refine lv_goto (tgt := 14) (pc := 58) hx hb dX11_clumsy_58 (by decide) ?_
      exact hk14 hf hH hS (lv_sub hl [1, 2, 3, 0] rfl)
    · have hf := gif_n hc hf
      refine lv_iload_n (pc := 31) hx hb dX11_clumsy_31 rfl (lv_at hl 2 rfl) ?_
      refine lv_if_lt (tgt := 53) (pc := 32) hx hb dX11_clumsy_32 (by decide) (fun hc => ?_) (fun hc => ?_)
      · have hf := gif_p hc hf
        exact bX11_clumsy_53 hC hret hlk hU hk14 hf hH hS (lv_sub hl [0, 1, 3] rfl)
      · have hf := gif_n hc hf
        refine lv_aload_n (pc := 35) hx hb dX11_clumsy_35 rfl (lv_at hl 0 rfl) ?_
        refine lv_iload_n (pc := 36) hx hb dX11_clumsy_36 rfl (lv_at hl 3 rfl) ?_
        refine lv_iload_n (pc := 37) hx hb dX11_clumsy_37 rfl (lv_at hl 1 rfl) ?_
        obtain ⟨q14_2, hq14_2, hf⟩ := gbd hf
        refine g_callVi (pc := 38) (rest := []) hC hU hH hS hl.1 gk1_0 rfl (by decide) (mX11_slipOf  hq14_2) ky_X11_slipOf km_X11_449 ⟨Nat.le_of_ble_eq_true rfl, Nat.le_of_ble_eq_true rfl⟩ ⟨Nat.zero_le _, Nat.zero_le _⟩ rfl (Nat.le_of_ble_eq_true rfl) dX11_clumsy_38 rfl (fun H locs hH hS => ?_)
        refine lv_aload_n (pc := 41) hx hb dX11_clumsy_41 rfl (lv_at hl 0 rfl) ?_
        refine lv_iload_n (pc := 42) hx hb dX11_clumsy_42 rfl (lv_at hl 2 rfl) ?_
        refine lv_iload_n (pc := 43) hx hb dX11_clumsy_43 rfl (lv_at hl 1 rfl) ?_
        obtain ⟨q14_3, hq14_3, hf⟩ := gbd hf
        refine g_callVi (pc := 44) (rest := [.int q14_2.1]) hC hU hH hS hl.1 gk1_0 rfl (by decide) (mX11_slipOf  hq14_3) ky_X11_slipOf km_X11_449 ⟨Nat.le_of_ble_eq_true rfl, Nat.le_of_ble_eq_true rfl⟩ ⟨Nat.zero_le _, Nat.zero_le _⟩ rfl (Nat.le_of_ble_eq_true rfl) dX11_clumsy_44 rfl (fun H locs hH hS => ?_)
        refine lv_icmp_gt (tgt := 53) (pc := 47) hx hb dX11_clumsy_47 (by decide) (fun hc => ?_) (fun hc => ?_)
        · have hf := gif_p hc hf
          exact bX11_clumsy_53 hC hret hlk hU hk14 hf hH hS (lv_sub hl [0, 1, 3] rfl)
        · have hf := gif_n hc hf
          refine lv_goto (tgt := 55) (pc := 50) hx hb dX11_clumsy_50 (by decide) ?_
          refine lv_iinc (v := l3 + 1) (lv' := [(3, .int (l3 + 1)), (0, .ref (ad 0)), (1, .int a1), (2, .int l2)]) (k := 3) (pc := 55) hx hb dX11_clumsy_55 hl rfl rfl (by decide) rfl (fun ls hl => ?_)
          refine lv_goto (tgt := 14) (pc := 58) hx hb dX11_clumsy_58 (by decide) ?_
          exact hk14 hf hH hS (lv_sub hl [1, 2, 3, 0] rfl)
def hX11_clumsy_14 (a1 : Int32)  : Nat → Int32 → Int32 → gS → Option (Int32 × gS)
  | 0 => fun _ _ _ => none
  | n + 1 => fun l2 l3 st => fX11_clumsy_14 a1 (hX11_clumsy_14 a1 n) l2 l3 st
set_option maxRecDepth 100000 in
set_option maxHeartbeats 4000000 in
theorem wX11_clumsy_14 {a1 : Int32} (hC : CallFix p m c cX11_clumsy 4 s args lw_good RX11) (hret : meth.sig.returnType = (some .int)) (hlk : meth.locks = false) (hU : gU 1 D cA ad s)  {r : Int32} {st' : gS}  : ∀ (n : Nat) {l2 : Int32} {l3 : Int32} {st : gS} {H : Heap} {locs : List Loc} {ls : Array Slot}, hX11_clumsy_14 a1 n l2 l3 st = some (r, st') → gP0 1 D cA ad st H → va_S (gA 1 ad) s.heap H locs → lv_has ls 4 [(0, .ref (ad 0)), (1, .int a1), (2, .int l2), (3, .int l3)] → W p l e (gRm 5) s m args below meth c H locs 0 0 (MQ below (gQc 1 D cA ad st' (some (.int r))) args s 0 0 (gA 1 ad)) (F0 m 14 ls []) := by
  intro n
  induction n with
  | zero => intro l2 l3 st H locs ls hf hH hS hl; cases hf
  | succ n ih =>
    intro l2 l3 st H locs ls hf hH hS hl
    exact bX11_clumsy_14 (a1 := a1) hC hret hlk hU (fun hf hH hS hl => ih hf hH hS hl) hf hH hS hl
def fX11_clumsy (a1 : Int32)   (st : gS) : Option (Int32 × gS) :=
  (fX11_isMove a1 st).bind fun q0_1 => (if q0_1.1 = 0 then (some ((-1), q0_1.2)) else (hX11_clumsy_14 a1 FU (-1) 0 q0_1.2))
set_option maxRecDepth 100000 in
set_option maxHeartbeats 4000000 in
theorem bX11_clumsy_0 {a1 : Int32} (hC : CallFix p m c cX11_clumsy 4 s args lw_good RX11) (hret : meth.sig.returnType = (some .int)) (hlk : meth.locks = false) (hU : gU 1 D cA ad s)  {r : Int32} {st' : gS}   {st : gS} {H : Heap} {locs : List Loc} {ls : Array Slot} (hf : fX11_clumsy a1 st = some (r, st')) (hH : gP0 1 D cA ad st H) (hS : va_S (gA 1 ad) s.heap H locs) (hl : lv_has ls 4 [(0, .ref (ad 0)), (1, .int a1)]) : W p l e (gRm 5) s m args below meth c H locs 0 0 (MQ below (gQc 1 D cA ad st' (some (.int r))) args s 0 0 (gA 1 ad)) (F0 m 0 ls []) := by
  obtain ⟨hx, hb, hml, hown, hts⟩ := id hC
  unfold fX11_clumsy at hf
  refine lv_aload_n (pc := 0) hx hb dX11_clumsy_0 rfl (lv_at hl 0 rfl) ?_
  refine lv_iload_n (pc := 1) hx hb dX11_clumsy_1 rfl (lv_at hl 1 rfl) ?_
  obtain ⟨q0_1, hq0_1, hf⟩ := gbd hf
  refine g_callVi (pc := 2) (rest := []) hC hU hH hS hl.1 gk1_0 rfl (by decide) (mX11_isMove  hq0_1) ky_X11_isMove km_X11_437 ⟨Nat.le_of_ble_eq_true rfl, Nat.le_of_ble_eq_true rfl⟩ ⟨Nat.zero_le _, Nat.zero_le _⟩ rfl (Nat.le_of_ble_eq_true rfl) dX11_clumsy_2 rfl (fun H locs hH hS => ?_)
  refine lv_if_ne (tgt := 10) (pc := 5) hx hb dX11_clumsy_5 (by decide) (fun hc => ?_) (fun hc => ?_)
  · have hf := gif_n hc hf
    refine lv_iconst (v := (-1)) (pc := 10) hx hb dX11_clumsy_10 (by decide) ?_
    refine lv_istore_n (lv' := [(2, .int (-1)), (0, .ref (ad 0)), (1, .int a1)]) (pc := 11) hx hb dX11_clumsy_11 rfl hl (by decide) rfl (fun ls hl => ?_)
    refine lv_iconst (v := 0) (pc := 12) hx hb dX11_clumsy_12 (by decide) ?_
    refine lv_istore_n (lv' := [(3, .int 0), (2, .int (-1)), (0, .ref (ad 0)), (1, .int a1)]) (pc := 13) hx hb dX11_clumsy_13 rfl hl (by decide) rfl (fun ls hl => ?_)
    exact wX11_clumsy_14 hC hret hlk hU FU hf hH hS (lv_sub hl [2, 3, 1, 0] rfl)
  · have hf := gif_p hc hf
    refine lv_iconst (v := (-1)) (pc := 8) hx hb dX11_clumsy_8 (by decide) ?_
    exact g_iret (pc := 9) hC hret hlk hH hS hf dX11_clumsy_9
set_option maxRecDepth 100000 in
set_option maxHeartbeats 4000000 in
theorem mX11_clumsy {l : Launch} {D : va_G} {cA : Nat → ClassId} {ad : Nat → Nat} {a1 : Int32}  {r : Int32} {st st' : gS} (hf : fX11_clumsy a1 st = some (r, st')) : gM l yX11_clumsy cX11_clumsy 4 (some .int) 5 1 D cA ad st [.ref (ad 0), .int a1] (some (.int r)) st' := by
  refine g_met (by decide) (Nat.le_of_ble_eq_true rfl) ?_
  intro p e s m args below meth c ls hC hret hlk hU hH hl
  exact bX11_clumsy_0 hC hret hlk hU hf hH va_S.rf hl
def fX11_idle_42  (k4 : Int32 → Int32 → gS → Option (Int32 × gS)) (l2 : Int32) (s0 : Int32) (s1 : Int32) (st : gS) : Option (Int32 × gS) :=
  (fX11_truth s0 st).bind fun q42_1 => (gl (s1 ||| (q42_1.1 <<< (l2 &&& 31))) fun x48 => (k4 x48 (l2 + 1) q42_1.2))
set_option maxRecDepth 100000 in
set_option maxHeartbeats 4000000 in
theorem bX11_idle_42  (hC : CallFix p m c cX11_idle 3 s args lw_good RX11) (hret : meth.sig.returnType = (some .int)) (hlk : meth.locks = false) (hU : gU 1 D cA ad s)  {r : Int32} {st' : gS} {k4 : Int32 → Int32 → gS → Option (Int32 × gS)} (hk4 : ∀ {l1 : Int32} {l2 : Int32} {st : gS} {H : Heap} {locs : List Loc} {ls : Array Slot}, k4 l1 l2 st = some (r, st') → gP0 1 D cA ad st H → va_S (gA 1 ad) s.heap H locs → lv_has ls 3 [(0, .ref (ad 0)), (1, .int l1), (2, .int l2)] → W p l e (gRm 4) s m args below meth c H locs 0 0 (MQ below (gQc 1 D cA ad st' (some (.int r))) args s 0 0 (gA 1 ad)) (F0 m 4 ls [])) {l2 : Int32} {s0 : Int32} {s1 : Int32} {st : gS} {H : Heap} {locs : List Loc} {ls : Array Slot} (hf : fX11_idle_42 k4 l2 s0 s1 st = some (r, st')) (hH : gP0 1 D cA ad st H) (hS : va_S (gA 1 ad) s.heap H locs) (hl : lv_has ls 3 [(0, .ref (ad 0)), (2, .int l2)]) : W p l e (gRm 4) s m args below meth c H locs 0 0 (MQ below (gQc 1 D cA ad st' (some (.int r))) args s 0 0 (gA 1 ad)) (F0 m 42 ls [.int s0, .int s1]) := by
  obtain ⟨hx, hb, hml, hown, hts⟩ := id hC
  unfold fX11_idle_42 at hf
  obtain ⟨q42_1, hq42_1, hf⟩ := gbd hf
  refine g_callSi (pc := 42) (rest := [.int s1]) hC hU hH hS hl.1 (mX11_truth  hq42_1) ky_X11_truth km_X11_325 ⟨Nat.le_of_ble_eq_true rfl, Nat.le_of_ble_eq_true rfl⟩ ⟨Nat.zero_le _, Nat.zero_le _⟩ rfl (Nat.le_of_ble_eq_true rfl) dX11_idle_42 rfl (fun H locs hH hS => ?_)
  refine lv_iload_n (pc := 45) hx hb dX11_idle_45 rfl (lv_at hl 1 rfl) ?_
  refine lv_ishl (pc := 46) hx hb dX11_idle_46 ?_
  refine lv_ior (pc := 47) hx hb dX11_idle_47 ?_
  refine lv_topi (pc := 48) (fun x48 ex48 => ?_)
  have hf := gl_s ex48 hf
  refine lv_istore_n (lv' := [(1, .int x48), (0, .ref (ad 0)), (2, .int l2)]) (pc := 48) hx hb dX11_idle_48 rfl hl (by decide) rfl (fun ls hl => ?_)
  refine lv_iinc (v := l2 + 1) (lv' := [(2, .int (l2 + 1)), (1, .int x48), (0, .ref (ad 0))]) (k := 2) (pc := 49) hx hb dX11_idle_49 hl rfl rfl (by decide) rfl (fun ls hl => ?_)
  refine lv_goto (tgt := 4) (pc := 52) hx hb dX11_idle_52 (by decide) ?_
  exact hk4 hf hH hS (lv_sub hl [2, 1, 0] rfl)
def fX11_idle_41  (k4 : Int32 → Int32 → gS → Option (Int32 × gS)) (l2 : Int32) (s0 : Int32) (st : gS) : Option (Int32 × gS) :=
  fX11_idle_42 k4 l2 0 s0 st
set_option maxRecDepth 100000 in
set_option maxHeartbeats 4000000 in
theorem bX11_idle_41  (hC : CallFix p m c cX11_idle 3 s args lw_good RX11) (hret : meth.sig.returnType = (some .int)) (hlk : meth.locks = false) (hU : gU 1 D cA ad s)  {r : Int32} {st' : gS} {k4 : Int32 → Int32 → gS → Option (Int32 × gS)} (hk4 : ∀ {l1 : Int32} {l2 : Int32} {st : gS} {H : Heap} {locs : List Loc} {ls : Array Slot}, k4 l1 l2 st = some (r, st') → gP0 1 D cA ad st H → va_S (gA 1 ad) s.heap H locs → lv_has ls 3 [(0, .ref (ad 0)), (1, .int l1), (2, .int l2)] → W p l e (gRm 4) s m args below meth c H locs 0 0 (MQ below (gQc 1 D cA ad st' (some (.int r))) args s 0 0 (gA 1 ad)) (F0 m 4 ls [])) {l2 : Int32} {s0 : Int32} {st : gS} {H : Heap} {locs : List Loc} {ls : Array Slot} (hf : fX11_idle_41 k4 l2 s0 st = some (r, st')) (hH : gP0 1 D cA ad st H) (hS : va_S (gA 1 ad) s.heap H locs) (hl : lv_has ls 3 [(0, .ref (ad 0)), (2, .int l2)]) : W p l e (gRm 4) s m args below meth c H locs 0 0 (MQ below (gQc 1 D cA ad st' (some (.int r))) args s 0 0 (gA 1 ad)) (F0 m 41 ls [.int s0]) := by
  obtain ⟨hx, hb, hml, hown, hts⟩ := id hC
  unfold fX11_idle_41 at hf
  refine lv_iconst (v := 0) (pc := 41) hx hb dX11_idle_41 (by decide) ?_
  exact bX11_idle_42 hC hret hlk hU hk4 hf hH hS (lv_sub hl [0, 1] rfl)
def fX11_idle_4  (k4 : Int32 → Int32 → gS → Option (Int32 × gS)) (l1 : Int32) (l2 : Int32) (st : gS) : Option (Int32 × gS) :=
  if (st.1 0 49) ≤ l2 then (some (l1, st)) else (gc (gI 1 18) (if l2 = (st.1 28 (1 : Int32).toNatClampNeg) then (fX11_idle_41 k4 l2 l1 st) else (gc (gI 0 18) ((fX11_movesOf l2 (st.1 28 (0 : Int32).toNatClampNeg) st).bind fun q4_1 => (if q4_1.1 = 0 then (fX11_idle_42 k4 l2 1 l1 q4_1.2) else (fX11_idle_41 k4 l2 l1 q4_1.2))))))
set_option maxRecDepth 100000 in
set_option maxHeartbeats 4000000 in
theorem bX11_idle_4  (hC : CallFix p m c cX11_idle 3 s args lw_good RX11) (hret : meth.sig.returnType = (some .int)) (hlk : meth.locks = false) (hU : gU 1 D cA ad s)  {r : Int32} {st' : gS} {k4 : Int32 → Int32 → gS → Option (Int32 × gS)} (hk4 : ∀ {l1 : Int32} {l2 : Int32} {st : gS} {H : Heap} {locs : List Loc} {ls : Array Slot}, k4 l1 l2 st = some (r, st') → gP0 1 D cA ad st H → va_S (gA 1 ad) s.heap H locs → lv_has ls 3 [(0, .ref (ad 0)), (1, .int l1), (2, .int l2)] → W p l e (gRm 4) s m args below meth c H locs 0 0 (MQ below (gQc 1 D cA ad st' (some (.int r))) args s 0 0 (gA 1 ad)) (F0 m 4 ls [])) {l1 : Int32} {l2 : Int32} {st : gS} {H : Heap} {locs : List Loc} {ls : Array Slot} (hf : fX11_idle_4 k4 l1 l2 st = some (r, st')) (hH : gP0 1 D cA ad st H) (hS : va_S (gA 1 ad) s.heap H locs) (hl : lv_has ls 3 [(0, .ref (ad 0)), (1, .int l1), (2, .int l2)]) : W p l e (gRm 4) s m args below meth c H locs 0 0 (MQ below (gQc 1 D cA ad st' (some (.int r))) args s 0 0 (gA 1 ad)) (F0 m 4 ls []) := by
  obtain ⟨hx, hb, hml, hown, hts⟩ := id hC
  unfold fX11_idle_4 at hf
  refine lv_iload_n (pc := 4) hx hb dX11_idle_4 rfl (lv_at hl 2 rfl) ?_
  refine lv_aload_n (pc := 5) hx hb dX11_idle_5 rfl (lv_at hl 0 rfl) ?_
  refine g_get (pc := 6) (v := .int (st.1 0 49)) hC hU hH gk1_0 g_cl11 49 (by decide) kf_X11_395 rfl dX11_idle_6 ?_
  refine lv_icmp_ge (tgt := 55) (pc := 9) hx hb dX11_idle_9 (by decide) (fun hc => ?_) (fun hc => ?_)
  · have hf := gif_p hc hf
    refine lv_iload_n (pc := 55) hx hb dX11_idle_55 rfl (lv_at hl 1 rfl) ?_
    exact g_iret (pc := 56) hC hret hlk hH hS hf dX11_idle_56
  · have hf := gif_n hc hf
    refine lv_iload_n (pc := 12) hx hb dX11_idle_12 rfl (lv_at hl 1 rfl) ?_
    refine lv_iload_n (pc := 13) hx hb dX11_idle_13 rfl (lv_at hl 2 rfl) ?_
    refine lv_aload_n (pc := 14) hx hb dX11_idle_14 rfl (lv_at hl 0 rfl) ?_
    refine g_get (pc := 15) (v := .ref (ad 28)) hC hU hH gk1_0 g_cl11 55 (by decide) kf_X11_100 rfl dX11_idle_15 ?_
    refine lv_iconst (v := 1) (pc := 18) hx hb dX11_idle_18 (by decide) ?_
    obtain ⟨h4_1, hf⟩ := gc_s hf
    refine g_iald (pc := 19) hC hU hH gk1_28 gn1_28 h4_1 dX11_idle_19 ?_
    refine lv_icmp_eq (tgt := 41) (pc := 20) hx hb dX11_idle_20 (by decide) (fun hc => ?_) (fun hc => ?_)
    · have hf := gif_p hc hf
      exact bX11_idle_41 hC hret hlk hU hk4 hf hH hS (lv_sub hl [0, 2] rfl)
    · have hf := gif_n hc hf
      refine lv_aload_n (pc := 23) hx hb dX11_idle_23 rfl (lv_at hl 0 rfl) ?_
      refine lv_iload_n (pc := 24) hx hb dX11_idle_24 rfl (lv_at hl 2 rfl) ?_
      refine lv_aload_n (pc := 25) hx hb dX11_idle_25 rfl (lv_at hl 0 rfl) ?_
      refine g_get (pc := 26) (v := .ref (ad 28)) hC hU hH gk1_0 g_cl11 55 (by decide) kf_X11_100 rfl dX11_idle_26 ?_
      refine lv_iconst (v := 0) (pc := 29) hx hb dX11_idle_29 (by decide) ?_
      obtain ⟨h4_2, hf⟩ := gc_s hf
      refine g_iald (pc := 30) hC hU hH gk1_28 gn1_28 h4_2 dX11_idle_30 ?_
      obtain ⟨q4_1, hq4_1, hf⟩ := gbd hf
      refine g_callVi (pc := 31) (rest := [.int l1]) hC hU hH hS hl.1 gk1_0 rfl (by decide) (mX11_movesOf  hq4_1) ky_X11_movesOf km_X11_434 ⟨Nat.le_of_ble_eq_true rfl, Nat.le_of_ble_eq_true rfl⟩ ⟨Nat.zero_le _, Nat.zero_le _⟩ rfl (Nat.le_of_ble_eq_true rfl) dX11_idle_31 rfl (fun H locs hH hS => ?_)
      refine lv_if_ne (tgt := 41) (pc := 34) hx hb dX11_idle_34 (by decide) (fun hc => ?_) (fun hc => ?_)
      · have hf := gif_n hc hf
        exact bX11_idle_41 hC hret hlk hU hk4 hf hH hS (lv_sub hl [0, 2] rfl)
      · have hf := gif_p hc hf
        refine lv_iconst (v := 1) (pc := 37) hx hb dX11_idle_37 (by decide) ?_
        refine lv_goto (tgt := 42) (pc := 38) hx hb dX11_idle_38 (by decide) ?_
        exact bX11_idle_42 hC hret hlk hU hk4 hf hH hS (lv_sub hl [0, 2] rfl)
def hX11_idle_4   : Nat → Int32 → Int32 → gS → Option (Int32 × gS)
  | 0 => fun _ _ _ => none
  | n + 1 => fun l1 l2 st => fX11_idle_4 (hX11_idle_4  n) l1 l2 st
set_option maxRecDepth 100000 in
set_option maxHeartbeats 4000000 in
theorem wX11_idle_4  (hC : CallFix p m c cX11_idle 3 s args lw_good RX11) (hret : meth.sig.returnType = (some .int)) (hlk : meth.locks = false) (hU : gU 1 D cA ad s)  {r : Int32} {st' : gS}  : ∀ (n : Nat) {l1 : Int32} {l2 : Int32} {st : gS} {H : Heap} {locs : List Loc} {ls : Array Slot}, hX11_idle_4  n l1 l2 st = some (r, st') → gP0 1 D cA ad st H → va_S (gA 1 ad) s.heap H locs → lv_has ls 3 [(0, .ref (ad 0)), (1, .int l1), (2, .int l2)] → W p l e (gRm 4) s m args below meth c H locs 0 0 (MQ below (gQc 1 D cA ad st' (some (.int r))) args s 0 0 (gA 1 ad)) (F0 m 4 ls []) := by
  intro n
  induction n with
  | zero => intro l1 l2 st H locs ls hf hH hS hl; cases hf
  | succ n ih =>
    intro l1 l2 st H locs ls hf hH hS hl
    exact bX11_idle_4  hC hret hlk hU (fun hf hH hS hl => ih hf hH hS hl) hf hH hS hl
def fX11_idle    (st : gS) : Option (Int32 × gS) :=
  hX11_idle_4 FU 0 0 st
set_option maxRecDepth 100000 in
set_option maxHeartbeats 4000000 in
theorem bX11_idle_0  (hC : CallFix p m c cX11_idle 3 s args lw_good RX11) (hret : meth.sig.returnType = (some .int)) (hlk : meth.locks = false) (hU : gU 1 D cA ad s)  {r : Int32} {st' : gS}   {st : gS} {H : Heap} {locs : List Loc} {ls : Array Slot} (hf : fX11_idle st = some (r, st')) (hH : gP0 1 D cA ad st H) (hS : va_S (gA 1 ad) s.heap H locs) (hl : lv_has ls 3 [(0, .ref (ad 0))]) : W p l e (gRm 4) s m args below meth c H locs 0 0 (MQ below (gQc 1 D cA ad st' (some (.int r))) args s 0 0 (gA 1 ad)) (F0 m 0 ls []) := by
  obtain ⟨hx, hb, hml, hown, hts⟩ := id hC
  unfold fX11_idle at hf
  refine lv_iconst (v := 0) (pc := 0) hx hb dX11_idle_0 (by decide) ?_
  refine lv_istore_n (lv' := [(1, .int 0), (0, .ref (ad 0))]) (pc := 1) hx hb dX11_idle_1 rfl hl (by decide) rfl (fun ls hl => ?_)
  refine lv_iconst (v := 0) (pc := 2) hx hb dX11_idle_2 (by decide) ?_
  refine lv_istore_n (lv' := [(2, .int 0), (1, .int 0), (0, .ref (ad 0))]) (pc := 3) hx hb dX11_idle_3 rfl hl (by decide) rfl (fun ls hl => ?_)
  exact wX11_idle_4 hC hret hlk hU FU hf hH hS (lv_sub hl [2, 1, 0] rfl)
set_option maxRecDepth 100000 in
set_option maxHeartbeats 4000000 in
theorem mX11_idle {l : Launch} {D : va_G} {cA : Nat → ClassId} {ad : Nat → Nat}   {r : Int32} {st st' : gS} (hf : fX11_idle  st = some (r, st')) : gM l yX11_idle cX11_idle 3 (some .int) 4 1 D cA ad st [.ref (ad 0)] (some (.int r)) st' := by
  refine g_met (by decide) (Nat.le_of_ble_eq_true rfl) ?_
  intro p e s m args below meth c ls hC hret hlk hU hH hl
  exact bX11_idle_0 hC hret hlk hU hf hH va_S.rf hl
def fX11_ends_28  (k4 : Int32 → Int32 → gS → Option (Int32 × gS)) (l2 : Int32) (s0 : Int32) (s1 : Int32) (st : gS) : Option (Int32 × gS) :=
  (fX11_truth s0 st).bind fun q28_1 => (gl (s1 ||| (q28_1.1 <<< (l2 &&& 31))) fun x34 => (k4 x34 (l2 + 1) q28_1.2))
set_option maxRecDepth 100000 in
set_option maxHeartbeats 4000000 in
theorem bX11_ends_28  (hC : CallFix p m c cX11_ends 3 s args lw_good RX11) (hret : meth.sig.returnType = (some .int)) (hlk : meth.locks = false) (hU : gU 1 D cA ad s)  {r : Int32} {st' : gS} {k4 : Int32 → Int32 → gS → Option (Int32 × gS)} (hk4 : ∀ {l1 : Int32} {l2 : Int32} {st : gS} {H : Heap} {locs : List Loc} {ls : Array Slot}, k4 l1 l2 st = some (r, st') → gP0 1 D cA ad st H → va_S (gA 1 ad) s.heap H locs → lv_has ls 3 [(0, .ref (ad 0)), (1, .int l1), (2, .int l2)] → W p l e (gRm 5) s m args below meth c H locs 0 0 (MQ below (gQc 1 D cA ad st' (some (.int r))) args s 0 0 (gA 1 ad)) (F0 m 4 ls [])) {l2 : Int32} {s0 : Int32} {s1 : Int32} {st : gS} {H : Heap} {locs : List Loc} {ls : Array Slot} (hf : fX11_ends_28 k4 l2 s0 s1 st = some (r, st')) (hH : gP0 1 D cA ad st H) (hS : va_S (gA 1 ad) s.heap H locs) (hl : lv_has ls 3 [(0, .ref (ad 0)), (2, .int l2)]) : W p l e (gRm 5) s m args below meth c H locs 0 0 (MQ below (gQc 1 D cA ad st' (some (.int r))) args s 0 0 (gA 1 ad)) (F0 m 28 ls [.int s0, .int s1]) := by
  obtain ⟨hx, hb, hml, hown, hts⟩ := id hC
  unfold fX11_ends_28 at hf
  obtain ⟨q28_1, hq28_1, hf⟩ := gbd hf
  refine g_callSi (pc := 28) (rest := [.int s1]) hC hU hH hS hl.1 (mX11_truth  hq28_1) ky_X11_truth km_X11_325 ⟨Nat.le_of_ble_eq_true rfl, Nat.le_of_ble_eq_true rfl⟩ ⟨Nat.zero_le _, Nat.zero_le _⟩ rfl (Nat.le_of_ble_eq_true rfl) dX11_ends_28 rfl (fun H locs hH hS => ?_)
  refine lv_iload_n (pc := 31) hx hb dX11_ends_31 rfl (lv_at hl 1 rfl) ?_
  refine lv_ishl (pc := 32) hx hb dX11_ends_32 ?_
  refine lv_ior (pc := 33) hx hb dX11_ends_33 ?_
  refine lv_topi (pc := 34) (fun x34 ex34 => ?_)
  have hf := gl_s ex34 hf
  refine lv_istore_n (lv' := [(1, .int x34), (0, .ref (ad 0)), (2, .int l2)]) (pc := 34) hx hb dX11_ends_34 rfl hl (by decide) rfl (fun ls hl => ?_)
  refine lv_iinc (v := l2 + 1) (lv' := [(2, .int (l2 + 1)), (1, .int x34), (0, .ref (ad 0))]) (k := 2) (pc := 35) hx hb dX11_ends_35 hl rfl rfl (by decide) rfl (fun ls hl => ?_)
  refine lv_goto (tgt := 4) (pc := 38) hx hb dX11_ends_38 (by decide) ?_
  exact hk4 hf hH hS (lv_sub hl [2, 1, 0] rfl)
def fX11_ends_4  (k4 : Int32 → Int32 → gS → Option (Int32 × gS)) (l1 : Int32) (l2 : Int32) (st : gS) : Option (Int32 × gS) :=
  if (st.1 0 48) ≤ l2 then (some (l1, st)) else ((fX11_onFrom (1 <<< (l2 &&& 31)) st).bind fun q4_1 => (if q4_1.1 = 0 then (fX11_ends_28 k4 l2 1 l1 q4_1.2) else (fX11_ends_28 k4 l2 0 l1 q4_1.2)))
set_option maxRecDepth 100000 in
set_option maxHeartbeats 4000000 in
theorem bX11_ends_4  (hC : CallFix p m c cX11_ends 3 s args lw_good RX11) (hret : meth.sig.returnType = (some .int)) (hlk : meth.locks = false) (hU : gU 1 D cA ad s)  {r : Int32} {st' : gS} {k4 : Int32 → Int32 → gS → Option (Int32 × gS)} (hk4 : ∀ {l1 : Int32} {l2 : Int32} {st : gS} {H : Heap} {locs : List Loc} {ls : Array Slot}, k4 l1 l2 st = some (r, st') → gP0 1 D cA ad st H → va_S (gA 1 ad) s.heap H locs → lv_has ls 3 [(0, .ref (ad 0)), (1, .int l1), (2, .int l2)] → W p l e (gRm 5) s m args below meth c H locs 0 0 (MQ below (gQc 1 D cA ad st' (some (.int r))) args s 0 0 (gA 1 ad)) (F0 m 4 ls [])) {l1 : Int32} {l2 : Int32} {st : gS} {H : Heap} {locs : List Loc} {ls : Array Slot} (hf : fX11_ends_4 k4 l1 l2 st = some (r, st')) (hH : gP0 1 D cA ad st H) (hS : va_S (gA 1 ad) s.heap H locs) (hl : lv_has ls 3 [(0, .ref (ad 0)), (1, .int l1), (2, .int l2)]) : W p l e (gRm 5) s m args below meth c H locs 0 0 (MQ below (gQc 1 D cA ad st' (some (.int r))) args s 0 0 (gA 1 ad)) (F0 m 4 ls []) := by
  obtain ⟨hx, hb, hml, hown, hts⟩ := id hC
  unfold fX11_ends_4 at hf
  refine lv_iload_n (pc := 4) hx hb dX11_ends_4 rfl (lv_at hl 2 rfl) ?_
  refine lv_aload_n (pc := 5) hx hb dX11_ends_5 rfl (lv_at hl 0 rfl) ?_
  refine g_get (pc := 6) (v := .int (st.1 0 48)) hC hU hH gk1_0 g_cl11 48 (by decide) kf_X11_392 rfl dX11_ends_6 ?_
  refine lv_icmp_ge (tgt := 41) (pc := 9) hx hb dX11_ends_9 (by decide) (fun hc => ?_) (fun hc => ?_)
  · have hf := gif_p hc hf
    refine lv_iload_n (pc := 41) hx hb dX11_ends_41 rfl (lv_at hl 1 rfl) ?_
    exact g_iret (pc := 42) hC hret hlk hH hS hf dX11_ends_42
  · have hf := gif_n hc hf
    refine lv_iload_n (pc := 12) hx hb dX11_ends_12 rfl (lv_at hl 1 rfl) ?_
    refine lv_aload_n (pc := 13) hx hb dX11_ends_13 rfl (lv_at hl 0 rfl) ?_
    refine lv_iconst (v := 1) (pc := 14) hx hb dX11_ends_14 (by decide) ?_
    refine lv_iload_n (pc := 15) hx hb dX11_ends_15 rfl (lv_at hl 2 rfl) ?_
    refine lv_ishl (pc := 16) hx hb dX11_ends_16 ?_
    obtain ⟨q4_1, hq4_1, hf⟩ := gbd hf
    refine g_callVi (pc := 17) (rest := [.int l1]) hC hU hH hS hl.1 gk1_0 rfl (by decide) (mX11_onFrom  hq4_1) ky_X11_onFrom km_X11_508 ⟨Nat.le_of_ble_eq_true rfl, Nat.le_of_ble_eq_true rfl⟩ ⟨Nat.zero_le _, Nat.zero_le _⟩ rfl (Nat.le_of_ble_eq_true rfl) dX11_ends_17 rfl (fun H locs hH hS => ?_)
    refine lv_if_ne (tgt := 27) (pc := 20) hx hb dX11_ends_20 (by decide) (fun hc => ?_) (fun hc => ?_)
    · have hf := gif_n hc hf
      refine lv_iconst (v := 0) (pc := 27) hx hb dX11_ends_27 (by decide) ?_
      exact bX11_ends_28 hC hret hlk hU hk4 hf hH hS (lv_sub hl [0, 2] rfl)
    · have hf := gif_p hc hf
      refine lv_iconst (v := 1) (pc := 23) hx hb dX11_ends_23 (by decide) ?_
      refine lv_goto (tgt := 28) (pc := 24) hx hb dX11_ends_24 (by decide) ?_
      exact bX11_ends_28 hC hret hlk hU hk4 hf hH hS (lv_sub hl [0, 2] rfl)
def hX11_ends_4   : Nat → Int32 → Int32 → gS → Option (Int32 × gS)
  | 0 => fun _ _ _ => none
  | n + 1 => fun l1 l2 st => fX11_ends_4 (hX11_ends_4  n) l1 l2 st
set_option maxRecDepth 100000 in
set_option maxHeartbeats 4000000 in
theorem wX11_ends_4  (hC : CallFix p m c cX11_ends 3 s args lw_good RX11) (hret : meth.sig.returnType = (some .int)) (hlk : meth.locks = false) (hU : gU 1 D cA ad s)  {r : Int32} {st' : gS}  : ∀ (n : Nat) {l1 : Int32} {l2 : Int32} {st : gS} {H : Heap} {locs : List Loc} {ls : Array Slot}, hX11_ends_4  n l1 l2 st = some (r, st') → gP0 1 D cA ad st H → va_S (gA 1 ad) s.heap H locs → lv_has ls 3 [(0, .ref (ad 0)), (1, .int l1), (2, .int l2)] → W p l e (gRm 5) s m args below meth c H locs 0 0 (MQ below (gQc 1 D cA ad st' (some (.int r))) args s 0 0 (gA 1 ad)) (F0 m 4 ls []) := by
  intro n
  induction n with
  | zero => intro l1 l2 st H locs ls hf hH hS hl; cases hf
  | succ n ih =>
    intro l1 l2 st H locs ls hf hH hS hl
    exact bX11_ends_4  hC hret hlk hU (fun hf hH hS hl => ih hf hH hS hl) hf hH hS hl
def fX11_ends    (st : gS) : Option (Int32 × gS) :=
  hX11_ends_4 FU 0 0 st
set_option maxRecDepth 100000 in
set_option maxHeartbeats 4000000 in
theorem bX11_ends_0  (hC : CallFix p m c cX11_ends 3 s args lw_good RX11) (hret : meth.sig.returnType = (some .int)) (hlk : meth.locks = false) (hU : gU 1 D cA ad s)  {r : Int32} {st' : gS}   {st : gS} {H : Heap} {locs : List Loc} {ls : Array Slot} (hf : fX11_ends st = some (r, st')) (hH : gP0 1 D cA ad st H) (hS : va_S (gA 1 ad) s.heap H locs) (hl : lv_has ls 3 [(0, .ref (ad 0))]) : W p l e (gRm 5) s m args below meth c H locs 0 0 (MQ below (gQc 1 D cA ad st' (some (.int r))) args s 0 0 (gA 1 ad)) (F0 m 0 ls []) := by
  obtain ⟨hx, hb, hml, hown, hts⟩ := id hC
  unfold fX11_ends at hf
  refine lv_iconst (v := 0) (pc := 0) hx hb dX11_ends_0 (by decide) ?_
  refine lv_istore_n (lv' := [(1, .int 0), (0, .ref (ad 0))]) (pc := 1) hx hb dX11_ends_1 rfl hl (by decide) rfl (fun ls hl => ?_)
  refine lv_iconst (v := 0) (pc := 2) hx hb dX11_ends_2 (by decide) ?_
  refine lv_istore_n (lv' := [(2, .int 0), (1, .int 0), (0, .ref (ad 0))]) (pc := 3) hx hb dX11_ends_3 rfl hl (by decide) rfl (fun ls hl => ?_)
  exact wX11_ends_4 hC hret hlk hU FU hf hH hS (lv_sub hl [2, 1, 0] rfl)
set_option maxRecDepth 100000 in
set_option maxHeartbeats 4000000 in
theorem mX11_ends {l : Launch} {D : va_G} {cA : Nat → ClassId} {ad : Nat → Nat}   {r : Int32} {st st' : gS} (hf : fX11_ends  st = some (r, st')) : gM l yX11_ends cX11_ends 3 (some .int) 5 1 D cA ad st [.ref (ad 0)] (some (.int r)) st' := by
  refine g_met (by decide) (Nat.le_of_ble_eq_true rfl) ?_
  intro p e s m args below meth c ls hC hret hlk hU hH hl
  exact bX11_ends_0 hC hret hlk hU hf hH va_S.rf hl
def fX11_sources_47  (k11 : Int32 → Int32 → gS → Option (Int32 × gS)) (l1 : Int32) (l2 : Int32) (st : gS) : Option (Int32 × gS) :=
  gc (gI l2 16) (if (st.1 25 l2.toNatClampNeg) < 0 then (k11 l1 (l2 + 1) st) else (gc (gI l2 16) (gc (gI l2 16) (if (st.1 25 l2.toNatClampNeg) = (st.1 21 l2.toNatClampNeg) then (k11 l1 (l2 + 1) st) else (gc (gI l2 16) (gl (l1 &&& ((1 <<< ((st.1 25 l2.toNatClampNeg) &&& 31)) ^^^ (-1))) fun x83 => (k11 x83 (l2 + 1) st)))))))
set_option maxRecDepth 100000 in
set_option maxHeartbeats 4000000 in
theorem bX11_sources_47  (hC : CallFix p m c cX11_sources 3 s args lw_good RX11) (hret : meth.sig.returnType = (some .int)) (hlk : meth.locks = false) (hU : gU 1 D cA ad s)  {r : Int32} {st' : gS} {k11 : Int32 → Int32 → gS → Option (Int32 × gS)} (hk11 : ∀ {l1 : Int32} {l2 : Int32} {st : gS} {H : Heap} {locs : List Loc} {ls : Array Slot}, k11 l1 l2 st = some (r, st') → gP0 1 D cA ad st H → va_S (gA 1 ad) s.heap H locs → lv_has ls 3 [(0, .ref (ad 0)), (1, .int l1), (2, .int l2)] → W p l e (gRm 1) s m args below meth c H locs 0 0 (MQ below (gQc 1 D cA ad st' (some (.int r))) args s 0 0 (gA 1 ad)) (F0 m 11 ls [])) {l1 : Int32} {l2 : Int32} {st : gS} {H : Heap} {locs : List Loc} {ls : Array Slot} (hf : fX11_sources_47 k11 l1 l2 st = some (r, st')) (hH : gP0 1 D cA ad st H) (hS : va_S (gA 1 ad) s.heap H locs) (hl : lv_has ls 3 [(0, .ref (ad 0)), (1, .int l1), (2, .int l2)]) : W p l e (gRm 1) s m args below meth c H locs 0 0 (MQ below (gQc 1 D cA ad st' (some (.int r))) args s 0 0 (gA 1 ad)) (F0 m 47 ls []) := by
  obtain ⟨hx, hb, hml, hown, hts⟩ := id hC
  unfold fX11_sources_47 at hf
  refine lv_aload_n (pc := 47) hx hb dX11_sources_47 rfl (lv_at hl 0 rfl) ?_
  refine g_get (pc := 48) (v := .ref (ad 25)) hC hU hH gk1_0 g_cl11 40 (by decide) kf_X11_87 rfl dX11_sources_48 ?_
  refine lv_iload_n (pc := 51) hx hb dX11_sources_51 rfl (lv_at hl 2 rfl) ?_
  obtain ⟨h47_1, hf⟩ := gc_s hf
  refine g_iald (pc := 52) hC hU hH gk1_25 gn1_25 h47_1 dX11_sources_52 ?_
  refine lv_if_lt (tgt := 84) (pc := 53) hx hb dX11_sources_53 (by decide) (fun hc => ?_) (fun hc => ?_)
  · have hf := gif_p hc hf
    refine lv_iinc (v := l2 + 1) (lv' := [(2, .int (l2 + 1)), (0, .ref (ad 0)), (1, .int l1)]) (k := 2) (pc := 84) hx hb dX11_sources_84 hl rfl rfl (by decide) rfl (fun ls hl => ?_)
    refine lv_goto (tgt := 11) (pc := 87) hx hb dX11_sources_87 (by decide) ?_
    exact hk11 hf hH hS (lv_sub hl [1, 2, 0] rfl)
  · have hf := gif_n hc hf
    refine lv_aload_n (pc := 56) hx hb dX11_sources_56 rfl (lv_at hl 0 rfl) ?_
    refine g_get (pc := 57) (v := .ref (ad 25)) hC hU hH gk1_0 g_cl11 40 (by decide) kf_X11_87 rfl dX11_sources_57 ?_
    refine lv_iload_n (pc := 60) hx hb dX11_sources_60 rfl (lv_at hl 2 rfl) ?_
    obtain ⟨h47_2, hf⟩ := gc_s hf
    refine g_iald (pc := 61) hC hU hH gk1_25 gn1_25 h47_2 dX11_sources_61 ?_
    refine lv_aload_n (pc := 62) hx hb dX11_sources_62 rfl (lv_at hl 0 rfl) ?_
    refine g_get (pc := 63) (v := .ref (ad 21)) hC hU hH gk1_0 g_cl11 36 (by decide) kf_X11_75 rfl dX11_sources_63 ?_
    refine lv_iload_n (pc := 66) hx hb dX11_sources_66 rfl (lv_at hl 2 rfl) ?_
    obtain ⟨h47_3, hf⟩ := gc_s hf
    refine g_iald (pc := 67) hC hU hH gk1_21 gn1_21 h47_3 dX11_sources_67 ?_
    refine lv_icmp_eq (tgt := 84) (pc := 68) hx hb dX11_sources_68 (by decide) (fun hc => ?_) (fun hc => ?_)
    · have hf := gif_p hc hf
      refine lv_iinc (v := l2 + 1) (lv' := [(2, .int (l2 + 1)), (0, .ref (ad 0)), (1, .int l1)]) (k := 2) (pc := 84) hx hb dX11_sources_84 hl rfl rfl (by decide) rfl (fun ls hl => ?_)
      refine lv_goto (tgt := 11) (pc := 87) hx hb dX11_sources_87 (by decide) ?_
      exact hk11 hf hH hS (lv_sub hl [1, 2, 0] rfl)
    · have hf := gif_n hc hf
      refine lv_iload_n (pc := 71) hx hb dX11_sources_71 rfl (lv_at hl 1 rfl) ?_
      refine lv_iconst (v := 1) (pc := 72) hx hb dX11_sources_72 (by decide) ?_
      refine lv_aload_n (pc := 73) hx hb dX11_sources_73 rfl (lv_at hl 0 rfl) ?_
      refine g_get (pc := 74) (v := .ref (ad 25)) hC hU hH gk1_0 g_cl11 40 (by decide) kf_X11_87 rfl dX11_sources_74 ?_
      refine lv_iload_n (pc := 77) hx hb dX11_sources_77 rfl (lv_at hl 2 rfl) ?_
      obtain ⟨h47_4, hf⟩ := gc_s hf
      refine g_iald (pc := 78) hC hU hH gk1_25 gn1_25 h47_4 dX11_sources_78 ?_
      refine lv_ishl (pc := 79) hx hb dX11_sources_79 ?_
      refine lv_iconst (v := (-1)) (pc := 80) hx hb dX11_sources_80 (by decide) ?_
      refine lv_ixor (pc := 81) hx hb dX11_sources_81 ?_
      refine lv_iand (pc := 82) hx hb dX11_sources_82 ?_
      refine lv_topi (pc := 83) (fun x83 ex83 => ?_)
      have hf := gl_s ex83 hf
      refine lv_istore_n (lv' := [(1, .int x83), (0, .ref (ad 0)), (2, .int l2)]) (pc := 83) hx hb dX11_sources_83 rfl hl (by decide) rfl (fun ls hl => ?_)
      refine lv_iinc (v := l2 + 1) (lv' := [(2, .int (l2 + 1)), (1, .int x83), (0, .ref (ad 0))]) (k := 2) (pc := 84) hx hb dX11_sources_84 hl rfl rfl (by decide) rfl (fun ls hl => ?_)
      refine lv_goto (tgt := 11) (pc := 87) hx hb dX11_sources_87 (by decide) ?_
      exact hk11 hf hH hS (lv_sub hl [2, 1, 0] rfl)
def fX11_sources_11  (k11 : Int32 → Int32 → gS → Option (Int32 × gS)) (l1 : Int32) (l2 : Int32) (st : gS) : Option (Int32 × gS) :=
  if (st.1 0 50) ≤ l2 then (some (l1, st)) else (gc (gI l2 16) (gc (gI l2 16) (if (st.1 22 l2.toNatClampNeg) = (st.1 21 l2.toNatClampNeg) then (fX11_sources_47 k11 l1 l2 st) else (gc (gI l2 16) (gl (l1 &&& ((1 <<< ((st.1 22 l2.toNatClampNeg) &&& 31)) ^^^ (-1))) fun x46 => (fX11_sources_47 k11 x46 l2 st))))))
set_option maxRecDepth 100000 in
set_option maxHeartbeats 4000000 in
theorem bX11_sources_11  (hC : CallFix p m c cX11_sources 3 s args lw_good RX11) (hret : meth.sig.returnType = (some .int)) (hlk : meth.locks = false) (hU : gU 1 D cA ad s)  {r : Int32} {st' : gS} {k11 : Int32 → Int32 → gS → Option (Int32 × gS)} (hk11 : ∀ {l1 : Int32} {l2 : Int32} {st : gS} {H : Heap} {locs : List Loc} {ls : Array Slot}, k11 l1 l2 st = some (r, st') → gP0 1 D cA ad st H → va_S (gA 1 ad) s.heap H locs → lv_has ls 3 [(0, .ref (ad 0)), (1, .int l1), (2, .int l2)] → W p l e (gRm 1) s m args below meth c H locs 0 0 (MQ below (gQc 1 D cA ad st' (some (.int r))) args s 0 0 (gA 1 ad)) (F0 m 11 ls [])) {l1 : Int32} {l2 : Int32} {st : gS} {H : Heap} {locs : List Loc} {ls : Array Slot} (hf : fX11_sources_11 k11 l1 l2 st = some (r, st')) (hH : gP0 1 D cA ad st H) (hS : va_S (gA 1 ad) s.heap H locs) (hl : lv_has ls 3 [(0, .ref (ad 0)), (1, .int l1), (2, .int l2)]) : W p l e (gRm 1) s m args below meth c H locs 0 0 (MQ below (gQc 1 D cA ad st' (some (.int r))) args s 0 0 (gA 1 ad)) (F0 m 11 ls []) := by
  obtain ⟨hx, hb, hml, hown, hts⟩ := id hC
  unfold fX11_sources_11 at hf
  refine lv_iload_n (pc := 11) hx hb dX11_sources_11 rfl (lv_at hl 2 rfl) ?_
  refine lv_aload_n (pc := 12) hx hb dX11_sources_12 rfl (lv_at hl 0 rfl) ?_
  refine g_get (pc := 13) (v := .int (st.1 0 50)) hC hU hH gk1_0 g_cl11 50 (by decide) kf_X11_398 rfl dX11_sources_13 ?_
  refine lv_icmp_ge (tgt := 90) (pc := 16) hx hb dX11_sources_16 (by decide) (fun hc => ?_) (fun hc => ?_)
  · have hf := gif_p hc hf
    refine lv_iload_n (pc := 90) hx hb dX11_sources_90 rfl (lv_at hl 1 rfl) ?_
    exact g_iret (pc := 91) hC hret hlk hH hS hf dX11_sources_91
  · have hf := gif_n hc hf
    refine lv_aload_n (pc := 19) hx hb dX11_sources_19 rfl (lv_at hl 0 rfl) ?_
    refine g_get (pc := 20) (v := .ref (ad 22)) hC hU hH gk1_0 g_cl11 37 (by decide) kf_X11_78 rfl dX11_sources_20 ?_
    refine lv_iload_n (pc := 23) hx hb dX11_sources_23 rfl (lv_at hl 2 rfl) ?_
    obtain ⟨h11_1, hf⟩ := gc_s hf
    refine g_iald (pc := 24) hC hU hH gk1_22 gn1_22 h11_1 dX11_sources_24 ?_
    refine lv_aload_n (pc := 25) hx hb dX11_sources_25 rfl (lv_at hl 0 rfl) ?_
    refine g_get (pc := 26) (v := .ref (ad 21)) hC hU hH gk1_0 g_cl11 36 (by decide) kf_X11_75 rfl dX11_sources_26 ?_
    refine lv_iload_n (pc := 29) hx hb dX11_sources_29 rfl (lv_at hl 2 rfl) ?_
    obtain ⟨h11_2, hf⟩ := gc_s hf
    refine g_iald (pc := 30) hC hU hH gk1_21 gn1_21 h11_2 dX11_sources_30 ?_
    refine lv_icmp_eq (tgt := 47) (pc := 31) hx hb dX11_sources_31 (by decide) (fun hc => ?_) (fun hc => ?_)
    · have hf := gif_p hc hf
      exact bX11_sources_47 hC hret hlk hU hk11 hf hH hS (lv_sub hl [0, 1, 2] rfl)
    · have hf := gif_n hc hf
      refine lv_iload_n (pc := 34) hx hb dX11_sources_34 rfl (lv_at hl 1 rfl) ?_
      refine lv_iconst (v := 1) (pc := 35) hx hb dX11_sources_35 (by decide) ?_
      refine lv_aload_n (pc := 36) hx hb dX11_sources_36 rfl (lv_at hl 0 rfl) ?_
      refine g_get (pc := 37) (v := .ref (ad 22)) hC hU hH gk1_0 g_cl11 37 (by decide) kf_X11_78 rfl dX11_sources_37 ?_
      refine lv_iload_n (pc := 40) hx hb dX11_sources_40 rfl (lv_at hl 2 rfl) ?_
      obtain ⟨h11_3, hf⟩ := gc_s hf
      refine g_iald (pc := 41) hC hU hH gk1_22 gn1_22 h11_3 dX11_sources_41 ?_
      refine lv_ishl (pc := 42) hx hb dX11_sources_42 ?_
      refine lv_iconst (v := (-1)) (pc := 43) hx hb dX11_sources_43 (by decide) ?_
      refine lv_ixor (pc := 44) hx hb dX11_sources_44 ?_
      refine lv_iand (pc := 45) hx hb dX11_sources_45 ?_
      refine lv_topi (pc := 46) (fun x46 ex46 => ?_)
      have hf := gl_s ex46 hf
      refine lv_istore_n (lv' := [(1, .int x46), (0, .ref (ad 0)), (2, .int l2)]) (pc := 46) hx hb dX11_sources_46 rfl hl (by decide) rfl (fun ls hl => ?_)
      exact bX11_sources_47 hC hret hlk hU hk11 hf hH hS (lv_sub hl [1, 0, 2] rfl)
def hX11_sources_11   : Nat → Int32 → Int32 → gS → Option (Int32 × gS)
  | 0 => fun _ _ _ => none
  | n + 1 => fun l1 l2 st => fX11_sources_11 (hX11_sources_11  n) l1 l2 st
set_option maxRecDepth 100000 in
set_option maxHeartbeats 4000000 in
theorem wX11_sources_11  (hC : CallFix p m c cX11_sources 3 s args lw_good RX11) (hret : meth.sig.returnType = (some .int)) (hlk : meth.locks = false) (hU : gU 1 D cA ad s)  {r : Int32} {st' : gS}  : ∀ (n : Nat) {l1 : Int32} {l2 : Int32} {st : gS} {H : Heap} {locs : List Loc} {ls : Array Slot}, hX11_sources_11  n l1 l2 st = some (r, st') → gP0 1 D cA ad st H → va_S (gA 1 ad) s.heap H locs → lv_has ls 3 [(0, .ref (ad 0)), (1, .int l1), (2, .int l2)] → W p l e (gRm 1) s m args below meth c H locs 0 0 (MQ below (gQc 1 D cA ad st' (some (.int r))) args s 0 0 (gA 1 ad)) (F0 m 11 ls []) := by
  intro n
  induction n with
  | zero => intro l1 l2 st H locs ls hf hH hS hl; cases hf
  | succ n ih =>
    intro l1 l2 st H locs ls hf hH hS hl
    exact bX11_sources_11  hC hret hlk hU (fun hf hH hS hl => ih hf hH hS hl) hf hH hS hl
def fX11_sources    (st : gS) : Option (Int32 × gS) :=
  gl ((1 <<< ((st.1 0 48) &&& 31)) - 1) fun x8 => (hX11_sources_11 FU x8 0 st)
set_option maxRecDepth 100000 in
set_option maxHeartbeats 4000000 in
theorem bX11_sources_0  (hC : CallFix p m c cX11_sources 3 s args lw_good RX11) (hret : meth.sig.returnType = (some .int)) (hlk : meth.locks = false) (hU : gU 1 D cA ad s)  {r : Int32} {st' : gS}   {st : gS} {H : Heap} {locs : List Loc} {ls : Array Slot} (hf : fX11_sources st = some (r, st')) (hH : gP0 1 D cA ad st H) (hS : va_S (gA 1 ad) s.heap H locs) (hl : lv_has ls 3 [(0, .ref (ad 0))]) : W p l e (gRm 1) s m args below meth c H locs 0 0 (MQ below (gQc 1 D cA ad st' (some (.int r))) args s 0 0 (gA 1 ad)) (F0 m 0 ls []) := by
  obtain ⟨hx, hb, hml, hown, hts⟩ := id hC
  unfold fX11_sources at hf
  refine lv_iconst (v := 1) (pc := 0) hx hb dX11_sources_0 (by decide) ?_
  refine lv_aload_n (pc := 1) hx hb dX11_sources_1 rfl (lv_at hl 0 rfl) ?_
  refine g_get (pc := 2) (v := .int (st.1 0 48)) hC hU hH gk1_0 g_cl11 48 (by decide) kf_X11_392 rfl dX11_sources_2 ?_
  refine lv_ishl (pc := 5) hx hb dX11_sources_5 ?_
  refine lv_iconst (v := 1) (pc := 6) hx hb dX11_sources_6 (by decide) ?_
  refine lv_isub (pc := 7) hx hb dX11_sources_7 ?_
  refine lv_topi (pc := 8) (fun x8 ex8 => ?_)
  have hf := gl_s ex8 hf
  refine lv_istore_n (lv' := [(1, .int x8), (0, .ref (ad 0))]) (pc := 8) hx hb dX11_sources_8 rfl hl (by decide) rfl (fun ls hl => ?_)
  refine lv_iconst (v := 0) (pc := 9) hx hb dX11_sources_9 (by decide) ?_
  refine lv_istore_n (lv' := [(2, .int 0), (1, .int x8), (0, .ref (ad 0))]) (pc := 10) hx hb dX11_sources_10 rfl hl (by decide) rfl (fun ls hl => ?_)
  exact wX11_sources_11 hC hret hlk hU FU hf hH hS (lv_sub hl [2, 1, 0] rfl)
set_option maxRecDepth 100000 in
set_option maxHeartbeats 4000000 in
theorem mX11_sources {l : Launch} {D : va_G} {cA : Nat → ClassId} {ad : Nat → Nat}   {r : Int32} {st st' : gS} (hf : fX11_sources  st = some (r, st')) : gM l yX11_sources cX11_sources 3 (some .int) 1 1 D cA ad st [.ref (ad 0)] (some (.int r)) st' := by
  refine g_met (by decide) (Nat.le_of_ble_eq_true rfl) ?_
  intro p e s m args below meth c ls hC hret hlk hU hH hl
  exact bX11_sources_0 hC hret hlk hU hf hH va_S.rf hl
def fX11_will_26 (a1 : Int32) (a2 : Int32) (k26 : Int32 → gS → Option (Int32 × gS)) (l3 : Int32) (st : gS) : Option (Int32 × gS) :=
  if a2 ≤ l3 then (gc (gI (4 + a1) 18) (some (st.1 29 (4 + a1).toNatClampNeg, st))) else ((fX11_goNight st).bind fun q26_1 => (k26 (l3 + 1) q26_1.2))
set_option maxRecDepth 100000 in
set_option maxHeartbeats 4000000 in
theorem bX11_will_26 {a1 : Int32} {a2 : Int32} (hC : CallFix p m c cX11_will 4 s args lw_good RX11) (hret : meth.sig.returnType = (some .int)) (hlk : meth.locks = false) (hU : gU 1 D cA ad s)  {r : Int32} {st' : gS} {k26 : Int32 → gS → Option (Int32 × gS)} (hk26 : ∀ {l3 : Int32} {st : gS} {H : Heap} {locs : List Loc} {ls : Array Slot}, k26 l3 st = some (r, st') → gP0 1 D cA ad st H → va_S (gA 1 ad) s.heap H locs → lv_has ls 4 [(0, .ref (ad 0)), (1, .int a1), (2, .int a2), (3, .int l3)] → W p l e (gRm 3) s m args below meth c H locs 0 0 (MQ below (gQc 1 D cA ad st' (some (.int r))) args s 0 0 (gA 1 ad)) (F0 m 26 ls [])) {l3 : Int32} {st : gS} {H : Heap} {locs : List Loc} {ls : Array Slot} (hf : fX11_will_26 a1 a2 k26 l3 st = some (r, st')) (hH : gP0 1 D cA ad st H) (hS : va_S (gA 1 ad) s.heap H locs) (hl : lv_has ls 4 [(0, .ref (ad 0)), (1, .int a1), (2, .int a2), (3, .int l3)]) : W p l e (gRm 3) s m args below meth c H locs 0 0 (MQ below (gQc 1 D cA ad st' (some (.int r))) args s 0 0 (gA 1 ad)) (F0 m 26 ls []) := by
  obtain ⟨hx, hb, hml, hown, hts⟩ := id hC
  unfold fX11_will_26 at hf
  refine lv_iload_n (pc := 26) hx hb dX11_will_26 rfl (lv_at hl 3 rfl) ?_
  refine lv_iload_n (pc := 27) hx hb dX11_will_27 rfl (lv_at hl 2 rfl) ?_
  refine lv_icmp_ge (tgt := 42) (pc := 28) hx hb dX11_will_28 (by decide) (fun hc => ?_) (fun hc => ?_)
  · have hf := gif_p hc hf
    refine lv_aload_n (pc := 42) hx hb dX11_will_42 rfl (lv_at hl 0 rfl) ?_
    refine g_get (pc := 43) (v := .ref (ad 29)) hC hU hH gk1_0 g_cl11 56 (by decide) kf_X11_103 rfl dX11_will_43 ?_
    refine lv_iconst (v := 4) (pc := 46) hx hb dX11_will_46 (by decide) ?_
    refine lv_iload_n (pc := 47) hx hb dX11_will_47 rfl (lv_at hl 1 rfl) ?_
    refine lv_iadd (pc := 48) hx hb dX11_will_48 ?_
    obtain ⟨h26_1, hf⟩ := gc_s hf
    refine g_iald (pc := 49) hC hU hH gk1_29 gn1_29 h26_1 dX11_will_49 ?_
    exact g_iret (pc := 50) hC hret hlk hH hS hf dX11_will_50
  · have hf := gif_n hc hf
    refine lv_aload_n (pc := 31) hx hb dX11_will_31 rfl (lv_at hl 0 rfl) ?_
    obtain ⟨q26_1, hq26_1, hf⟩ := gbd hf
    refine g_callVi (pc := 32) (rest := []) hC hU hH hS hl.1 gk1_0 rfl (by decide) (mX11_goNight  hq26_1) ky_X11_goNight km_X11_458 ⟨Nat.le_of_ble_eq_true rfl, Nat.le_of_ble_eq_true rfl⟩ ⟨Nat.zero_le _, Nat.zero_le _⟩ rfl (Nat.le_of_ble_eq_true rfl) dX11_will_32 rfl (fun H locs hH hS => ?_)
    refine lv_pop (pc := 35) hx hb dX11_will_35 rfl ?_
    refine lv_iinc (v := l3 + 1) (lv' := [(3, .int (l3 + 1)), (0, .ref (ad 0)), (1, .int a1), (2, .int a2)]) (k := 3) (pc := 36) hx hb dX11_will_36 hl rfl rfl (by decide) rfl (fun ls hl => ?_)
    refine lv_goto (tgt := 26) (pc := 39) hx hb dX11_will_39 (by decide) ?_
    exact hk26 hf hH hS (lv_sub hl [1, 2, 3, 0] rfl)
def hX11_will_26 (a1 : Int32) (a2 : Int32)  : Nat → Int32 → gS → Option (Int32 × gS)
  | 0 => fun _ _ => none
  | n + 1 => fun l3 st => fX11_will_26 a1 a2 (hX11_will_26 a1 a2 n) l3 st
set_option maxRecDepth 100000 in
set_option maxHeartbeats 4000000 in
theorem wX11_will_26 {a1 : Int32} {a2 : Int32} (hC : CallFix p m c cX11_will 4 s args lw_good RX11) (hret : meth.sig.returnType = (some .int)) (hlk : meth.locks = false) (hU : gU 1 D cA ad s)  {r : Int32} {st' : gS}  : ∀ (n : Nat) {l3 : Int32} {st : gS} {H : Heap} {locs : List Loc} {ls : Array Slot}, hX11_will_26 a1 a2 n l3 st = some (r, st') → gP0 1 D cA ad st H → va_S (gA 1 ad) s.heap H locs → lv_has ls 4 [(0, .ref (ad 0)), (1, .int a1), (2, .int a2), (3, .int l3)] → W p l e (gRm 3) s m args below meth c H locs 0 0 (MQ below (gQc 1 D cA ad st' (some (.int r))) args s 0 0 (gA 1 ad)) (F0 m 26 ls []) := by
  intro n
  induction n with
  | zero => intro l3 st H locs ls hf hH hS hl; cases hf
  | succ n ih =>
    intro l3 st H locs ls hf hH hS hl
    exact bX11_will_26 (a1 := a1) (a2 := a2) hC hret hlk hU (fun hf hH hS hl => ih hf hH hS hl) hf hH hS hl
def fX11_will (a1 : Int32) (a2 : Int32)   (st : gS) : Option (Int32 × gS) :=
  (fX11_isTribe a1 st).bind fun q0_1 => (if q0_1.1 = 0 then (some ((-1), q0_1.2)) else ((fX11_isIn a2 0 60 q0_1.2).bind fun q0_2 => (if q0_2.1 = 0 then (some ((-1), q0_2.2)) else ((fX11_load q0_2.2).bind fun q0_3 => (hX11_will_26 a1 a2 FU 0 q0_3)))))
set_option maxRecDepth 100000 in
set_option maxHeartbeats 4000000 in
theorem bX11_will_0 {a1 : Int32} {a2 : Int32} (hC : CallFix p m c cX11_will 4 s args lw_good RX11) (hret : meth.sig.returnType = (some .int)) (hlk : meth.locks = false) (hU : gU 1 D cA ad s)  {r : Int32} {st' : gS}   {st : gS} {H : Heap} {locs : List Loc} {ls : Array Slot} (hf : fX11_will a1 a2 st = some (r, st')) (hH : gP0 1 D cA ad st H) (hS : va_S (gA 1 ad) s.heap H locs) (hl : lv_has ls 4 [(0, .ref (ad 0)), (1, .int a1), (2, .int a2)]) : W p l e (gRm 3) s m args below meth c H locs 0 0 (MQ below (gQc 1 D cA ad st' (some (.int r))) args s 0 0 (gA 1 ad)) (F0 m 0 ls []) := by
  obtain ⟨hx, hb, hml, hown, hts⟩ := id hC
  unfold fX11_will at hf
  refine lv_aload_n (pc := 0) hx hb dX11_will_0 rfl (lv_at hl 0 rfl) ?_
  refine lv_iload_n (pc := 1) hx hb dX11_will_1 rfl (lv_at hl 1 rfl) ?_
  obtain ⟨q0_1, hq0_1, hf⟩ := gbd hf
  refine g_callVi (pc := 2) (rest := []) hC hU hH hS hl.1 gk1_0 rfl (by decide) (mX11_isTribe  hq0_1) ky_X11_isTribe km_X11_431 ⟨Nat.le_of_ble_eq_true rfl, Nat.le_of_ble_eq_true rfl⟩ ⟨Nat.zero_le _, Nat.zero_le _⟩ rfl (Nat.le_of_ble_eq_true rfl) dX11_will_2 rfl (fun H locs hH hS => ?_)
  refine lv_if_eq (tgt := 18) (pc := 5) hx hb dX11_will_5 (by decide) (fun hc => ?_) (fun hc => ?_)
  · have hf := gif_p hc hf
    refine lv_iconst (v := (-1)) (pc := 18) hx hb dX11_will_18 (by decide) ?_
    exact g_iret (pc := 19) hC hret hlk hH hS hf dX11_will_19
  · have hf := gif_n hc hf
    refine lv_iload_n (pc := 8) hx hb dX11_will_8 rfl (lv_at hl 2 rfl) ?_
    refine lv_iconst (v := 0) (pc := 9) hx hb dX11_will_9 (by decide) ?_
    refine lv_bipush (v := 60) (pc := 10) hx hb dX11_will_10 (by decide) ?_
    obtain ⟨q0_2, hq0_2, hf⟩ := gbd hf
    refine g_callSi (pc := 12) (rest := []) hC hU hH hS hl.1 (mX11_isIn  hq0_2) ky_X11_isIn km_X11_416 ⟨Nat.le_of_ble_eq_true rfl, Nat.le_of_ble_eq_true rfl⟩ ⟨Nat.zero_le _, Nat.zero_le _⟩ rfl (Nat.le_of_ble_eq_true rfl) dX11_will_12 rfl (fun H locs hH hS => ?_)
    refine lv_if_ne (tgt := 20) (pc := 15) hx hb dX11_will_15 (by decide) (fun hc => ?_) (fun hc => ?_)
    · have hf := gif_n hc hf
      refine lv_aload_n (pc := 20) hx hb dX11_will_20 rfl (lv_at hl 0 rfl) ?_
      obtain ⟨q0_3, hq0_3, hf⟩ := gbd hf
      refine g_callVv (pc := 21) (rest := []) hC hU hH hS hl.1 gk1_0 rfl (by decide) (mX11_load  hq0_3) ky_X11_load km_X11_455 ⟨Nat.le_of_ble_eq_true rfl, Nat.le_of_ble_eq_true rfl⟩ ⟨Nat.zero_le _, Nat.zero_le _⟩ rfl (Nat.le_of_ble_eq_true rfl) dX11_will_21 rfl (fun H locs hH hS => ?_)
      refine lv_iconst (v := 0) (pc := 24) hx hb dX11_will_24 (by decide) ?_
      refine lv_istore_n (lv' := [(3, .int 0), (0, .ref (ad 0)), (1, .int a1), (2, .int a2)]) (pc := 25) hx hb dX11_will_25 rfl hl (by decide) rfl (fun ls hl => ?_)
      exact wX11_will_26 hC hret hlk hU FU hf hH hS (lv_sub hl [1, 2, 3, 0] rfl)
    · have hf := gif_p hc hf
      refine lv_iconst (v := (-1)) (pc := 18) hx hb dX11_will_18 (by decide) ?_
      exact g_iret (pc := 19) hC hret hlk hH hS hf dX11_will_19
set_option maxRecDepth 100000 in
set_option maxHeartbeats 4000000 in
theorem mX11_will {l : Launch} {D : va_G} {cA : Nat → ClassId} {ad : Nat → Nat} {a1 : Int32} {a2 : Int32}  {r : Int32} {st st' : gS} (hf : fX11_will a1 a2 st = some (r, st')) : gM l yX11_will cX11_will 4 (some .int) 3 1 D cA ad st [.ref (ad 0), .int a1, .int a2] (some (.int r)) st' := by
  refine g_met (by decide) (Nat.le_of_ble_eq_true rfl) ?_
  intro p e s m args below meth c ls hC hret hlk hU hH hl
  exact bX11_will_0 hC hret hlk hU hf hH va_S.rf hl
def fX11_mirror_41 (a1 : Int32) (k15 : Int32 → Int32 → gS → Option (Int32 × gS)) (l3 : Int32) (s0 : Int32) (s1 : Int32) (s2 : Int32) (s4 : Int32) (st : gS) : Option (Int32 × gS) :=
  (fX11_canBy s2 s1 s0 st).bind fun q41_1 => ((fX11_truth q41_1.1 q41_1.2).bind fun q41_2 => ((fX11_can a1 l3 q41_2.2).bind fun q41_3 => ((fX11_truth q41_3.1 q41_3.2).bind fun q41_4 => (gl (s4 + (q41_2.1 - q41_4.1)) fun x58 => (k15 x58 (l3 + 1) q41_4.2)))))
set_option maxRecDepth 100000 in
set_option maxHeartbeats 4000000 in
theorem bX11_mirror_41 {a1 : Int32} (hC : CallFix p m c cX11_mirror 4 s args lw_good RX11) (hret : meth.sig.returnType = (some .int)) (hlk : meth.locks = false) (hU : gU 1 D cA ad s)  {r : Int32} {st' : gS} {k15 : Int32 → Int32 → gS → Option (Int32 × gS)} (hk15 : ∀ {l2 : Int32} {l3 : Int32} {st : gS} {H : Heap} {locs : List Loc} {ls : Array Slot}, k15 l2 l3 st = some (r, st') → gP0 1 D cA ad st H → va_S (gA 1 ad) s.heap H locs → lv_has ls 4 [(0, .ref (ad 0)), (1, .int a1), (2, .int l2), (3, .int l3)] → W p l e (gRm 3) s m args below meth c H locs 0 0 (MQ below (gQc 1 D cA ad st' (some (.int r))) args s 0 0 (gA 1 ad)) (F0 m 15 ls [])) {l3 : Int32} {s0 : Int32} {s1 : Int32} {s2 : Int32} {s4 : Int32} {st : gS} {H : Heap} {locs : List Loc} {ls : Array Slot} (hf : fX11_mirror_41 a1 k15 l3 s0 s1 s2 s4 st = some (r, st')) (hH : gP0 1 D cA ad st H) (hS : va_S (gA 1 ad) s.heap H locs) (hl : lv_has ls 4 [(0, .ref (ad 0)), (1, .int a1), (3, .int l3)]) : W p l e (gRm 3) s m args below meth c H locs 0 0 (MQ below (gQc 1 D cA ad st' (some (.int r))) args s 0 0 (gA 1 ad)) (F0 m 41 ls [.int s0, .int s1, .int s2, .ref (ad 0), .int s4]) := by
  obtain ⟨hx, hb, hml, hown, hts⟩ := id hC
  unfold fX11_mirror_41 at hf
  obtain ⟨q41_1, hq41_1, hf⟩ := gbd hf
  refine g_callVi (pc := 41) (rest := [.int s4]) hC hU hH hS hl.1 gk1_0 rfl (by decide) (mX11_canBy  hq41_1) ky_X11_canBy km_X11_420 ⟨Nat.le_of_ble_eq_true rfl, Nat.le_of_ble_eq_true rfl⟩ ⟨Nat.zero_le _, Nat.zero_le _⟩ rfl (Nat.le_of_ble_eq_true rfl) dX11_mirror_41 rfl (fun H locs hH hS => ?_)
  obtain ⟨q41_2, hq41_2, hf⟩ := gbd hf
  refine g_callSi (pc := 44) (rest := [.int s4]) hC hU hH hS hl.1 (mX11_truth  hq41_2) ky_X11_truth km_X11_325 ⟨Nat.le_of_ble_eq_true rfl, Nat.le_of_ble_eq_true rfl⟩ ⟨Nat.zero_le _, Nat.zero_le _⟩ rfl (Nat.le_of_ble_eq_true rfl) dX11_mirror_44 rfl (fun H locs hH hS => ?_)
  refine lv_aload_n (pc := 47) hx hb dX11_mirror_47 rfl (lv_at hl 0 rfl) ?_
  refine lv_iload_n (pc := 48) hx hb dX11_mirror_48 rfl (lv_at hl 1 rfl) ?_
  refine lv_iload_n (pc := 49) hx hb dX11_mirror_49 rfl (lv_at hl 2 rfl) ?_
  obtain ⟨q41_3, hq41_3, hf⟩ := gbd hf
  refine g_callVi (pc := 50) (rest := [.int q41_2.1, .int s4]) hC hU hH hS hl.1 gk1_0 rfl (by decide) (mX11_can  hq41_3) ky_X11_can km_X11_427 ⟨Nat.le_of_ble_eq_true rfl, Nat.le_of_ble_eq_true rfl⟩ ⟨Nat.zero_le _, Nat.zero_le _⟩ rfl (Nat.le_of_ble_eq_true rfl) dX11_mirror_50 rfl (fun H locs hH hS => ?_)
  obtain ⟨q41_4, hq41_4, hf⟩ := gbd hf
  refine g_callSi (pc := 53) (rest := [.int q41_2.1, .int s4]) hC hU hH hS hl.1 (mX11_truth  hq41_4) ky_X11_truth km_X11_325 ⟨Nat.le_of_ble_eq_true rfl, Nat.le_of_ble_eq_true rfl⟩ ⟨Nat.zero_le _, Nat.zero_le _⟩ rfl (Nat.le_of_ble_eq_true rfl) dX11_mirror_53 rfl (fun H locs hH hS => ?_)
  refine lv_isub (pc := 56) hx hb dX11_mirror_56 ?_
  refine lv_iadd (pc := 57) hx hb dX11_mirror_57 ?_
  refine lv_topi (pc := 58) (fun x58 ex58 => ?_)
  have hf := gl_s ex58 hf
  refine lv_istore_n (lv' := [(2, .int x58), (0, .ref (ad 0)), (1, .int a1), (3, .int l3)]) (pc := 58) hx hb dX11_mirror_58 rfl hl (by decide) rfl (fun ls hl => ?_)
  refine lv_iinc (v := l3 + 1) (lv' := [(3, .int (l3 + 1)), (2, .int x58), (0, .ref (ad 0)), (1, .int a1)]) (k := 3) (pc := 59) hx hb dX11_mirror_59 hl rfl rfl (by decide) rfl (fun ls hl => ?_)
  refine lv_goto (tgt := 15) (pc := 62) hx hb dX11_mirror_62 (by decide) ?_
  exact hk15 hf hH hS (lv_sub hl [2, 3, 1, 0] rfl)
def fX11_mirror_15 (a1 : Int32) (k15 : Int32 → Int32 → gS → Option (Int32 × gS)) (l2 : Int32) (l3 : Int32) (st : gS) : Option (Int32 × gS) :=
  if (st.1 0 50) ≤ l3 then (some (l2, st)) else (gc (gI a1 5) (if (st.1 27 a1.toNatClampNeg) = 0 then (fX11_mirror_41 a1 k15 l3 1 l3 a1 l2 st) else (fX11_mirror_41 a1 k15 l3 0 l3 a1 l2 st)))
set_option maxRecDepth 100000 in
set_option maxHeartbeats 4000000 in
theorem bX11_mirror_15 {a1 : Int32} (hC : CallFix p m c cX11_mirror 4 s args lw_good RX11) (hret : meth.sig.returnType = (some .int)) (hlk : meth.locks = false) (hU : gU 1 D cA ad s)  {r : Int32} {st' : gS} {k15 : Int32 → Int32 → gS → Option (Int32 × gS)} (hk15 : ∀ {l2 : Int32} {l3 : Int32} {st : gS} {H : Heap} {locs : List Loc} {ls : Array Slot}, k15 l2 l3 st = some (r, st') → gP0 1 D cA ad st H → va_S (gA 1 ad) s.heap H locs → lv_has ls 4 [(0, .ref (ad 0)), (1, .int a1), (2, .int l2), (3, .int l3)] → W p l e (gRm 3) s m args below meth c H locs 0 0 (MQ below (gQc 1 D cA ad st' (some (.int r))) args s 0 0 (gA 1 ad)) (F0 m 15 ls [])) {l2 : Int32} {l3 : Int32} {st : gS} {H : Heap} {locs : List Loc} {ls : Array Slot} (hf : fX11_mirror_15 a1 k15 l2 l3 st = some (r, st')) (hH : gP0 1 D cA ad st H) (hS : va_S (gA 1 ad) s.heap H locs) (hl : lv_has ls 4 [(0, .ref (ad 0)), (1, .int a1), (2, .int l2), (3, .int l3)]) : W p l e (gRm 3) s m args below meth c H locs 0 0 (MQ below (gQc 1 D cA ad st' (some (.int r))) args s 0 0 (gA 1 ad)) (F0 m 15 ls []) := by
  obtain ⟨hx, hb, hml, hown, hts⟩ := id hC
  unfold fX11_mirror_15 at hf
  refine lv_iload_n (pc := 15) hx hb dX11_mirror_15 rfl (lv_at hl 3 rfl) ?_
  refine lv_aload_n (pc := 16) hx hb dX11_mirror_16 rfl (lv_at hl 0 rfl) ?_
  refine g_get (pc := 17) (v := .int (st.1 0 50)) hC hU hH gk1_0 g_cl11 50 (by decide) kf_X11_398 rfl dX11_mirror_17 ?_
  refine lv_icmp_ge (tgt := 65) (pc := 20) hx hb dX11_mirror_20 (by decide) (fun hc => ?_) (fun hc => ?_)
  · have hf := gif_p hc hf
    refine lv_iload_n (pc := 65) hx hb dX11_mirror_65 rfl (lv_at hl 2 rfl) ?_
    exact g_iret (pc := 66) hC hret hlk hH hS hf dX11_mirror_66
  · have hf := gif_n hc hf
    refine lv_iload_n (pc := 23) hx hb dX11_mirror_23 rfl (lv_at hl 2 rfl) ?_
    refine lv_aload_n (pc := 24) hx hb dX11_mirror_24 rfl (lv_at hl 0 rfl) ?_
    refine lv_iload_n (pc := 25) hx hb dX11_mirror_25 rfl (lv_at hl 1 rfl) ?_
    refine lv_iload_n (pc := 26) hx hb dX11_mirror_26 rfl (lv_at hl 3 rfl) ?_
    refine lv_aload_n (pc := 27) hx hb dX11_mirror_27 rfl (lv_at hl 0 rfl) ?_
    refine g_get (pc := 28) (v := .ref (ad 27)) hC hU hH gk1_0 g_cl11 42 (by decide) kf_X11_94 rfl dX11_mirror_28 ?_
    refine lv_iload_n (pc := 31) hx hb dX11_mirror_31 rfl (lv_at hl 1 rfl) ?_
    obtain ⟨h15_1, hf⟩ := gc_s hf
    refine g_zald (pc := 32) hC hU hH gk1_27 gn1_27 h15_1 dX11_mirror_32 ?_
    refine lv_if_ne (tgt := 40) (pc := 33) hx hb dX11_mirror_33 (by decide) (fun hc => ?_) (fun hc => ?_)
    · have hf := gif_n hc hf
      refine lv_iconst (v := 0) (pc := 40) hx hb dX11_mirror_40 (by decide) ?_
      exact bX11_mirror_41 hC hret hlk hU hk15 hf hH hS (lv_sub hl [0, 1, 3] rfl)
    · have hf := gif_p hc hf
      refine lv_iconst (v := 1) (pc := 36) hx hb dX11_mirror_36 (by decide) ?_
      refine lv_goto (tgt := 41) (pc := 37) hx hb dX11_mirror_37 (by decide) ?_
      exact bX11_mirror_41 hC hret hlk hU hk15 hf hH hS (lv_sub hl [0, 1, 3] rfl)
def hX11_mirror_15 (a1 : Int32)  : Nat → Int32 → Int32 → gS → Option (Int32 × gS)
  | 0 => fun _ _ _ => none
  | n + 1 => fun l2 l3 st => fX11_mirror_15 a1 (hX11_mirror_15 a1 n) l2 l3 st
set_option maxRecDepth 100000 in
set_option maxHeartbeats 4000000 in
theorem wX11_mirror_15 {a1 : Int32} (hC : CallFix p m c cX11_mirror 4 s args lw_good RX11) (hret : meth.sig.returnType = (some .int)) (hlk : meth.locks = false) (hU : gU 1 D cA ad s)  {r : Int32} {st' : gS}  : ∀ (n : Nat) {l2 : Int32} {l3 : Int32} {st : gS} {H : Heap} {locs : List Loc} {ls : Array Slot}, hX11_mirror_15 a1 n l2 l3 st = some (r, st') → gP0 1 D cA ad st H → va_S (gA 1 ad) s.heap H locs → lv_has ls 4 [(0, .ref (ad 0)), (1, .int a1), (2, .int l2), (3, .int l3)] → W p l e (gRm 3) s m args below meth c H locs 0 0 (MQ below (gQc 1 D cA ad st' (some (.int r))) args s 0 0 (gA 1 ad)) (F0 m 15 ls []) := by
  intro n
  induction n with
  | zero => intro l2 l3 st H locs ls hf hH hS hl; cases hf
  | succ n ih =>
    intro l2 l3 st H locs ls hf hH hS hl
    exact bX11_mirror_15 (a1 := a1) hC hret hlk hU (fun hf hH hS hl => ih hf hH hS hl) hf hH hS hl
def fX11_mirror (a1 : Int32)   (st : gS) : Option (Int32 × gS) :=
  (fX11_isTribe a1 st).bind fun q0_1 => (if q0_1.1 = 0 then (some ((-100), q0_1.2)) else (hX11_mirror_15 a1 FU 0 0 q0_1.2))
set_option maxRecDepth 100000 in
set_option maxHeartbeats 4000000 in
theorem bX11_mirror_0 {a1 : Int32} (hC : CallFix p m c cX11_mirror 4 s args lw_good RX11) (hret : meth.sig.returnType = (some .int)) (hlk : meth.locks = false) (hU : gU 1 D cA ad s)  {r : Int32} {st' : gS}   {st : gS} {H : Heap} {locs : List Loc} {ls : Array Slot} (hf : fX11_mirror a1 st = some (r, st')) (hH : gP0 1 D cA ad st H) (hS : va_S (gA 1 ad) s.heap H locs) (hl : lv_has ls 4 [(0, .ref (ad 0)), (1, .int a1)]) : W p l e (gRm 3) s m args below meth c H locs 0 0 (MQ below (gQc 1 D cA ad st' (some (.int r))) args s 0 0 (gA 1 ad)) (F0 m 0 ls []) := by
  obtain ⟨hx, hb, hml, hown, hts⟩ := id hC
  unfold fX11_mirror at hf
  refine lv_aload_n (pc := 0) hx hb dX11_mirror_0 rfl (lv_at hl 0 rfl) ?_
  refine lv_iload_n (pc := 1) hx hb dX11_mirror_1 rfl (lv_at hl 1 rfl) ?_
  obtain ⟨q0_1, hq0_1, hf⟩ := gbd hf
  refine g_callVi (pc := 2) (rest := []) hC hU hH hS hl.1 gk1_0 rfl (by decide) (mX11_isTribe  hq0_1) ky_X11_isTribe km_X11_431 ⟨Nat.le_of_ble_eq_true rfl, Nat.le_of_ble_eq_true rfl⟩ ⟨Nat.zero_le _, Nat.zero_le _⟩ rfl (Nat.le_of_ble_eq_true rfl) dX11_mirror_2 rfl (fun H locs hH hS => ?_)
  refine lv_if_ne (tgt := 11) (pc := 5) hx hb dX11_mirror_5 (by decide) (fun hc => ?_) (fun hc => ?_)
  · have hf := gif_n hc hf
    refine lv_iconst (v := 0) (pc := 11) hx hb dX11_mirror_11 (by decide) ?_
    refine lv_istore_n (lv' := [(2, .int 0), (0, .ref (ad 0)), (1, .int a1)]) (pc := 12) hx hb dX11_mirror_12 rfl hl (by decide) rfl (fun ls hl => ?_)
    refine lv_iconst (v := 0) (pc := 13) hx hb dX11_mirror_13 (by decide) ?_
    refine lv_istore_n (lv' := [(3, .int 0), (2, .int 0), (0, .ref (ad 0)), (1, .int a1)]) (pc := 14) hx hb dX11_mirror_14 rfl hl (by decide) rfl (fun ls hl => ?_)
    exact wX11_mirror_15 hC hret hlk hU FU hf hH hS (lv_sub hl [2, 3, 1, 0] rfl)
  · have hf := gif_p hc hf
    refine lv_bipush (v := (-100)) (pc := 8) hx hb dX11_mirror_8 (by decide) ?_
    exact g_iret (pc := 10) hC hret hlk hH hS hf dX11_mirror_10
set_option maxRecDepth 100000 in
set_option maxHeartbeats 4000000 in
theorem mX11_mirror {l : Launch} {D : va_G} {cA : Nat → ClassId} {ad : Nat → Nat} {a1 : Int32}  {r : Int32} {st st' : gS} (hf : fX11_mirror a1 st = some (r, st')) : gM l yX11_mirror cX11_mirror 4 (some .int) 3 1 D cA ad st [.ref (ad 0), .int a1] (some (.int r)) st' := by
  refine g_met (by decide) (Nat.le_of_ble_eq_true rfl) ?_
  intro p e s m args below meth c ls hC hret hlk hU hH hl
  exact bX11_mirror_0 hC hret hlk hU hf hH va_S.rf hl
def fX11_lies (a1 : Int32)   (st : gS) : Option (Int32 × gS) :=
  (fX11_isIn a1 0 ((st.1 0 62) - 1) st).bind fun q0_1 => (if q0_1.1 = 0 then (some ((-1), q0_1.2)) else (gc (gI a1 16) (some (q0_1.2.1 32 a1.toNatClampNeg, q0_1.2))))
set_option maxRecDepth 100000 in
set_option maxHeartbeats 4000000 in
theorem bX11_lies_0 {a1 : Int32} (hC : CallFix p m c cX11_lies 2 s args lw_good RX11) (hret : meth.sig.returnType = (some .int)) (hlk : meth.locks = false) (hU : gU 1 D cA ad s)  {r : Int32} {st' : gS}   {st : gS} {H : Heap} {locs : List Loc} {ls : Array Slot} (hf : fX11_lies a1 st = some (r, st')) (hH : gP0 1 D cA ad st H) (hS : va_S (gA 1 ad) s.heap H locs) (hl : lv_has ls 2 [(0, .ref (ad 0)), (1, .int a1)]) : W p l e (gRm 2) s m args below meth c H locs 0 0 (MQ below (gQc 1 D cA ad st' (some (.int r))) args s 0 0 (gA 1 ad)) (F0 m 0 ls []) := by
  obtain ⟨hx, hb, hml, hown, hts⟩ := id hC
  unfold fX11_lies at hf
  refine lv_iload_n (pc := 0) hx hb dX11_lies_0 rfl (lv_at hl 1 rfl) ?_
  refine lv_iconst (v := 0) (pc := 1) hx hb dX11_lies_1 (by decide) ?_
  refine lv_aload_n (pc := 2) hx hb dX11_lies_2 rfl (lv_at hl 0 rfl) ?_
  refine g_get (pc := 3) (v := .int (st.1 0 62)) hC hU hH gk1_0 g_cl11 62 (by decide) kf_X11_413 rfl dX11_lies_3 ?_
  refine lv_iconst (v := 1) (pc := 6) hx hb dX11_lies_6 (by decide) ?_
  refine lv_isub (pc := 7) hx hb dX11_lies_7 ?_
  obtain ⟨q0_1, hq0_1, hf⟩ := gbd hf
  refine g_callSi (pc := 8) (rest := []) hC hU hH hS hl.1 (mX11_isIn  hq0_1) ky_X11_isIn km_X11_416 ⟨Nat.le_of_ble_eq_true rfl, Nat.le_of_ble_eq_true rfl⟩ ⟨Nat.zero_le _, Nat.zero_le _⟩ rfl (Nat.le_of_ble_eq_true rfl) dX11_lies_8 rfl (fun H locs hH hS => ?_)
  refine lv_if_eq (tgt := 23) (pc := 11) hx hb dX11_lies_11 (by decide) (fun hc => ?_) (fun hc => ?_)
  · have hf := gif_p hc hf
    refine lv_iconst (v := (-1)) (pc := 23) hx hb dX11_lies_23 (by decide) ?_
    exact g_iret (pc := 24) hC hret hlk hH hS hf dX11_lies_24
  · have hf := gif_n hc hf
    refine lv_aload_n (pc := 14) hx hb dX11_lies_14 rfl (lv_at hl 0 rfl) ?_
    refine g_get (pc := 15) (v := .ref (ad 32)) hC hU hH gk1_0 g_cl11 61 (by decide) kf_X11_112 rfl dX11_lies_15 ?_
    refine lv_iload_n (pc := 18) hx hb dX11_lies_18 rfl (lv_at hl 1 rfl) ?_
    obtain ⟨h0_1, hf⟩ := gc_s hf
    refine g_iald (pc := 19) hC hU hH gk1_32 gn1_32 h0_1 dX11_lies_19 ?_
    refine lv_goto (tgt := 24) (pc := 20) hx hb dX11_lies_20 (by decide) ?_
    exact g_iret (pc := 24) hC hret hlk hH hS hf dX11_lies_24
set_option maxRecDepth 100000 in
set_option maxHeartbeats 4000000 in
theorem mX11_lies {l : Launch} {D : va_G} {cA : Nat → ClassId} {ad : Nat → Nat} {a1 : Int32}  {r : Int32} {st st' : gS} (hf : fX11_lies a1 st = some (r, st')) : gM l yX11_lies cX11_lies 2 (some .int) 2 1 D cA ad st [.ref (ad 0), .int a1] (some (.int r)) st' := by
  refine g_met (by decide) (Nat.le_of_ble_eq_true rfl) ?_
  intro p e s m args below meth c ls hC hret hlk hU hH hl
  exact bX11_lies_0 hC hret hlk hU hf hH va_S.rf hl
def fX11_tell (a1 : Int32) (a2 : Int32) (a3 : Int32) (a4 : Int32)   (st : gS) : Option (Int32 × gS) :=
  if (st.1 0 73) = 30 then (some ((-1), st)) else (gc (gI (st.1 0 73) 30) (gc (gI ((wi st 37 (st.1 0 73).toNatClampNeg a1).1 0 73) 30) (gc (gI ((wi (wi st 37 (st.1 0 73).toNatClampNeg a1) 38 ((wi st 37 (st.1 0 73).toNatClampNeg a1).1 0 73).toNatClampNeg a2).1 0 73) 30) (gc (gI ((wi (wi (wi st 37 (st.1 0 73).toNatClampNeg a1) 38 ((wi st 37 (st.1 0 73).toNatClampNeg a1).1 0 73).toNatClampNeg a2) 39 ((wi (wi st 37 (st.1 0 73).toNatClampNeg a1) 38 ((wi st 37 (st.1 0 73).toNatClampNeg a1).1 0 73).toNatClampNeg a2).1 0 73).toNatClampNeg a3).1 0 73) 30) (gc (gI ((wi (wi (wi (wi st 37 (st.1 0 73).toNatClampNeg a1) 38 ((wi st 37 (st.1 0 73).toNatClampNeg a1).1 0 73).toNatClampNeg a2) 39 ((wi (wi st 37 (st.1 0 73).toNatClampNeg a1) 38 ((wi st 37 (st.1 0 73).toNatClampNeg a1).1 0 73).toNatClampNeg a2).1 0 73).toNatClampNeg a3) 42 ((wi (wi (wi st 37 (st.1 0 73).toNatClampNeg a1) 38 ((wi st 37 (st.1 0 73).toNatClampNeg a1).1 0 73).toNatClampNeg a2) 39 ((wi (wi st 37 (st.1 0 73).toNatClampNeg a1) 38 ((wi st 37 (st.1 0 73).toNatClampNeg a1).1 0 73).toNatClampNeg a2).1 0 73).toNatClampNeg a3).1 0 73).toNatClampNeg (vp_nar .boolean a4)).1 0 73) 30) (gc (gI ((wi (wi (wi (wi (wi st 37 (st.1 0 73).toNatClampNeg a1) 38 ((wi st 37 (st.1 0 73).toNatClampNeg a1).1 0 73).toNatClampNeg a2) 39 ((wi (wi st 37 (st.1 0 73).toNatClampNeg a1) 38 ((wi st 37 (st.1 0 73).toNatClampNeg a1).1 0 73).toNatClampNeg a2).1 0 73).toNatClampNeg a3) 42 ((wi (wi (wi st 37 (st.1 0 73).toNatClampNeg a1) 38 ((wi st 37 (st.1 0 73).toNatClampNeg a1).1 0 73).toNatClampNeg a2) 39 ((wi (wi st 37 (st.1 0 73).toNatClampNeg a1) 38 ((wi st 37 (st.1 0 73).toNatClampNeg a1).1 0 73).toNatClampNeg a2).1 0 73).toNatClampNeg a3).1 0 73).toNatClampNeg (vp_nar .boolean a4)) 40 ((wi (wi (wi (wi st 37 (st.1 0 73).toNatClampNeg a1) 38 ((wi st 37 (st.1 0 73).toNatClampNeg a1).1 0 73).toNatClampNeg a2) 39 ((wi (wi st 37 (st.1 0 73).toNatClampNeg a1) 38 ((wi st 37 (st.1 0 73).toNatClampNeg a1).1 0 73).toNatClampNeg a2).1 0 73).toNatClampNeg a3) 42 ((wi (wi (wi st 37 (st.1 0 73).toNatClampNeg a1) 38 ((wi st 37 (st.1 0 73).toNatClampNeg a1).1 0 73).toNatClampNeg a2) 39 ((wi (wi st 37 (st.1 0 73).toNatClampNeg a1) 38 ((wi st 37 (st.1 0 73).toNatClampNeg a1).1 0 73).toNatClampNeg a2).1 0 73).toNatClampNeg a3).1 0 73).toNatClampNeg (vp_nar .boolean a4)).1 0 73).toNatClampNeg ((wi (wi (wi (wi st 37 (st.1 0 73).toNatClampNeg a1) 38 ((wi st 37 (st.1 0 73).toNatClampNeg a1).1 0 73).toNatClampNeg a2) 39 ((wi (wi st 37 (st.1 0 73).toNatClampNeg a1) 38 ((wi st 37 (st.1 0 73).toNatClampNeg a1).1 0 73).toNatClampNeg a2).1 0 73).toNatClampNeg a3) 42 ((wi (wi (wi st 37 (st.1 0 73).toNatClampNeg a1) 38 ((wi st 37 (st.1 0 73).toNatClampNeg a1).1 0 73).toNatClampNeg a2) 39 ((wi (wi st 37 (st.1 0 73).toNatClampNeg a1) 38 ((wi st 37 (st.1 0 73).toNatClampNeg a1).1 0 73).toNatClampNeg a2).1 0 73).toNatClampNeg a3).1 0 73).toNatClampNeg (vp_nar .boolean a4)).1 0 74)).1 0 73) 30) (some (((wi (wi (wi (wi (wi (wi (wi st 37 (st.1 0 73).toNatClampNeg a1) 38 ((wi st 37 (st.1 0 73).toNatClampNeg a1).1 0 73).toNatClampNeg a2) 39 ((wi (wi st 37 (st.1 0 73).toNatClampNeg a1) 38 ((wi st 37 (st.1 0 73).toNatClampNeg a1).1 0 73).toNatClampNeg a2).1 0 73).toNatClampNeg a3) 42 ((wi (wi (wi st 37 (st.1 0 73).toNatClampNeg a1) 38 ((wi st 37 (st.1 0 73).toNatClampNeg a1).1 0 73).toNatClampNeg a2) 39 ((wi (wi st 37 (st.1 0 73).toNatClampNeg a1) 38 ((wi st 37 (st.1 0 73).toNatClampNeg a1).1 0 73).toNatClampNeg a2).1 0 73).toNatClampNeg a3).1 0 73).toNatClampNeg (vp_nar .boolean a4)) 40 ((wi (wi (wi (wi st 37 (st.1 0 73).toNatClampNeg a1) 38 ((wi st 37 (st.1 0 73).toNatClampNeg a1).1 0 73).toNatClampNeg a2) 39 ((wi (wi st 37 (st.1 0 73).toNatClampNeg a1) 38 ((wi st 37 (st.1 0 73).toNatClampNeg a1).1 0 73).toNatClampNeg a2).1 0 73).toNatClampNeg a3) 42 ((wi (wi (wi st 37 (st.1 0 73).toNatClampNeg a1) 38 ((wi st 37 (st.1 0 73).toNatClampNeg a1).1 0 73).toNatClampNeg a2) 39 ((wi (wi st 37 (st.1 0 73).toNatClampNeg a1) 38 ((wi st 37 (st.1 0 73).toNatClampNeg a1).1 0 73).toNatClampNeg a2).1 0 73).toNatClampNeg a3).1 0 73).toNatClampNeg (vp_nar .boolean a4)).1 0 73).toNatClampNeg ((wi (wi (wi (wi st 37 (st.1 0 73).toNatClampNeg a1) 38 ((wi st 37 (st.1 0 73).toNatClampNeg a1).1 0 73).toNatClampNeg a2) 39 ((wi (wi st 37 (st.1 0 73).toNatClampNeg a1) 38 ((wi st 37 (st.1 0 73).toNatClampNeg a1).1 0 73).toNatClampNeg a2).1 0 73).toNatClampNeg a3) 42 ((wi (wi (wi st 37 (st.1 0 73).toNatClampNeg a1) 38 ((wi st 37 (st.1 0 73).toNatClampNeg a1).1 0 73).toNatClampNeg a2) 39 ((wi (wi st 37 (st.1 0 73).toNatClampNeg a1) 38 ((wi st 37 (st.1 0 73).toNatClampNeg a1).1 0 73).toNatClampNeg a2).1 0 73).toNatClampNeg a3).1 0 73).toNatClampNeg (vp_nar .boolean a4)).1 0 74)) 41 ((wi (wi (wi (wi (wi st 37 (st.1 0 73).toNatClampNeg a1) 38 ((wi st 37 (st.1 0 73).toNatClampNeg a1).1 0 73).toNatClampNeg a2) 39 ((wi (wi st 37 (st.1 0 73).toNatClampNeg a1) 38 ((wi st 37 (st.1 0 73).toNatClampNeg a1).1 0 73).toNatClampNeg a2).1 0 73).toNatClampNeg a3) 42 ((wi (wi (wi st 37 (st.1 0 73).toNatClampNeg a1) 38 ((wi st 37 (st.1 0 73).toNatClampNeg a1).1 0 73).toNatClampNeg a2) 39 ((wi (wi st 37 (st.1 0 73).toNatClampNeg a1) 38 ((wi st 37 (st.1 0 73).toNatClampNeg a1).1 0 73).toNatClampNeg a2).1 0 73).toNatClampNeg a3).1 0 73).toNatClampNeg (vp_nar .boolean a4)) 40 ((wi (wi (wi (wi st 37 (st.1 0 73).toNatClampNeg a1) 38 ((wi st 37 (st.1 0 73).toNatClampNeg a1).1 0 73).toNatClampNeg a2) 39 ((wi (wi st 37 (st.1 0 73).toNatClampNeg a1) 38 ((wi st 37 (st.1 0 73).toNatClampNeg a1).1 0 73).toNatClampNeg a2).1 0 73).toNatClampNeg a3) 42 ((wi (wi (wi st 37 (st.1 0 73).toNatClampNeg a1) 38 ((wi st 37 (st.1 0 73).toNatClampNeg a1).1 0 73).toNatClampNeg a2) 39 ((wi (wi st 37 (st.1 0 73).toNatClampNeg a1) 38 ((wi st 37 (st.1 0 73).toNatClampNeg a1).1 0 73).toNatClampNeg a2).1 0 73).toNatClampNeg a3).1 0 73).toNatClampNeg (vp_nar .boolean a4)).1 0 73).toNatClampNeg ((wi (wi (wi (wi st 37 (st.1 0 73).toNatClampNeg a1) 38 ((wi st 37 (st.1 0 73).toNatClampNeg a1).1 0 73).toNatClampNeg a2) 39 ((wi (wi st 37 (st.1 0 73).toNatClampNeg a1) 38 ((wi st 37 (st.1 0 73).toNatClampNeg a1).1 0 73).toNatClampNeg a2).1 0 73).toNatClampNeg a3) 42 ((wi (wi (wi st 37 (st.1 0 73).toNatClampNeg a1) 38 ((wi st 37 (st.1 0 73).toNatClampNeg a1).1 0 73).toNatClampNeg a2) 39 ((wi (wi st 37 (st.1 0 73).toNatClampNeg a1) 38 ((wi st 37 (st.1 0 73).toNatClampNeg a1).1 0 73).toNatClampNeg a2).1 0 73).toNatClampNeg a3).1 0 73).toNatClampNeg (vp_nar .boolean a4)).1 0 74)).1 0 73).toNatClampNeg (-1)) 0 73 (((wi (wi (wi (wi (wi (wi st 37 (st.1 0 73).toNatClampNeg a1) 38 ((wi st 37 (st.1 0 73).toNatClampNeg a1).1 0 73).toNatClampNeg a2) 39 ((wi (wi st 37 (st.1 0 73).toNatClampNeg a1) 38 ((wi st 37 (st.1 0 73).toNatClampNeg a1).1 0 73).toNatClampNeg a2).1 0 73).toNatClampNeg a3) 42 ((wi (wi (wi st 37 (st.1 0 73).toNatClampNeg a1) 38 ((wi st 37 (st.1 0 73).toNatClampNeg a1).1 0 73).toNatClampNeg a2) 39 ((wi (wi st 37 (st.1 0 73).toNatClampNeg a1) 38 ((wi st 37 (st.1 0 73).toNatClampNeg a1).1 0 73).toNatClampNeg a2).1 0 73).toNatClampNeg a3).1 0 73).toNatClampNeg (vp_nar .boolean a4)) 40 ((wi (wi (wi (wi st 37 (st.1 0 73).toNatClampNeg a1) 38 ((wi st 37 (st.1 0 73).toNatClampNeg a1).1 0 73).toNatClampNeg a2) 39 ((wi (wi st 37 (st.1 0 73).toNatClampNeg a1) 38 ((wi st 37 (st.1 0 73).toNatClampNeg a1).1 0 73).toNatClampNeg a2).1 0 73).toNatClampNeg a3) 42 ((wi (wi (wi st 37 (st.1 0 73).toNatClampNeg a1) 38 ((wi st 37 (st.1 0 73).toNatClampNeg a1).1 0 73).toNatClampNeg a2) 39 ((wi (wi st 37 (st.1 0 73).toNatClampNeg a1) 38 ((wi st 37 (st.1 0 73).toNatClampNeg a1).1 0 73).toNatClampNeg a2).1 0 73).toNatClampNeg a3).1 0 73).toNatClampNeg (vp_nar .boolean a4)).1 0 73).toNatClampNeg ((wi (wi (wi (wi st 37 (st.1 0 73).toNatClampNeg a1) 38 ((wi st 37 (st.1 0 73).toNatClampNeg a1).1 0 73).toNatClampNeg a2) 39 ((wi (wi st 37 (st.1 0 73).toNatClampNeg a1) 38 ((wi st 37 (st.1 0 73).toNatClampNeg a1).1 0 73).toNatClampNeg a2).1 0 73).toNatClampNeg a3) 42 ((wi (wi (wi st 37 (st.1 0 73).toNatClampNeg a1) 38 ((wi st 37 (st.1 0 73).toNatClampNeg a1).1 0 73).toNatClampNeg a2) 39 ((wi (wi st 37 (st.1 0 73).toNatClampNeg a1) 38 ((wi st 37 (st.1 0 73).toNatClampNeg a1).1 0 73).toNatClampNeg a2).1 0 73).toNatClampNeg a3).1 0 73).toNatClampNeg (vp_nar .boolean a4)).1 0 74)) 41 ((wi (wi (wi (wi (wi st 37 (st.1 0 73).toNatClampNeg a1) 38 ((wi st 37 (st.1 0 73).toNatClampNeg a1).1 0 73).toNatClampNeg a2) 39 ((wi (wi st 37 (st.1 0 73).toNatClampNeg a1) 38 ((wi st 37 (st.1 0 73).toNatClampNeg a1).1 0 73).toNatClampNeg a2).1 0 73).toNatClampNeg a3) 42 ((wi (wi (wi st 37 (st.1 0 73).toNatClampNeg a1) 38 ((wi st 37 (st.1 0 73).toNatClampNeg a1).1 0 73).toNatClampNeg a2) 39 ((wi (wi st 37 (st.1 0 73).toNatClampNeg a1) 38 ((wi st 37 (st.1 0 73).toNatClampNeg a1).1 0 73).toNatClampNeg a2).1 0 73).toNatClampNeg a3).1 0 73).toNatClampNeg (vp_nar .boolean a4)) 40 ((wi (wi (wi (wi st 37 (st.1 0 73).toNatClampNeg a1) 38 ((wi st 37 (st.1 0 73).toNatClampNeg a1).1 0 73).toNatClampNeg a2) 39 ((wi (wi st 37 (st.1 0 73).toNatClampNeg a1) 38 ((wi st 37 (st.1 0 73).toNatClampNeg a1).1 0 73).toNatClampNeg a2).1 0 73).toNatClampNeg a3) 42 ((wi (wi (wi st 37 (st.1 0 73).toNatClampNeg a1) 38 ((wi st 37 (st.1 0 73).toNatClampNeg a1).1 0 73).toNatClampNeg a2) 39 ((wi (wi st 37 (st.1 0 73).toNatClampNeg a1) 38 ((wi st 37 (st.1 0 73).toNatClampNeg a1).1 0 73).toNatClampNeg a2).1 0 73).toNatClampNeg a3).1 0 73).toNatClampNeg (vp_nar .boolean a4)).1 0 73).toNatClampNeg ((wi (wi (wi (wi st 37 (st.1 0 73).toNatClampNeg a1) 38 ((wi st 37 (st.1 0 73).toNatClampNeg a1).1 0 73).toNatClampNeg a2) 39 ((wi (wi st 37 (st.1 0 73).toNatClampNeg a1) 38 ((wi st 37 (st.1 0 73).toNatClampNeg a1).1 0 73).toNatClampNeg a2).1 0 73).toNatClampNeg a3) 42 ((wi (wi (wi st 37 (st.1 0 73).toNatClampNeg a1) 38 ((wi st 37 (st.1 0 73).toNatClampNeg a1).1 0 73).toNatClampNeg a2) 39 ((wi (wi st 37 (st.1 0 73).toNatClampNeg a1) 38 ((wi st 37 (st.1 0 73).toNatClampNeg a1).1 0 73).toNatClampNeg a2).1 0 73).toNatClampNeg a3).1 0 73).toNatClampNeg (vp_nar .boolean a4)).1 0 74)).1 0 73).toNatClampNeg (-1)).1 0 73) + 1)).1 0 73) - 1, wi (wi (wi (wi (wi (wi (wi st 37 (st.1 0 73).toNatClampNeg a1) 38 ((wi st 37 (st.1 0 73).toNatClampNeg a1).1 0 73).toNatClampNeg a2) 39 ((wi (wi st 37 (st.1 0 73).toNatClampNeg a1) 38 ((wi st 37 (st.1 0 73).toNatClampNeg a1).1 0 73).toNatClampNeg a2).1 0 73).toNatClampNeg a3) 42 ((wi (wi (wi st 37 (st.1 0 73).toNatClampNeg a1) 38 ((wi st 37 (st.1 0 73).toNatClampNeg a1).1 0 73).toNatClampNeg a2) 39 ((wi (wi st 37 (st.1 0 73).toNatClampNeg a1) 38 ((wi st 37 (st.1 0 73).toNatClampNeg a1).1 0 73).toNatClampNeg a2).1 0 73).toNatClampNeg a3).1 0 73).toNatClampNeg (vp_nar .boolean a4)) 40 ((wi (wi (wi (wi st 37 (st.1 0 73).toNatClampNeg a1) 38 ((wi st 37 (st.1 0 73).toNatClampNeg a1).1 0 73).toNatClampNeg a2) 39 ((wi (wi st 37 (st.1 0 73).toNatClampNeg a1) 38 ((wi st 37 (st.1 0 73).toNatClampNeg a1).1 0 73).toNatClampNeg a2).1 0 73).toNatClampNeg a3) 42 ((wi (wi (wi st 37 (st.1 0 73).toNatClampNeg a1) 38 ((wi st 37 (st.1 0 73).toNatClampNeg a1).1 0 73).toNatClampNeg a2) 39 ((wi (wi st 37 (st.1 0 73).toNatClampNeg a1) 38 ((wi st 37 (st.1 0 73).toNatClampNeg a1).1 0 73).toNatClampNeg a2).1 0 73).toNatClampNeg a3).1 0 73).toNatClampNeg (vp_nar .boolean a4)).1 0 73).toNatClampNeg ((wi (wi (wi (wi st 37 (st.1 0 73).toNatClampNeg a1) 38 ((wi st 37 (st.1 0 73).toNatClampNeg a1).1 0 73).toNatClampNeg a2) 39 ((wi (wi st 37 (st.1 0 73).toNatClampNeg a1) 38 ((wi st 37 (st.1 0 73).toNatClampNeg a1).1 0 73).toNatClampNeg a2).1 0 73).toNatClampNeg a3) 42 ((wi (wi (wi st 37 (st.1 0 73).toNatClampNeg a1) 38 ((wi st 37 (st.1 0 73).toNatClampNeg a1).1 0 73).toNatClampNeg a2) 39 ((wi (wi st 37 (st.1 0 73).toNatClampNeg a1) 38 ((wi st 37 (st.1 0 73).toNatClampNeg a1).1 0 73).toNatClampNeg a2).1 0 73).toNatClampNeg a3).1 0 73).toNatClampNeg (vp_nar .boolean a4)).1 0 74)) 41 ((wi (wi (wi (wi (wi st 37 (st.1 0 73).toNatClampNeg a1) 38 ((wi st 37 (st.1 0 73).toNatClampNeg a1).1 0 73).toNatClampNeg a2) 39 ((wi (wi st 37 (st.1 0 73).toNatClampNeg a1) 38 ((wi st 37 (st.1 0 73).toNatClampNeg a1).1 0 73).toNatClampNeg a2).1 0 73).toNatClampNeg a3) 42 ((wi (wi (wi st 37 (st.1 0 73).toNatClampNeg a1) 38 ((wi st 37 (st.1 0 73).toNatClampNeg a1).1 0 73).toNatClampNeg a2) 39 ((wi (wi st 37 (st.1 0 73).toNatClampNeg a1) 38 ((wi st 37 (st.1 0 73).toNatClampNeg a1).1 0 73).toNatClampNeg a2).1 0 73).toNatClampNeg a3).1 0 73).toNatClampNeg (vp_nar .boolean a4)) 40 ((wi (wi (wi (wi st 37 (st.1 0 73).toNatClampNeg a1) 38 ((wi st 37 (st.1 0 73).toNatClampNeg a1).1 0 73).toNatClampNeg a2) 39 ((wi (wi st 37 (st.1 0 73).toNatClampNeg a1) 38 ((wi st 37 (st.1 0 73).toNatClampNeg a1).1 0 73).toNatClampNeg a2).1 0 73).toNatClampNeg a3) 42 ((wi (wi (wi st 37 (st.1 0 73).toNatClampNeg a1) 38 ((wi st 37 (st.1 0 73).toNatClampNeg a1).1 0 73).toNatClampNeg a2) 39 ((wi (wi st 37 (st.1 0 73).toNatClampNeg a1) 38 ((wi st 37 (st.1 0 73).toNatClampNeg a1).1 0 73).toNatClampNeg a2).1 0 73).toNatClampNeg a3).1 0 73).toNatClampNeg (vp_nar .boolean a4)).1 0 73).toNatClampNeg ((wi (wi (wi (wi st 37 (st.1 0 73).toNatClampNeg a1) 38 ((wi st 37 (st.1 0 73).toNatClampNeg a1).1 0 73).toNatClampNeg a2) 39 ((wi (wi st 37 (st.1 0 73).toNatClampNeg a1) 38 ((wi st 37 (st.1 0 73).toNatClampNeg a1).1 0 73).toNatClampNeg a2).1 0 73).toNatClampNeg a3) 42 ((wi (wi (wi st 37 (st.1 0 73).toNatClampNeg a1) 38 ((wi st 37 (st.1 0 73).toNatClampNeg a1).1 0 73).toNatClampNeg a2) 39 ((wi (wi st 37 (st.1 0 73).toNatClampNeg a1) 38 ((wi st 37 (st.1 0 73).toNatClampNeg a1).1 0 73).toNatClampNeg a2).1 0 73).toNatClampNeg a3).1 0 73).toNatClampNeg (vp_nar .boolean a4)).1 0 74)).1 0 73).toNatClampNeg (-1)) 0 73 (((wi (wi (wi (wi (wi (wi st 37 (st.1 0 73).toNatClampNeg a1) 38 ((wi st 37 (st.1 0 73).toNatClampNeg a1).1 0 73).toNatClampNeg a2) 39 ((wi (wi st 37 (st.1 0 73).toNatClampNeg a1) 38 ((wi st 37 (st.1 0 73).toNatClampNeg a1).1 0 73).toNatClampNeg a2).1 0 73).toNatClampNeg a3) 42 ((wi (wi (wi st 37 (st.1 0 73).toNatClampNeg a1) 38 ((wi st 37 (st.1 0 73).toNatClampNeg a1).1 0 73).toNatClampNeg a2) 39 ((wi (wi st 37 (st.1 0 73).toNatClampNeg a1) 38 ((wi st 37 (st.1 0 73).toNatClampNeg a1).1 0 73).toNatClampNeg a2).1 0 73).toNatClampNeg a3).1 0 73).toNatClampNeg (vp_nar .boolean a4)) 40 ((wi (wi (wi (wi st 37 (st.1 0 73).toNatClampNeg a1) 38 ((wi st 37 (st.1 0 73).toNatClampNeg a1).1 0 73).toNatClampNeg a2) 39 ((wi (wi st 37 (st.1 0 73).toNatClampNeg a1) 38 ((wi st 37 (st.1 0 73).toNatClampNeg a1).1 0 73).toNatClampNeg a2).1 0 73).toNatClampNeg a3) 42 ((wi (wi (wi st 37 (st.1 0 73).toNatClampNeg a1) 38 ((wi st 37 (st.1 0 73).toNatClampNeg a1).1 0 73).toNatClampNeg a2) 39 ((wi (wi st 37 (st.1 0 73).toNatClampNeg a1) 38 ((wi st 37 (st.1 0 73).toNatClampNeg a1).1 0 73).toNatClampNeg a2).1 0 73).toNatClampNeg a3).1 0 73).toNatClampNeg (vp_nar .boolean a4)).1 0 73).toNatClampNeg ((wi (wi (wi (wi st 37 (st.1 0 73).toNatClampNeg a1) 38 ((wi st 37 (st.1 0 73).toNatClampNeg a1).1 0 73).toNatClampNeg a2) 39 ((wi (wi st 37 (st.1 0 73).toNatClampNeg a1) 38 ((wi st 37 (st.1 0 73).toNatClampNeg a1).1 0 73).toNatClampNeg a2).1 0 73).toNatClampNeg a3) 42 ((wi (wi (wi st 37 (st.1 0 73).toNatClampNeg a1) 38 ((wi st 37 (st.1 0 73).toNatClampNeg a1).1 0 73).toNatClampNeg a2) 39 ((wi (wi st 37 (st.1 0 73).toNatClampNeg a1) 38 ((wi st 37 (st.1 0 73).toNatClampNeg a1).1 0 73).toNatClampNeg a2).1 0 73).toNatClampNeg a3).1 0 73).toNatClampNeg (vp_nar .boolean a4)).1 0 74)) 41 ((wi (wi (wi (wi (wi st 37 (st.1 0 73).toNatClampNeg a1) 38 ((wi st 37 (st.1 0 73).toNatClampNeg a1).1 0 73).toNatClampNeg a2) 39 ((wi (wi st 37 (st.1 0 73).toNatClampNeg a1) 38 ((wi st 37 (st.1 0 73).toNatClampNeg a1).1 0 73).toNatClampNeg a2).1 0 73).toNatClampNeg a3) 42 ((wi (wi (wi st 37 (st.1 0 73).toNatClampNeg a1) 38 ((wi st 37 (st.1 0 73).toNatClampNeg a1).1 0 73).toNatClampNeg a2) 39 ((wi (wi st 37 (st.1 0 73).toNatClampNeg a1) 38 ((wi st 37 (st.1 0 73).toNatClampNeg a1).1 0 73).toNatClampNeg a2).1 0 73).toNatClampNeg a3).1 0 73).toNatClampNeg (vp_nar .boolean a4)) 40 ((wi (wi (wi (wi st 37 (st.1 0 73).toNatClampNeg a1) 38 ((wi st 37 (st.1 0 73).toNatClampNeg a1).1 0 73).toNatClampNeg a2) 39 ((wi (wi st 37 (st.1 0 73).toNatClampNeg a1) 38 ((wi st 37 (st.1 0 73).toNatClampNeg a1).1 0 73).toNatClampNeg a2).1 0 73).toNatClampNeg a3) 42 ((wi (wi (wi st 37 (st.1 0 73).toNatClampNeg a1) 38 ((wi st 37 (st.1 0 73).toNatClampNeg a1).1 0 73).toNatClampNeg a2) 39 ((wi (wi st 37 (st.1 0 73).toNatClampNeg a1) 38 ((wi st 37 (st.1 0 73).toNatClampNeg a1).1 0 73).toNatClampNeg a2).1 0 73).toNatClampNeg a3).1 0 73).toNatClampNeg (vp_nar .boolean a4)).1 0 73).toNatClampNeg ((wi (wi (wi (wi st 37 (st.1 0 73).toNatClampNeg a1) 38 ((wi st 37 (st.1 0 73).toNatClampNeg a1).1 0 73).toNatClampNeg a2) 39 ((wi (wi st 37 (st.1 0 73).toNatClampNeg a1) 38 ((wi st 37 (st.1 0 73).toNatClampNeg a1).1 0 73).toNatClampNeg a2).1 0 73).toNatClampNeg a3) 42 ((wi (wi (wi st 37 (st.1 0 73).toNatClampNeg a1) 38 ((wi st 37 (st.1 0 73).toNatClampNeg a1).1 0 73).toNatClampNeg a2) 39 ((wi (wi st 37 (st.1 0 73).toNatClampNeg a1) 38 ((wi st 37 (st.1 0 73).toNatClampNeg a1).1 0 73).toNatClampNeg a2).1 0 73).toNatClampNeg a3).1 0 73).toNatClampNeg (vp_nar .boolean a4)).1 0 74)).1 0 73).toNatClampNeg (-1)).1 0 73) + 1)))))))))
set_option maxRecDepth 100000 in
set_option maxHeartbeats 4000000 in
theorem bX11_tell_0 {a1 : Int32} {a2 : Int32} {a3 : Int32} {a4 : Int32} (hC : CallFix p m c cX11_tell 5 s args lw_good RX11) (hret : meth.sig.returnType = (some .int)) (hlk : meth.locks = false) (hU : gU 1 D cA ad s)  {r : Int32} {st' : gS}   {st : gS} {H : Heap} {locs : List Loc} {ls : Array Slot} (hf : fX11_tell a1 a2 a3 a4 st = some (r, st')) (hH : gP0 1 D cA ad st H) (hS : va_S (gA 1 ad) s.heap H locs) (hl : lv_has ls 5 [(0, .ref (ad 0)), (1, .int a1), (2, .int a2), (3, .int a3), (4, .int a4)]) : W p l e (gRm 1) s m args below meth c H locs 0 0 (MQ below (gQc 1 D cA ad st' (some (.int r))) args s 0 0 (gA 1 ad)) (F0 m 0 ls []) := by
  obtain ⟨hx, hb, hml, hown, hts⟩ := id hC
  unfold fX11_tell at hf
  refine lv_aload_n (pc := 0) hx hb dX11_tell_0 rfl (lv_at hl 0 rfl) ?_
  refine g_get (pc := 1) (v := .int (st.1 0 73)) hC hU hH gk1_0 g_cl11 73 (by decide) kf_X11_410 rfl dX11_tell_1 ?_
  refine lv_bipush (v := 30) (pc := 4) hx hb dX11_tell_4 (by decide) ?_
  refine lv_icmp_ne (tgt := 11) (pc := 6) hx hb dX11_tell_6 (by decide) (fun hc => ?_) (fun hc => ?_)
  · have hf := gif_n hc hf
    refine lv_aload_n (pc := 11) hx hb dX11_tell_11 rfl (lv_at hl 0 rfl) ?_
    refine g_get (pc := 12) (v := .ref (ad 37)) hC hU hH gk1_0 g_cl11 67 (by decide) kf_X11_127 rfl dX11_tell_12 ?_
    refine lv_aload_n (pc := 15) hx hb dX11_tell_15 rfl (lv_at hl 0 rfl) ?_
    refine g_get (pc := 16) (v := .int (st.1 0 73)) hC hU hH gk1_0 g_cl11 73 (by decide) kf_X11_410 rfl dX11_tell_16 ?_
    refine lv_iload_n (pc := 19) hx hb dX11_tell_19 rfl (lv_at hl 1 rfl) ?_
    obtain ⟨h0_1, hf⟩ := gc_s hf
    refine g_iast (pc := 20) hC hU hH hS gk1_37 gn1_37 h0_1 dX11_tell_20 (fun H locs hH hS => ?_)
    refine lv_aload_n (pc := 21) hx hb dX11_tell_21 rfl (lv_at hl 0 rfl) ?_
    refine g_get (pc := 22) (v := .ref (ad 38)) hC hU hH gk1_0 g_cl11 68 (by decide) kf_X11_130 rfl dX11_tell_22 ?_
    refine lv_aload_n (pc := 25) hx hb dX11_tell_25 rfl (lv_at hl 0 rfl) ?_
    refine g_get (pc := 26) (v := .int ((wi st 37 (st.1 0 73).toNatClampNeg a1).1 0 73)) hC hU hH gk1_0 g_cl11 73 (by decide) kf_X11_410 rfl dX11_tell_26 ?_
    refine lv_iload_n (pc := 29) hx hb dX11_tell_29 rfl (lv_at hl 2 rfl) ?_
    obtain ⟨h0_2, hf⟩ := gc_s hf
    refine g_iast (pc := 30) hC hU hH hS gk1_38 gn1_38 h0_2 dX11_tell_30 (fun H locs hH hS => ?_)
    refine lv_aload_n (pc := 31) hx hb dX11_tell_31 rfl (lv_at hl 0 rfl) ?_
    refine g_get (pc := 32) (v := .ref (ad 39)) hC hU hH gk1_0 g_cl11 69 (by decide) kf_X11_133 rfl dX11_tell_32 ?_
    refine lv_aload_n (pc := 35) hx hb dX11_tell_35 rfl (lv_at hl 0 rfl) ?_
    refine g_get (pc := 36) (v := .int ((wi (wi st 37 (st.1 0 73).toNatClampNeg a1) 38 ((wi st 37 (st.1 0 73).toNatClampNeg a1).1 0 73).toNatClampNeg a2).1 0 73)) hC hU hH gk1_0 g_cl11 73 (by decide) kf_X11_410 rfl dX11_tell_36 ?_
    refine lv_iload_n (pc := 39) hx hb dX11_tell_39 rfl (lv_at hl 3 rfl) ?_
    obtain ⟨h0_3, hf⟩ := gc_s hf
    refine g_iast (pc := 40) hC hU hH hS gk1_39 gn1_39 h0_3 dX11_tell_40 (fun H locs hH hS => ?_)
    refine lv_aload_n (pc := 41) hx hb dX11_tell_41 rfl (lv_at hl 0 rfl) ?_
    refine g_get (pc := 42) (v := .ref (ad 42)) hC hU hH gk1_0 g_cl11 72 (by decide) kf_X11_142 rfl dX11_tell_42 ?_
    refine lv_aload_n (pc := 45) hx hb dX11_tell_45 rfl (lv_at hl 0 rfl) ?_
    refine g_get (pc := 46) (v := .int ((wi (wi (wi st 37 (st.1 0 73).toNatClampNeg a1) 38 ((wi st 37 (st.1 0 73).toNatClampNeg a1).1 0 73).toNatClampNeg a2) 39 ((wi (wi st 37 (st.1 0 73).toNatClampNeg a1) 38 ((wi st 37 (st.1 0 73).toNatClampNeg a1).1 0 73).toNatClampNeg a2).1 0 73).toNatClampNeg a3).1 0 73)) hC hU hH gk1_0 g_cl11 73 (by decide) kf_X11_410 rfl dX11_tell_46 ?_
    refine lv_iload (pc := 49) hx hb dX11_tell_49 (lv_at hl 4 rfl) ?_
    obtain ⟨h0_4, hf⟩ := gc_s hf
    refine g_zast (pc := 51) hC hU hH hS gk1_42 gn1_42 h0_4 dX11_tell_51 (fun H locs hH hS => ?_)
    refine lv_aload_n (pc := 52) hx hb dX11_tell_52 rfl (lv_at hl 0 rfl) ?_
    refine g_get (pc := 53) (v := .ref (ad 40)) hC hU hH gk1_0 g_cl11 70 (by decide) kf_X11_136 rfl dX11_tell_53 ?_
    refine lv_aload_n (pc := 56) hx hb dX11_tell_56 rfl (lv_at hl 0 rfl) ?_
    refine g_get (pc := 57) (v := .int ((wi (wi (wi (wi st 37 (st.1 0 73).toNatClampNeg a1) 38 ((wi st 37 (st.1 0 73).toNatClampNeg a1).1 0 73).toNatClampNeg a2) 39 ((wi (wi st 37 (st.1 0 73).toNatClampNeg a1) 38 ((wi st 37 (st.1 0 73).toNatClampNeg a1).1 0 73).toNatClampNeg a2).1 0 73).toNatClampNeg a3) 42 ((wi (wi (wi st 37 (st.1 0 73).toNatClampNeg a1) 38 ((wi st 37 (st.1 0 73).toNatClampNeg a1).1 0 73).toNatClampNeg a2) 39 ((wi (wi st 37 (st.1 0 73).toNatClampNeg a1) 38 ((wi st 37 (st.1 0 73).toNatClampNeg a1).1 0 73).toNatClampNeg a2).1 0 73).toNatClampNeg a3).1 0 73).toNatClampNeg (vp_nar .boolean a4)).1 0 73)) hC hU hH gk1_0 g_cl11 73 (by decide) kf_X11_410 rfl dX11_tell_57 ?_
    refine lv_aload_n (pc := 60) hx hb dX11_tell_60 rfl (lv_at hl 0 rfl) ?_
    refine g_get (pc := 61) (v := .int ((wi (wi (wi (wi st 37 (st.1 0 73).toNatClampNeg a1) 38 ((wi st 37 (st.1 0 73).toNatClampNeg a1).1 0 73).toNatClampNeg a2) 39 ((wi (wi st 37 (st.1 0 73).toNatClampNeg a1) 38 ((wi st 37 (st.1 0 73).toNatClampNeg a1).1 0 73).toNatClampNeg a2).1 0 73).toNatClampNeg a3) 42 ((wi (wi (wi st 37 (st.1 0 73).toNatClampNeg a1) 38 ((wi st 37 (st.1 0 73).toNatClampNeg a1).1 0 73).toNatClampNeg a2) 39 ((wi (wi st 37 (st.1 0 73).toNatClampNeg a1) 38 ((wi st 37 (st.1 0 73).toNatClampNeg a1).1 0 73).toNatClampNeg a2).1 0 73).toNatClampNeg a3).1 0 73).toNatClampNeg (vp_nar .boolean a4)).1 0 74)) hC hU hH gk1_0 g_cl11 74 (by decide) kf_X11_511 rfl dX11_tell_61 ?_
    obtain ⟨h0_5, hf⟩ := gc_s hf
    refine g_iast (pc := 64) hC hU hH hS gk1_40 gn1_40 h0_5 dX11_tell_64 (fun H locs hH hS => ?_)
    refine lv_aload_n (pc := 65) hx hb dX11_tell_65 rfl (lv_at hl 0 rfl) ?_
    refine g_get (pc := 66) (v := .ref (ad 41)) hC hU hH gk1_0 g_cl11 71 (by decide) kf_X11_139 rfl dX11_tell_66 ?_
    refine lv_aload_n (pc := 69) hx hb dX11_tell_69 rfl (lv_at hl 0 rfl) ?_
    refine g_get (pc := 70) (v := .int ((wi (wi (wi (wi (wi st 37 (st.1 0 73).toNatClampNeg a1) 38 ((wi st 37 (st.1 0 73).toNatClampNeg a1).1 0 73).toNatClampNeg a2) 39 ((wi (wi st 37 (st.1 0 73).toNatClampNeg a1) 38 ((wi st 37 (st.1 0 73).toNatClampNeg a1).1 0 73).toNatClampNeg a2).1 0 73).toNatClampNeg a3) 42 ((wi (wi (wi st 37 (st.1 0 73).toNatClampNeg a1) 38 ((wi st 37 (st.1 0 73).toNatClampNeg a1).1 0 73).toNatClampNeg a2) 39 ((wi (wi st 37 (st.1 0 73).toNatClampNeg a1) 38 ((wi st 37 (st.1 0 73).toNatClampNeg a1).1 0 73).toNatClampNeg a2).1 0 73).toNatClampNeg a3).1 0 73).toNatClampNeg (vp_nar .boolean a4)) 40 ((wi (wi (wi (wi st 37 (st.1 0 73).toNatClampNeg a1) 38 ((wi st 37 (st.1 0 73).toNatClampNeg a1).1 0 73).toNatClampNeg a2) 39 ((wi (wi st 37 (st.1 0 73).toNatClampNeg a1) 38 ((wi st 37 (st.1 0 73).toNatClampNeg a1).1 0 73).toNatClampNeg a2).1 0 73).toNatClampNeg a3) 42 ((wi (wi (wi st 37 (st.1 0 73).toNatClampNeg a1) 38 ((wi st 37 (st.1 0 73).toNatClampNeg a1).1 0 73).toNatClampNeg a2) 39 ((wi (wi st 37 (st.1 0 73).toNatClampNeg a1) 38 ((wi st 37 (st.1 0 73).toNatClampNeg a1).1 0 73).toNatClampNeg a2).1 0 73).toNatClampNeg a3).1 0 73).toNatClampNeg (vp_nar .boolean a4)).1 0 73).toNatClampNeg ((wi (wi (wi (wi st 37 (st.1 0 73).toNatClampNeg a1) 38 ((wi st 37 (st.1 0 73).toNatClampNeg a1).1 0 73).toNatClampNeg a2) 39 ((wi (wi st 37 (st.1 0 73).toNatClampNeg a1) 38 ((wi st 37 (st.1 0 73).toNatClampNeg a1).1 0 73).toNatClampNeg a2).1 0 73).toNatClampNeg a3) 42 ((wi (wi (wi st 37 (st.1 0 73).toNatClampNeg a1) 38 ((wi st 37 (st.1 0 73).toNatClampNeg a1).1 0 73).toNatClampNeg a2) 39 ((wi (wi st 37 (st.1 0 73).toNatClampNeg a1) 38 ((wi st 37 (st.1 0 73).toNatClampNeg a1).1 0 73).toNatClampNeg a2).1 0 73).toNatClampNeg a3).1 0 73).toNatClampNeg (vp_nar .boolean a4)).1 0 74)).1 0 73)) hC hU hH gk1_0 g_cl11 73 (by decide) kf_X11_410 rfl dX11_tell_70 ?_
    refine lv_iconst (v := (-1)) (pc := 73) hx hb dX11_tell_73 (by decide) ?_
    obtain ⟨h0_6, hf⟩ := gc_s hf
    refine g_iast (pc := 74) hC hU hH hS gk1_41 gn1_41 h0_6 dX11_tell_74 (fun H locs hH hS => ?_)
    refine lv_aload_n (pc := 75) hx hb dX11_tell_75 rfl (lv_at hl 0 rfl) ?_
    refine lv_dup (pc := 76) hx hb dX11_tell_76 rfl ?_
    refine g_get (pc := 77) (v := .int ((wi (wi (wi (wi (wi (wi st 37 (st.1 0 73).toNatClampNeg a1) 38 ((wi st 37 (st.1 0 73).toNatClampNeg a1).1 0 73).toNatClampNeg a2) 39 ((wi (wi st 37 (st.1 0 73).toNatClampNeg a1) 38 ((wi st 37 (st.1 0 73).toNatClampNeg a1).1 0 73).toNatClampNeg a2).1 0 73).toNatClampNeg a3) 42 ((wi (wi (wi st 37 (st.1 0 73).toNatClampNeg a1) 38 ((wi st 37 (st.1 0 73).toNatClampNeg a1).1 0 73).toNatClampNeg a2) 39 ((wi (wi st 37 (st.1 0 73).toNatClampNeg a1) 38 ((wi st 37 (st.1 0 73).toNatClampNeg a1).1 0 73).toNatClampNeg a2).1 0 73).toNatClampNeg a3).1 0 73).toNatClampNeg (vp_nar .boolean a4)) 40 ((wi (wi (wi (wi st 37 (st.1 0 73).toNatClampNeg a1) 38 ((wi st 37 (st.1 0 73).toNatClampNeg a1).1 0 73).toNatClampNeg a2) 39 ((wi (wi st 37 (st.1 0 73).toNatClampNeg a1) 38 ((wi st 37 (st.1 0 73).toNatClampNeg a1).1 0 73).toNatClampNeg a2).1 0 73).toNatClampNeg a3) 42 ((wi (wi (wi st 37 (st.1 0 73).toNatClampNeg a1) 38 ((wi st 37 (st.1 0 73).toNatClampNeg a1).1 0 73).toNatClampNeg a2) 39 ((wi (wi st 37 (st.1 0 73).toNatClampNeg a1) 38 ((wi st 37 (st.1 0 73).toNatClampNeg a1).1 0 73).toNatClampNeg a2).1 0 73).toNatClampNeg a3).1 0 73).toNatClampNeg (vp_nar .boolean a4)).1 0 73).toNatClampNeg ((wi (wi (wi (wi st 37 (st.1 0 73).toNatClampNeg a1) 38 ((wi st 37 (st.1 0 73).toNatClampNeg a1).1 0 73).toNatClampNeg a2) 39 ((wi (wi st 37 (st.1 0 73).toNatClampNeg a1) 38 ((wi st 37 (st.1 0 73).toNatClampNeg a1).1 0 73).toNatClampNeg a2).1 0 73).toNatClampNeg a3) 42 ((wi (wi (wi st 37 (st.1 0 73).toNatClampNeg a1) 38 ((wi st 37 (st.1 0 73).toNatClampNeg a1).1 0 73).toNatClampNeg a2) 39 ((wi (wi st 37 (st.1 0 73).toNatClampNeg a1) 38 ((wi st 37 (st.1 0 73).toNatClampNeg a1).1 0 73).toNatClampNeg a2).1 0 73).toNatClampNeg a3).1 0 73).toNatClampNeg (vp_nar .boolean a4)).1 0 74)) 41 ((wi (wi (wi (wi (wi st 37 (st.1 0 73).toNatClampNeg a1) 38 ((wi st 37 (st.1 0 73).toNatClampNeg a1).1 0 73).toNatClampNeg a2) 39 ((wi (wi st 37 (st.1 0 73).toNatClampNeg a1) 38 ((wi st 37 (st.1 0 73).toNatClampNeg a1).1 0 73).toNatClampNeg a2).1 0 73).toNatClampNeg a3) 42 ((wi (wi (wi st 37 (st.1 0 73).toNatClampNeg a1) 38 ((wi st 37 (st.1 0 73).toNatClampNeg a1).1 0 73).toNatClampNeg a2) 39 ((wi (wi st 37 (st.1 0 73).toNatClampNeg a1) 38 ((wi st 37 (st.1 0 73).toNatClampNeg a1).1 0 73).toNatClampNeg a2).1 0 73).toNatClampNeg a3).1 0 73).toNatClampNeg (vp_nar .boolean a4)) 40 ((wi (wi (wi (wi st 37 (st.1 0 73).toNatClampNeg a1) 38 ((wi st 37 (st.1 0 73).toNatClampNeg a1).1 0 73).toNatClampNeg a2) 39 ((wi (wi st 37 (st.1 0 73).toNatClampNeg a1) 38 ((wi st 37 (st.1 0 73).toNatClampNeg a1).1 0 73).toNatClampNeg a2).1 0 73).toNatClampNeg a3) 42 ((wi (wi (wi st 37 (st.1 0 73).toNatClampNeg a1) 38 ((wi st 37 (st.1 0 73).toNatClampNeg a1).1 0 73).toNatClampNeg a2) 39 ((wi (wi st 37 (st.1 0 73).toNatClampNeg a1) 38 ((wi st 37 (st.1 0 73).toNatClampNeg a1).1 0 73).toNatClampNeg a2).1 0 73).toNatClampNeg a3).1 0 73).toNatClampNeg (vp_nar .boolean a4)).1 0 73).toNatClampNeg ((wi (wi (wi (wi st 37 (st.1 0 73).toNatClampNeg a1) 38 ((wi st 37 (st.1 0 73).toNatClampNeg a1).1 0 73).toNatClampNeg a2) 39 ((wi (wi st 37 (st.1 0 73).toNatClampNeg a1) 38 ((wi st 37 (st.1 0 73).toNatClampNeg a1).1 0 73).toNatClampNeg a2).1 0 73).toNatClampNeg a3) 42 ((wi (wi (wi st 37 (st.1 0 73).toNatClampNeg a1) 38 ((wi st 37 (st.1 0 73).toNatClampNeg a1).1 0 73).toNatClampNeg a2) 39 ((wi (wi st 37 (st.1 0 73).toNatClampNeg a1) 38 ((wi st 37 (st.1 0 73).toNatClampNeg a1).1 0 73).toNatClampNeg a2).1 0 73).toNatClampNeg a3).1 0 73).toNatClampNeg (vp_nar .boolean a4)).1 0 74)).1 0 73).toNatClampNeg (-1)).1 0 73)) hC hU hH gk1_0 g_cl11 73 (by decide) kf_X11_410 rfl dX11_tell_77 ?_
    refine lv_iconst (v := 1) (pc := 80) hx hb dX11_tell_80 (by decide) ?_
    refine lv_iadd (pc := 81) hx hb dX11_tell_81 ?_
    refine g_puti (pc := 82) hC hU hH hS gk1_0 g_cl11 73 (by decide) kf_X11_410 rfl rfl rfl rfl dX11_tell_82 (fun H locs hH hS => ?_)
    refine lv_aload_n (pc := 85) hx hb dX11_tell_85 rfl (lv_at hl 0 rfl) ?_
    refine g_get (pc := 86) (v := .int ((wi (wi (wi (wi (wi (wi (wi st 37 (st.1 0 73).toNatClampNeg a1) 38 ((wi st 37 (st.1 0 73).toNatClampNeg a1).1 0 73).toNatClampNeg a2) 39 ((wi (wi st 37 (st.1 0 73).toNatClampNeg a1) 38 ((wi st 37 (st.1 0 73).toNatClampNeg a1).1 0 73).toNatClampNeg a2).1 0 73).toNatClampNeg a3) 42 ((wi (wi (wi st 37 (st.1 0 73).toNatClampNeg a1) 38 ((wi st 37 (st.1 0 73).toNatClampNeg a1).1 0 73).toNatClampNeg a2) 39 ((wi (wi st 37 (st.1 0 73).toNatClampNeg a1) 38 ((wi st 37 (st.1 0 73).toNatClampNeg a1).1 0 73).toNatClampNeg a2).1 0 73).toNatClampNeg a3).1 0 73).toNatClampNeg (vp_nar .boolean a4)) 40 ((wi (wi (wi (wi st 37 (st.1 0 73).toNatClampNeg a1) 38 ((wi st 37 (st.1 0 73).toNatClampNeg a1).1 0 73).toNatClampNeg a2) 39 ((wi (wi st 37 (st.1 0 73).toNatClampNeg a1) 38 ((wi st 37 (st.1 0 73).toNatClampNeg a1).1 0 73).toNatClampNeg a2).1 0 73).toNatClampNeg a3) 42 ((wi (wi (wi st 37 (st.1 0 73).toNatClampNeg a1) 38 ((wi st 37 (st.1 0 73).toNatClampNeg a1).1 0 73).toNatClampNeg a2) 39 ((wi (wi st 37 (st.1 0 73).toNatClampNeg a1) 38 ((wi st 37 (st.1 0 73).toNatClampNeg a1).1 0 73).toNatClampNeg a2).1 0 73).toNatClampNeg a3).1 0 73).toNatClampNeg (vp_nar .boolean a4)).1 0 73).toNatClampNeg ((wi (wi (wi (wi st 37 (st.1 0 73).toNatClampNeg a1) 38 ((wi st 37 (st.1 0 73).toNatClampNeg a1).1 0 73).toNatClampNeg a2) 39 ((wi (wi st 37 (st.1 0 73).toNatClampNeg a1) 38 ((wi st 37 (st.1 0 73).toNatClampNeg a1).1 0 73).toNatClampNeg a2).1 0 73).toNatClampNeg a3) 42 ((wi (wi (wi st 37 (st.1 0 73).toNatClampNeg a1) 38 ((wi st 37 (st.1 0 73).toNatClampNeg a1).1 0 73).toNatClampNeg a2) 39 ((wi (wi st 37 (st.1 0 73).toNatClampNeg a1) 38 ((wi st 37 (st.1 0 73).toNatClampNeg a1).1 0 73).toNatClampNeg a2).1 0 73).toNatClampNeg a3).1 0 73).toNatClampNeg (vp_nar .boolean a4)).1 0 74)) 41 ((wi (wi (wi (wi (wi st 37 (st.1 0 73).toNatClampNeg a1) 38 ((wi st 37 (st.1 0 73).toNatClampNeg a1).1 0 73).toNatClampNeg a2) 39 ((wi (wi st 37 (st.1 0 73).toNatClampNeg a1) 38 ((wi st 37 (st.1 0 73).toNatClampNeg a1).1 0 73).toNatClampNeg a2).1 0 73).toNatClampNeg a3) 42 ((wi (wi (wi st 37 (st.1 0 73).toNatClampNeg a1) 38 ((wi st 37 (st.1 0 73).toNatClampNeg a1).1 0 73).toNatClampNeg a2) 39 ((wi (wi st 37 (st.1 0 73).toNatClampNeg a1) 38 ((wi st 37 (st.1 0 73).toNatClampNeg a1).1 0 73).toNatClampNeg a2).1 0 73).toNatClampNeg a3).1 0 73).toNatClampNeg (vp_nar .boolean a4)) 40 ((wi (wi (wi (wi st 37 (st.1 0 73).toNatClampNeg a1) 38 ((wi st 37 (st.1 0 73).toNatClampNeg a1).1 0 73).toNatClampNeg a2) 39 ((wi (wi st 37 (st.1 0 73).toNatClampNeg a1) 38 ((wi st 37 (st.1 0 73).toNatClampNeg a1).1 0 73).toNatClampNeg a2).1 0 73).toNatClampNeg a3) 42 ((wi (wi (wi st 37 (st.1 0 73).toNatClampNeg a1) 38 ((wi st 37 (st.1 0 73).toNatClampNeg a1).1 0 73).toNatClampNeg a2) 39 ((wi (wi st 37 (st.1 0 73).toNatClampNeg a1) 38 ((wi st 37 (st.1 0 73).toNatClampNeg a1).1 0 73).toNatClampNeg a2).1 0 73).toNatClampNeg a3).1 0 73).toNatClampNeg (vp_nar .boolean a4)).1 0 73).toNatClampNeg ((wi (wi (wi (wi st 37 (st.1 0 73).toNatClampNeg a1) 38 ((wi st 37 (st.1 0 73).toNatClampNeg a1).1 0 73).toNatClampNeg a2) 39 ((wi (wi st 37 (st.1 0 73).toNatClampNeg a1) 38 ((wi st 37 (st.1 0 73).toNatClampNeg a1).1 0 73).toNatClampNeg a2).1 0 73).toNatClampNeg a3) 42 ((wi (wi (wi st 37 (st.1 0 73).toNatClampNeg a1) 38 ((wi st 37 (st.1 0 73).toNatClampNeg a1).1 0 73).toNatClampNeg a2) 39 ((wi (wi st 37 (st.1 0 73).toNatClampNeg a1) 38 ((wi st 37 (st.1 0 73).toNatClampNeg a1).1 0 73).toNatClampNeg a2).1 0 73).toNatClampNeg a3).1 0 73).toNatClampNeg (vp_nar .boolean a4)).1 0 74)).1 0 73).toNatClampNeg (-1)) 0 73 (((wi (wi (wi (wi (wi (wi st 37 (st.1 0 73).toNatClampNeg a1) 38 ((wi st 37 (st.1 0 73).toNatClampNeg a1).1 0 73).toNatClampNeg a2) 39 ((wi (wi st 37 (st.1 0 73).toNatClampNeg a1) 38 ((wi st 37 (st.1 0 73).toNatClampNeg a1).1 0 73).toNatClampNeg a2).1 0 73).toNatClampNeg a3) 42 ((wi (wi (wi st 37 (st.1 0 73).toNatClampNeg a1) 38 ((wi st 37 (st.1 0 73).toNatClampNeg a1).1 0 73).toNatClampNeg a2) 39 ((wi (wi st 37 (st.1 0 73).toNatClampNeg a1) 38 ((wi st 37 (st.1 0 73).toNatClampNeg a1).1 0 73).toNatClampNeg a2).1 0 73).toNatClampNeg a3).1 0 73).toNatClampNeg (vp_nar .boolean a4)) 40 ((wi (wi (wi (wi st 37 (st.1 0 73).toNatClampNeg a1) 38 ((wi st 37 (st.1 0 73).toNatClampNeg a1).1 0 73).toNatClampNeg a2) 39 ((wi (wi st 37 (st.1 0 73).toNatClampNeg a1) 38 ((wi st 37 (st.1 0 73).toNatClampNeg a1).1 0 73).toNatClampNeg a2).1 0 73).toNatClampNeg a3) 42 ((wi (wi (wi st 37 (st.1 0 73).toNatClampNeg a1) 38 ((wi st 37 (st.1 0 73).toNatClampNeg a1).1 0 73).toNatClampNeg a2) 39 ((wi (wi st 37 (st.1 0 73).toNatClampNeg a1) 38 ((wi st 37 (st.1 0 73).toNatClampNeg a1).1 0 73).toNatClampNeg a2).1 0 73).toNatClampNeg a3).1 0 73).toNatClampNeg (vp_nar .boolean a4)).1 0 73).toNatClampNeg ((wi (wi (wi (wi st 37 (st.1 0 73).toNatClampNeg a1) 38 ((wi st 37 (st.1 0 73).toNatClampNeg a1).1 0 73).toNatClampNeg a2) 39 ((wi (wi st 37 (st.1 0 73).toNatClampNeg a1) 38 ((wi st 37 (st.1 0 73).toNatClampNeg a1).1 0 73).toNatClampNeg a2).1 0 73).toNatClampNeg a3) 42 ((wi (wi (wi st 37 (st.1 0 73).toNatClampNeg a1) 38 ((wi st 37 (st.1 0 73).toNatClampNeg a1).1 0 73).toNatClampNeg a2) 39 ((wi (wi st 37 (st.1 0 73).toNatClampNeg a1) 38 ((wi st 37 (st.1 0 73).toNatClampNeg a1).1 0 73).toNatClampNeg a2).1 0 73).toNatClampNeg a3).1 0 73).toNatClampNeg (vp_nar .boolean a4)).1 0 74)) 41 ((wi (wi (wi (wi (wi st 37 (st.1 0 73).toNatClampNeg a1) 38 ((wi st 37 (st.1 0 73).toNatClampNeg a1).1 0 73).toNatClampNeg a2) 39 ((wi (wi st 37 (st.1 0 73).toNatClampNeg a1) 38 ((wi st 37 (st.1 0 73).toNatClampNeg a1).1 0 73).toNatClampNeg a2).1 0 73).toNatClampNeg a3) 42 ((wi (wi (wi st 37 (st.1 0 73).toNatClampNeg a1) 38 ((wi st 37 (st.1 0 73).toNatClampNeg a1).1 0 73).toNatClampNeg a2) 39 ((wi (wi st 37 (st.1 0 73).toNatClampNeg a1) 38 ((wi st 37 (st.1 0 73).toNatClampNeg a1).1 0 73).toNatClampNeg a2).1 0 73).toNatClampNeg a3).1 0 73).toNatClampNeg (vp_nar .boolean a4)) 40 ((wi (wi (wi (wi st 37 (st.1 0 73).toNatClampNeg a1) 38 ((wi st 37 (st.1 0 73).toNatClampNeg a1).1 0 73).toNatClampNeg a2) 39 ((wi (wi st 37 (st.1 0 73).toNatClampNeg a1) 38 ((wi st 37 (st.1 0 73).toNatClampNeg a1).1 0 73).toNatClampNeg a2).1 0 73).toNatClampNeg a3) 42 ((wi (wi (wi st 37 (st.1 0 73).toNatClampNeg a1) 38 ((wi st 37 (st.1 0 73).toNatClampNeg a1).1 0 73).toNatClampNeg a2) 39 ((wi (wi st 37 (st.1 0 73).toNatClampNeg a1) 38 ((wi st 37 (st.1 0 73).toNatClampNeg a1).1 0 73).toNatClampNeg a2).1 0 73).toNatClampNeg a3).1 0 73).toNatClampNeg (vp_nar .boolean a4)).1 0 73).toNatClampNeg ((wi (wi (wi (wi st 37 (st.1 0 73).toNatClampNeg a1) 38 ((wi st 37 (st.1 0 73).toNatClampNeg a1).1 0 73).toNatClampNeg a2) 39 ((wi (wi st 37 (st.1 0 73).toNatClampNeg a1) 38 ((wi st 37 (st.1 0 73).toNatClampNeg a1).1 0 73).toNatClampNeg a2).1 0 73).toNatClampNeg a3) 42 ((wi (wi (wi st 37 (st.1 0 73).toNatClampNeg a1) 38 ((wi st 37 (st.1 0 73).toNatClampNeg a1).1 0 73).toNatClampNeg a2) 39 ((wi (wi st 37 (st.1 0 73).toNatClampNeg a1) 38 ((wi st 37 (st.1 0 73).toNatClampNeg a1).1 0 73).toNatClampNeg a2).1 0 73).toNatClampNeg a3).1 0 73).toNatClampNeg (vp_nar .boolean a4)).1 0 74)).1 0 73).toNatClampNeg (-1)).1 0 73) + 1)).1 0 73)) hC hU hH gk1_0 g_cl11 73 (by decide) kf_X11_410 rfl dX11_tell_86 ?_
    refine lv_iconst (v := 1) (pc := 89) hx hb dX11_tell_89 (by decide) ?_
    refine lv_isub (pc := 90) hx hb dX11_tell_90 ?_
    exact g_iret (pc := 91) hC hret hlk hH hS hf dX11_tell_91
  · have hf := gif_p hc hf
    refine lv_iconst (v := (-1)) (pc := 9) hx hb dX11_tell_9 (by decide) ?_
    exact g_iret (pc := 10) hC hret hlk hH hS hf dX11_tell_10
set_option maxRecDepth 100000 in
set_option maxHeartbeats 4000000 in
theorem mX11_tell {l : Launch} {D : va_G} {cA : Nat → ClassId} {ad : Nat → Nat} {a1 : Int32} {a2 : Int32} {a3 : Int32} {a4 : Int32}  {r : Int32} {st st' : gS} (hf : fX11_tell a1 a2 a3 a4 st = some (r, st')) : gM l yX11_tell cX11_tell 5 (some .int) 1 1 D cA ad st [.ref (ad 0), .int a1, .int a2, .int a3, .int a4] (some (.int r)) st' := by
  refine g_met (by decide) (Nat.le_of_ble_eq_true rfl) ?_
  intro p e s m args below meth c ls hC hret hlk hU hH hl
  exact bX11_tell_0 hC hret hlk hU hf hH va_S.rf hl
end
