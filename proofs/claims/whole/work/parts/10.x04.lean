section
variable {p : Program} {l : Launch} {e : Env} {s : State} {m : MethodId} {args : Array Value} {below : List Frame} {meth : Method} {c : Code} {D : va_G} {cA : Nat → ClassId} {ad : Nat → Nat}
def fX3_byTakings_115 (r1 : Nat) (r2 : Nat) (a3 : Int32)   (st : gS) : Option (Int32 × gS) :=
  (fX3_heldByAny r1 st).bind fun q115_1 => (some (q115_1.1, q115_1.2))
set_option maxRecDepth 100000 in
set_option maxHeartbeats 4000000 in
theorem bX3_byTakings_115 {r1 : Nat} {r2 : Nat} {a3 : Int32} (hC : CallFix p m c cX3_byTakings 8 s args lw_good RX3) (hret : meth.sig.returnType = (some .int)) (hlk : meth.locks = false) (hU : gU 0 D cA ad s) (hr1 : gK 0 r1 = 8) (hr2 : gK 0 r2 = 5) {r : Int32} {st' : gS}   {st : gS} {H : Heap} {locs : List Loc} {ls : Array Slot} (hf : fX3_byTakings_115 r1 r2 a3 st = some (r, st')) (hH : gP0 0 D cA ad st H) (hS : va_S (gA 0 ad) s.heap H locs) (hl : lv_has ls 8 [(0, .ref (ad 167)), (1, .ref (ad r1))]) : W p l e (gRm 3) s m args below meth c H locs 0 0 (MQ below (gQc 0 D cA ad st' (some (.int r))) args s 0 0 (gA 0 ad)) (F0 m 115 ls []) := by
  obtain ⟨hx, hb, hml, hown, hts⟩ := id hC
  unfold fX3_byTakings_115 at hf
  refine lv_aload_n (pc := 115) hx hb dX3_byTakings_115 rfl (lv_at hl 0 rfl) ?_
  refine lv_aload_n (pc := 116) hx hb dX3_byTakings_116 rfl (lv_at hl 1 rfl) ?_
  obtain ⟨q115_1, hq115_1, hf⟩ := gbd hf
  refine g_callVi (pc := 117) (rest := []) hC hU hH hS hl.1 gk0_167 rfl (by decide) (mX3_heldByAny hr1 hq115_1) ky_X3_heldByAny km_X3_44 ⟨Nat.le_of_ble_eq_true rfl, Nat.le_of_ble_eq_true rfl⟩ ⟨Nat.zero_le _, Nat.zero_le _⟩ rfl (Nat.le_of_ble_eq_true rfl) dX3_byTakings_117 rfl (fun H locs hH hS => ?_)
  exact g_iret (pc := 120) hC hret hlk hH hS hf dX3_byTakings_120
def fX3_byTakings_71 (r1 : Nat) (r2 : Nat) (a3 : Int32) (k53 : Int32 → Int32 → Int32 → gS → Option (Int32 × gS)) (k71 : Int32 → Int32 → Int32 → Int32 → gS → Option (Int32 × gS)) (l4 : Int32) (l5 : Int32) (l6 : Int32) (l7 : Int32) (st : gS) : Option (Int32 × gS) :=
  if (st.1 r1 13) ≤ l7 then (k53 l4 l5 (l6 + 1) st) else (if ((l4 >>> (l7 &&& 31)) &&& 1) = 0 then (k71 l4 l5 l6 (l7 + 1) st) else ((fX3_holdsMore r1 l7 st).bind fun q71_1 => (if q71_1.1 = 0 then (k71 l4 l5 l6 (l7 + 1) q71_1.2) else (k71 l4 1 l6 (l7 + 1) q71_1.2))))
set_option maxRecDepth 100000 in
set_option maxHeartbeats 4000000 in
theorem bX3_byTakings_71 {r1 : Nat} {r2 : Nat} {a3 : Int32} (hC : CallFix p m c cX3_byTakings 8 s args lw_good RX3) (hret : meth.sig.returnType = (some .int)) (hlk : meth.locks = false) (hU : gU 0 D cA ad s) (hr1 : gK 0 r1 = 8) (hr2 : gK 0 r2 = 5) {r : Int32} {st' : gS} {k53 : Int32 → Int32 → Int32 → gS → Option (Int32 × gS)} (hk53 : ∀ {l4 : Int32} {l5 : Int32} {l6 : Int32} {st : gS} {H : Heap} {locs : List Loc} {ls : Array Slot}, k53 l4 l5 l6 st = some (r, st') → gP0 0 D cA ad st H → va_S (gA 0 ad) s.heap H locs → lv_has ls 8 [(0, .ref (ad 167)), (1, .ref (ad r1)), (4, .int l4), (5, .int l5), (6, .int l6)] → W p l e (gRm 3) s m args below meth c H locs 0 0 (MQ below (gQc 0 D cA ad st' (some (.int r))) args s 0 0 (gA 0 ad)) (F0 m 53 ls [])) {k71 : Int32 → Int32 → Int32 → Int32 → gS → Option (Int32 × gS)} (hk71 : ∀ {l4 : Int32} {l5 : Int32} {l6 : Int32} {l7 : Int32} {st : gS} {H : Heap} {locs : List Loc} {ls : Array Slot}, k71 l4 l5 l6 l7 st = some (r, st') → gP0 0 D cA ad st H → va_S (gA 0 ad) s.heap H locs → lv_has ls 8 [(0, .ref (ad 167)), (1, .ref (ad r1)), (4, .int l4), (5, .int l5), (6, .int l6), (7, .int l7)] → W p l e (gRm 3) s m args below meth c H locs 0 0 (MQ below (gQc 0 D cA ad st' (some (.int r))) args s 0 0 (gA 0 ad)) (F0 m 71 ls [])) {l4 : Int32} {l5 : Int32} {l6 : Int32} {l7 : Int32} {st : gS} {H : Heap} {locs : List Loc} {ls : Array Slot} (hf : fX3_byTakings_71 r1 r2 a3 k53 k71 l4 l5 l6 l7 st = some (r, st')) (hH : gP0 0 D cA ad st H) (hS : va_S (gA 0 ad) s.heap H locs) (hl : lv_has ls 8 [(0, .ref (ad 167)), (1, .ref (ad r1)), (4, .int l4), (5, .int l5), (6, .int l6), (7, .int l7)]) : W p l e (gRm 3) s m args below meth c H locs 0 0 (MQ below (gQc 0 D cA ad st' (some (.int r))) args s 0 0 (gA 0 ad)) (F0 m 71 ls []) := by
  obtain ⟨hx, hb, hml, hown, hts⟩ := id hC
  unfold fX3_byTakings_71 at hf
  refine lv_iload (pc := 71) hx hb dX3_byTakings_71 (lv_at hl 5 rfl) ?_
  refine lv_aload_n (pc := 73) hx hb dX3_byTakings_73 rfl (lv_at hl 1 rfl) ?_
  refine g_get (pc := 74) (v := .int (st.1 r1 13)) hC hU hH hr1 g_cl8 13 (by decide) kf_X3_37 rfl dX3_byTakings_74 ?_
  refine lv_icmp_ge (tgt := 109) (pc := 77) hx hb dX3_byTakings_77 (by decide) (fun hc => ?_) (fun hc => ?_)
  · have hf := gif_p hc hf
    refine lv_iinc (v := l6 + 1) (lv' := [(6, .int (l6 + 1)), (0, .ref (ad 167)), (1, .ref (ad r1)), (4, .int l4), (5, .int l5), (7, .int l7)]) (k := 4) (pc := 109) hx hb dX3_byTakings_109 hl rfl rfl (by decide) rfl (fun ls hl => ?_)
    refine lv_goto (tgt := 53) (pc := 112) hx hb dX3_byTakings_112 (by decide) ?_
    exact hk53 hf hH hS (lv_sub hl [1, 2, 3, 4, 0] rfl)
  · have hf := gif_n hc hf
    refine lv_iload (pc := 80) hx hb dX3_byTakings_80 (lv_at hl 2 rfl) ?_
    refine lv_iload (pc := 82) hx hb dX3_byTakings_82 (lv_at hl 5 rfl) ?_
    refine lv_ishr (pc := 84) hx hb dX3_byTakings_84 ?_
    refine lv_iconst (v := 1) (pc := 85) hx hb dX3_byTakings_85 (by decide) ?_
    refine lv_iand (pc := 86) hx hb dX3_byTakings_86 ?_
    refine lv_if_eq (tgt := 103) (pc := 87) hx hb dX3_byTakings_87 (by decide) (fun hc => ?_) (fun hc => ?_)
    · have hf := gif_p hc hf
      refine lv_iinc (v := l7 + 1) (lv' := [(7, .int (l7 + 1)), (0, .ref (ad 167)), (1, .ref (ad r1)), (4, .int l4), (5, .int l5), (6, .int l6)]) (k := 5) (pc := 103) hx hb dX3_byTakings_103 hl rfl rfl (by decide) rfl (fun ls hl => ?_)
      refine lv_goto (tgt := 71) (pc := 106) hx hb dX3_byTakings_106 (by decide) ?_
      exact hk71 hf hH hS (lv_sub hl [1, 2, 3, 4, 5, 0] rfl)
    · have hf := gif_n hc hf
      refine lv_aload_n (pc := 90) hx hb dX3_byTakings_90 rfl (lv_at hl 0 rfl) ?_
      refine lv_aload_n (pc := 91) hx hb dX3_byTakings_91 rfl (lv_at hl 1 rfl) ?_
      refine lv_iload (pc := 92) hx hb dX3_byTakings_92 (lv_at hl 5 rfl) ?_
      obtain ⟨q71_1, hq71_1, hf⟩ := gbd hf
      refine g_callVi (pc := 94) (rest := []) hC hU hH hS hl.1 gk0_167 rfl (by decide) (mX3_holdsMore hr1 hq71_1) ky_X3_holdsMore km_X3_40 ⟨Nat.le_of_ble_eq_true rfl, Nat.le_of_ble_eq_true rfl⟩ ⟨Nat.zero_le _, Nat.zero_le _⟩ rfl (Nat.le_of_ble_eq_true rfl) dX3_byTakings_94 rfl (fun H locs hH hS => ?_)
      refine lv_if_eq (tgt := 103) (pc := 97) hx hb dX3_byTakings_97 (by decide) (fun hc => ?_) (fun hc => ?_)
      · have hf := gif_p hc hf
        refine lv_iinc (v := l7 + 1) (lv' := [(7, .int (l7 + 1)), (0, .ref (ad 167)), (1, .ref (ad r1)), (4, .int l4), (5, .int l5), (6, .int l6)]) (k := 5) (pc := 103) hx hb dX3_byTakings_103 hl rfl rfl (by decide) rfl (fun ls hl => ?_)
        refine lv_goto (tgt := 71) (pc := 106) hx hb dX3_byTakings_106 (by decide) ?_
        exact hk71 hf hH hS (lv_sub hl [1, 2, 3, 4, 5, 0] rfl)
      · have hf := gif_n hc hf
        refine lv_iconst (v := 1) (pc := 100) hx hb dX3_byTakings_100 (by decide) ?_
        refine lv_istore (lv' := [(5, .int 1), (0, .ref (ad 167)), (1, .ref (ad r1)), (4, .int l4), (6, .int l6), (7, .int l7)]) (pc := 101) hx hb dX3_byTakings_101 hl (by decide) rfl (fun ls hl => ?_)
        refine lv_iinc (v := l7 + 1) (lv' := [(7, .int (l7 + 1)), (5, .int 1), (0, .ref (ad 167)), (1, .ref (ad r1)), (4, .int l4), (6, .int l6)]) (k := 5) (pc := 103) hx hb dX3_byTakings_103 hl rfl rfl (by decide) rfl (fun ls hl => ?_)
        refine lv_goto (tgt := 71) (pc := 106) hx hb dX3_byTakings_106 (by decide) ?_
        exact hk71 hf hH hS (lv_sub hl [2, 3, 4, 1, 5, 0] rfl)
def hX3_byTakings_71 (r1 : Nat) (r2 : Nat) (a3 : Int32) (k53 : Int32 → Int32 → Int32 → gS → Option (Int32 × gS)) : Nat → Int32 → Int32 → Int32 → Int32 → gS → Option (Int32 × gS)
  | 0 => fun _ _ _ _ _ => none
  | n + 1 => fun l4 l5 l6 l7 st => fX3_byTakings_71 r1 r2 a3 k53 (hX3_byTakings_71 r1 r2 a3 k53 n) l4 l5 l6 l7 st
set_option maxRecDepth 100000 in
set_option maxHeartbeats 4000000 in
theorem wX3_byTakings_71 {r1 : Nat} {r2 : Nat} {a3 : Int32} (hC : CallFix p m c cX3_byTakings 8 s args lw_good RX3) (hret : meth.sig.returnType = (some .int)) (hlk : meth.locks = false) (hU : gU 0 D cA ad s) (hr1 : gK 0 r1 = 8) (hr2 : gK 0 r2 = 5) {r : Int32} {st' : gS} {k53 : Int32 → Int32 → Int32 → gS → Option (Int32 × gS)} (hk53 : ∀ {l4 : Int32} {l5 : Int32} {l6 : Int32} {st : gS} {H : Heap} {locs : List Loc} {ls : Array Slot}, k53 l4 l5 l6 st = some (r, st') → gP0 0 D cA ad st H → va_S (gA 0 ad) s.heap H locs → lv_has ls 8 [(0, .ref (ad 167)), (1, .ref (ad r1)), (4, .int l4), (5, .int l5), (6, .int l6)] → W p l e (gRm 3) s m args below meth c H locs 0 0 (MQ below (gQc 0 D cA ad st' (some (.int r))) args s 0 0 (gA 0 ad)) (F0 m 53 ls [])) : ∀ (n : Nat) {l4 : Int32} {l5 : Int32} {l6 : Int32} {l7 : Int32} {st : gS} {H : Heap} {locs : List Loc} {ls : Array Slot}, hX3_byTakings_71 r1 r2 a3 k53 n l4 l5 l6 l7 st = some (r, st') → gP0 0 D cA ad st H → va_S (gA 0 ad) s.heap H locs → lv_has ls 8 [(0, .ref (ad 167)), (1, .ref (ad r1)), (4, .int l4), (5, .int l5), (6, .int l6), (7, .int l7)] → W p l e (gRm 3) s m args below meth c H locs 0 0 (MQ below (gQc 0 D cA ad st' (some (.int r))) args s 0 0 (gA 0 ad)) (F0 m 71 ls []) := by
  intro n
  induction n with
  | zero => intro l4 l5 l6 l7 st H locs ls hf hH hS hl; cases hf
  | succ n ih =>
    intro l4 l5 l6 l7 st H locs ls hf hH hS hl
    exact bX3_byTakings_71 (r1 := r1) (r2 := r2) (a3 := a3) hC hret hlk hU hr1 hr2 hk53 (fun hf hH hS hl => ih hf hH hS hl) hf hH hS hl
def fX3_byTakings_53 (r1 : Nat) (r2 : Nat) (a3 : Int32) (k53 : Int32 → Int32 → Int32 → gS → Option (Int32 × gS)) (l4 : Int32) (l5 : Int32) (l6 : Int32) (st : gS) : Option (Int32 × gS) :=
  if 40 ≤ l6 then (fX3_byTakings_115 r1 r2 a3 st) else (if l5 = 0 then (fX3_byTakings_115 r1 r2 a3 st) else (hX3_byTakings_71 r1 r2 a3 k53 FU l4 0 l6 0 st))
set_option maxRecDepth 100000 in
set_option maxHeartbeats 4000000 in
theorem bX3_byTakings_53 {r1 : Nat} {r2 : Nat} {a3 : Int32} (hC : CallFix p m c cX3_byTakings 8 s args lw_good RX3) (hret : meth.sig.returnType = (some .int)) (hlk : meth.locks = false) (hU : gU 0 D cA ad s) (hr1 : gK 0 r1 = 8) (hr2 : gK 0 r2 = 5) {r : Int32} {st' : gS} {k53 : Int32 → Int32 → Int32 → gS → Option (Int32 × gS)} (hk53 : ∀ {l4 : Int32} {l5 : Int32} {l6 : Int32} {st : gS} {H : Heap} {locs : List Loc} {ls : Array Slot}, k53 l4 l5 l6 st = some (r, st') → gP0 0 D cA ad st H → va_S (gA 0 ad) s.heap H locs → lv_has ls 8 [(0, .ref (ad 167)), (1, .ref (ad r1)), (4, .int l4), (5, .int l5), (6, .int l6)] → W p l e (gRm 3) s m args below meth c H locs 0 0 (MQ below (gQc 0 D cA ad st' (some (.int r))) args s 0 0 (gA 0 ad)) (F0 m 53 ls [])) {l4 : Int32} {l5 : Int32} {l6 : Int32} {st : gS} {H : Heap} {locs : List Loc} {ls : Array Slot} (hf : fX3_byTakings_53 r1 r2 a3 k53 l4 l5 l6 st = some (r, st')) (hH : gP0 0 D cA ad st H) (hS : va_S (gA 0 ad) s.heap H locs) (hl : lv_has ls 8 [(0, .ref (ad 167)), (1, .ref (ad r1)), (4, .int l4), (5, .int l5), (6, .int l6)]) : W p l e (gRm 3) s m args below meth c H locs 0 0 (MQ below (gQc 0 D cA ad st' (some (.int r))) args s 0 0 (gA 0 ad)) (F0 m 53 ls []) := by
  obtain ⟨hx, hb, hml, hown, hts⟩ := id hC
  unfold fX3_byTakings_53 at hf
  refine lv_iload (pc := 53) hx hb dX3_byTakings_53 (lv_at hl 4 rfl) ?_
  refine lv_bipush (v := 40) (pc := 55) hx hb dX3_byTakings_55 (by decide) ?_
  refine lv_icmp_ge (tgt := 115) (pc := 57) hx hb dX3_byTakings_57 (by decide) (fun hc => ?_) (fun hc => ?_)
  · have hf := gif_p hc hf
    exact bX3_byTakings_115 hC hret hlk hU hr1 hr2 hf hH hS (lv_sub hl [0, 1] rfl)
  · have hf := gif_n hc hf
    refine lv_iload (pc := 60) hx hb dX3_byTakings_60 (lv_at hl 3 rfl) ?_
    refine lv_if_eq (tgt := 115) (pc := 62) hx hb dX3_byTakings_62 (by decide) (fun hc => ?_) (fun hc => ?_)
    · have hf := gif_p hc hf
      exact bX3_byTakings_115 hC hret hlk hU hr1 hr2 hf hH hS (lv_sub hl [0, 1] rfl)
    · have hf := gif_n hc hf
      refine lv_iconst (v := 0) (pc := 65) hx hb dX3_byTakings_65 (by decide) ?_
      refine lv_istore (lv' := [(5, .int 0), (0, .ref (ad 167)), (1, .ref (ad r1)), (4, .int l4), (6, .int l6)]) (pc := 66) hx hb dX3_byTakings_66 hl (by decide) rfl (fun ls hl => ?_)
      refine lv_iconst (v := 0) (pc := 68) hx hb dX3_byTakings_68 (by decide) ?_
      refine lv_istore (lv' := [(7, .int 0), (5, .int 0), (0, .ref (ad 167)), (1, .ref (ad r1)), (4, .int l4), (6, .int l6)]) (pc := 69) hx hb dX3_byTakings_69 hl (by decide) rfl (fun ls hl => ?_)
      exact wX3_byTakings_71 hC hret hlk hU hr1 hr2 hk53 FU hf hH hS (lv_sub hl [2, 3, 4, 1, 5, 0] rfl)
def hX3_byTakings_53 (r1 : Nat) (r2 : Nat) (a3 : Int32)  : Nat → Int32 → Int32 → Int32 → gS → Option (Int32 × gS)
  | 0 => fun _ _ _ _ => none
  | n + 1 => fun l4 l5 l6 st => fX3_byTakings_53 r1 r2 a3 (hX3_byTakings_53 r1 r2 a3 n) l4 l5 l6 st
set_option maxRecDepth 100000 in
set_option maxHeartbeats 4000000 in
theorem wX3_byTakings_53 {r1 : Nat} {r2 : Nat} {a3 : Int32} (hC : CallFix p m c cX3_byTakings 8 s args lw_good RX3) (hret : meth.sig.returnType = (some .int)) (hlk : meth.locks = false) (hU : gU 0 D cA ad s) (hr1 : gK 0 r1 = 8) (hr2 : gK 0 r2 = 5) {r : Int32} {st' : gS}  : ∀ (n : Nat) {l4 : Int32} {l5 : Int32} {l6 : Int32} {st : gS} {H : Heap} {locs : List Loc} {ls : Array Slot}, hX3_byTakings_53 r1 r2 a3 n l4 l5 l6 st = some (r, st') → gP0 0 D cA ad st H → va_S (gA 0 ad) s.heap H locs → lv_has ls 8 [(0, .ref (ad 167)), (1, .ref (ad r1)), (4, .int l4), (5, .int l5), (6, .int l6)] → W p l e (gRm 3) s m args below meth c H locs 0 0 (MQ below (gQc 0 D cA ad st' (some (.int r))) args s 0 0 (gA 0 ad)) (F0 m 53 ls []) := by
  intro n
  induction n with
  | zero => intro l4 l5 l6 st H locs ls hf hH hS hl; cases hf
  | succ n ih =>
    intro l4 l5 l6 st H locs ls hf hH hS hl
    exact bX3_byTakings_53 (r1 := r1) (r2 := r2) (a3 := a3) hC hret hlk hU hr1 hr2 (fun hf hH hS hl => ih hf hH hS hl) hf hH hS hl
def fX3_byTakings (r1 : Nat) (r2 : Nat) (a3 : Int32)   (st : gS) : Option (Int32 × gS) :=
  (fX8_hasTribe r1 (st.1 r2 3) st).bind fun q0_1 => (if q0_1.1 = 0 then ((fX5_figureBit r2 q0_1.2).bind fun q0_4 => (some (q0_4.1, q0_4.2))) else ((fJ7_fill_53178 168 0 q0_1.2).bind fun q0_2 => ((fX5_figureBit r2 q0_2).bind fun q0_3 => (gc (gI (q0_2.1 r2 3) 5) (gl (a3 ||| (1 <<< (((wi q0_3.2 168 (q0_2.1 r2 3).toNatClampNeg q0_3.1).1 r2 3) &&& 31))) fun x45 => (hX3_byTakings_53 r1 r2 a3 FU x45 1 0 (wi q0_3.2 168 (q0_2.1 r2 3).toNatClampNeg q0_3.1)))))))
set_option maxRecDepth 100000 in
set_option maxHeartbeats 4000000 in
theorem bX3_byTakings_0 {r1 : Nat} {r2 : Nat} {a3 : Int32} (hC : CallFix p m c cX3_byTakings 8 s args lw_good RX3) (hret : meth.sig.returnType = (some .int)) (hlk : meth.locks = false) (hU : gU 0 D cA ad s) (hr1 : gK 0 r1 = 8) (hr2 : gK 0 r2 = 5) {r : Int32} {st' : gS}   {st : gS} {H : Heap} {locs : List Loc} {ls : Array Slot} (hf : fX3_byTakings r1 r2 a3 st = some (r, st')) (hH : gP0 0 D cA ad st H) (hS : va_S (gA 0 ad) s.heap H locs) (hl : lv_has ls 8 [(0, .ref (ad 167)), (1, .ref (ad r1)), (2, .ref (ad r2)), (3, .int a3)]) : W p l e (gRm 3) s m args below meth c H locs 0 0 (MQ below (gQc 0 D cA ad st' (some (.int r))) args s 0 0 (gA 0 ad)) (F0 m 0 ls []) := by
  obtain ⟨hx, hb, hml, hown, hts⟩ := id hC
  unfold fX3_byTakings at hf
  refine lv_aload_n (pc := 0) hx hb dX3_byTakings_0 rfl (lv_at hl 1 rfl) ?_
  refine lv_aload_n (pc := 1) hx hb dX3_byTakings_1 rfl (lv_at hl 2 rfl) ?_
  refine g_get (pc := 2) (v := .int (st.1 r2 3)) hC hU hH hr2 g_cl5 3 (by decide) kf_X3_15 rfl dX3_byTakings_2 ?_
  obtain ⟨q0_1, hq0_1, hf⟩ := gbd hf
  refine g_callVi (pc := 5) (rest := []) hC hU hH hS hl.1 hr1 rfl (by decide) (mX8_hasTribe hr1 hq0_1) ky_X8_hasTribe km_X3_21 ⟨Nat.le_of_ble_eq_true rfl, Nat.le_of_ble_eq_true rfl⟩ ⟨Nat.zero_le _, Nat.zero_le _⟩ rfl (Nat.le_of_ble_eq_true rfl) dX3_byTakings_5 rfl (fun H locs hH hS => ?_)
  refine lv_if_ne (tgt := 16) (pc := 8) hx hb dX3_byTakings_8 (by decide) (fun hc => ?_) (fun hc => ?_)
  · have hf := gif_n hc hf
    refine lv_aload_n (pc := 16) hx hb dX3_byTakings_16 rfl (lv_at hl 0 rfl) ?_
    refine g_get (pc := 17) (v := .ref (ad 168)) hC hU hH gk0_167 g_cl3 0 (by decide) kf_X3_9 rfl dX3_byTakings_17 ?_
    refine lv_iconst (v := 0) (pc := 20) hx hb dX3_byTakings_20 (by decide) ?_
    obtain ⟨q0_2, hq0_2, hf⟩ := gbd hf
    refine g_callSv (pc := 21) (rest := []) hC hU hH hS hl.1 (mJ7_fill_53178 gk0_168 hq0_2) ky_J7_fill_53178 km_X3_31 ⟨Nat.le_of_ble_eq_true rfl, Nat.le_of_ble_eq_true rfl⟩ ⟨Nat.zero_le _, Nat.zero_le _⟩ rfl (Nat.le_of_ble_eq_true rfl) dX3_byTakings_21 rfl (fun H locs hH hS => ?_)
    refine lv_aload_n (pc := 24) hx hb dX3_byTakings_24 rfl (lv_at hl 0 rfl) ?_
    refine g_get (pc := 25) (v := .ref (ad 168)) hC hU hH gk0_167 g_cl3 0 (by decide) kf_X3_9 rfl dX3_byTakings_25 ?_
    refine lv_aload_n (pc := 28) hx hb dX3_byTakings_28 rfl (lv_at hl 2 rfl) ?_
    refine g_get (pc := 29) (v := .int (q0_2.1 r2 3)) hC hU hH hr2 g_cl5 3 (by decide) kf_X3_15 rfl dX3_byTakings_29 ?_
    refine lv_aload_n (pc := 32) hx hb dX3_byTakings_32 rfl (lv_at hl 2 rfl) ?_
    obtain ⟨q0_3, hq0_3, hf⟩ := gbd hf
    refine g_callVi (pc := 33) (rest := [.int (q0_2.1 r2 3), .ref (ad 168)]) hC hU hH hS hl.1 hr2 rfl (by decide) (mX5_figureBit hr2 hq0_3) ky_X5_figureBit km_X3_27 ⟨Nat.le_of_ble_eq_true rfl, Nat.le_of_ble_eq_true rfl⟩ ⟨Nat.zero_le _, Nat.zero_le _⟩ rfl (Nat.le_of_ble_eq_true rfl) dX3_byTakings_33 rfl (fun H locs hH hS => ?_)
    obtain ⟨h0_1, hf⟩ := gc_s hf
    refine g_iast (pc := 36) hC hU hH hS gk0_168 gn0_168 h0_1 dX3_byTakings_36 (fun H locs hH hS => ?_)
    refine lv_iload_n (pc := 37) hx hb dX3_byTakings_37 rfl (lv_at hl 3 rfl) ?_
    refine lv_iconst (v := 1) (pc := 38) hx hb dX3_byTakings_38 (by decide) ?_
    refine lv_aload_n (pc := 39) hx hb dX3_byTakings_39 rfl (lv_at hl 2 rfl) ?_
    refine g_get (pc := 40) (v := .int ((wi q0_3.2 168 (q0_2.1 r2 3).toNatClampNeg q0_3.1).1 r2 3)) hC hU hH hr2 g_cl5 3 (by decide) kf_X3_15 rfl dX3_byTakings_40 ?_
    refine lv_ishl (pc := 43) hx hb dX3_byTakings_43 ?_
    refine lv_ior (pc := 44) hx hb dX3_byTakings_44 ?_
    refine lv_topi (pc := 45) (fun x45 ex45 => ?_)
    have hf := gl_s ex45 hf
    refine lv_istore (lv' := [(4, .int x45), (0, .ref (ad 167)), (1, .ref (ad r1)), (2, .ref (ad r2)), (3, .int a3)]) (pc := 45) hx hb dX3_byTakings_45 hl (by decide) rfl (fun ls hl => ?_)
    refine lv_iconst (v := 1) (pc := 47) hx hb dX3_byTakings_47 (by decide) ?_
    refine lv_istore (lv' := [(5, .int 1), (4, .int x45), (0, .ref (ad 167)), (1, .ref (ad r1)), (2, .ref (ad r2)), (3, .int a3)]) (pc := 48) hx hb dX3_byTakings_48 hl (by decide) rfl (fun ls hl => ?_)
    refine lv_iconst (v := 0) (pc := 50) hx hb dX3_byTakings_50 (by decide) ?_
    refine lv_istore (lv' := [(6, .int 0), (5, .int 1), (4, .int x45), (0, .ref (ad 167)), (1, .ref (ad r1)), (2, .ref (ad r2)), (3, .int a3)]) (pc := 51) hx hb dX3_byTakings_51 hl (by decide) rfl (fun ls hl => ?_)
    exact wX3_byTakings_53 hC hret hlk hU hr1 hr2 FU hf hH hS (lv_sub hl [3, 4, 2, 1, 0] rfl)
  · have hf := gif_p hc hf
    refine lv_aload_n (pc := 11) hx hb dX3_byTakings_11 rfl (lv_at hl 2 rfl) ?_
    obtain ⟨q0_4, hq0_4, hf⟩ := gbd hf
    refine g_callVi (pc := 12) (rest := []) hC hU hH hS hl.1 hr2 rfl (by decide) (mX5_figureBit hr2 hq0_4) ky_X5_figureBit km_X3_27 ⟨Nat.le_of_ble_eq_true rfl, Nat.le_of_ble_eq_true rfl⟩ ⟨Nat.zero_le _, Nat.zero_le _⟩ rfl (Nat.le_of_ble_eq_true rfl) dX3_byTakings_12 rfl (fun H locs hH hS => ?_)
    exact g_iret (pc := 15) hC hret hlk hH hS hf dX3_byTakings_15
set_option maxRecDepth 100000 in
set_option maxHeartbeats 4000000 in
theorem mX3_byTakings {l : Launch} {D : va_G} {cA : Nat → ClassId} {ad : Nat → Nat} {r1 : Nat} {r2 : Nat} {a3 : Int32} (hr1 : gK 0 r1 = 8) (hr2 : gK 0 r2 = 5) {r : Int32} {st st' : gS} (hf : fX3_byTakings r1 r2 a3 st = some (r, st')) : gM l yX3_byTakings cX3_byTakings 8 (some .int) 3 0 D cA ad st [.ref (ad 167), .ref (ad r1), .ref (ad r2), .int a3] (some (.int r)) st' := by
  refine g_met (by decide) (Nat.le_of_ble_eq_true rfl) ?_
  intro p e s m args below meth c ls hC hret hlk hU hH hl
  exact bX3_byTakings_0 hC hret hlk hU hr1 hr2 hf hH va_S.rf hl
def fX10_makes (a1 : Int32)   (st : gS) : Option (Int32 × gS) :=
  if a1 < 0 then (some ((-1), st)) else (gc (gK 0 (st.2.2 0 9) = 8) (if a1 < (1 <<< ((st.1 (st.2.2 0 9) 13) &&& 31)) then (gc (gK 0 (st.2.2 0 9) = 8) ((fX3_byTakings (st.2.2 0 9) 20 a1 st).bind fun q0_1 => (some (q0_1.1, q0_1.2)))) else (some ((-1), st))))
set_option maxRecDepth 100000 in
set_option maxHeartbeats 4000000 in
theorem bX10_makes_0 {a1 : Int32} (hC : CallFix p m c cX10_makes 2 s args lw_good RX10) (hret : meth.sig.returnType = (some .int)) (hlk : meth.locks = false) (hU : gU 0 D cA ad s)  {r : Int32} {st' : gS}   {st : gS} {H : Heap} {locs : List Loc} {ls : Array Slot} (hf : fX10_makes a1 st = some (r, st')) (hH : gP0 0 D cA ad st H) (hS : va_S (gA 0 ad) s.heap H locs) (hl : lv_has ls 2 [(0, .ref (ad 0)), (1, .int a1)]) : W p l e (gRm 4) s m args below meth c H locs 0 0 (MQ below (gQc 0 D cA ad st' (some (.int r))) args s 0 0 (gA 0 ad)) (F0 m 0 ls []) := by
  obtain ⟨hx, hb, hml, hown, hts⟩ := id hC
  unfold fX10_makes at hf
  refine lv_iload_n (pc := 0) hx hb dX10_makes_0 rfl (lv_at hl 1 rfl) ?_
  refine lv_if_lt (tgt := 17) (pc := 1) hx hb dX10_makes_1 (by decide) (fun hc => ?_) (fun hc => ?_)
  · have hf := gif_p hc hf
    refine lv_iconst (v := (-1)) (pc := 17) hx hb dX10_makes_17 (by decide) ?_
    exact g_iret (pc := 18) hC hret hlk hH hS hf dX10_makes_18
  · have hf := gif_n hc hf
    refine lv_iload_n (pc := 4) hx hb dX10_makes_4 rfl (lv_at hl 1 rfl) ?_
    refine lv_iconst (v := 1) (pc := 5) hx hb dX10_makes_5 (by decide) ?_
    refine lv_aload_n (pc := 6) hx hb dX10_makes_6 rfl (lv_at hl 0 rfl) ?_
    refine g_get (pc := 7) (v := .ref (ad (st.2.2 0 9))) hC hU hH gk0_0 g_cl10 9 (by decide) kf_X10_71 rfl dX10_makes_7 ?_
    obtain ⟨h0_1, hf⟩ := gc_s hf
    refine g_get (pc := 10) (v := .int (st.1 (st.2.2 0 9) 13)) hC hU hH h0_1 g_cl8 13 (by decide) kf_X10_247 rfl dX10_makes_10 ?_
    refine lv_ishl (pc := 13) hx hb dX10_makes_13 ?_
    refine lv_icmp_lt (tgt := 19) (pc := 14) hx hb dX10_makes_14 (by decide) (fun hc => ?_) (fun hc => ?_)
    · have hf := gif_p hc hf
      refine lv_aload_n (pc := 19) hx hb dX10_makes_19 rfl (lv_at hl 0 rfl) ?_
      refine g_get (pc := 20) (v := .ref (ad 167)) hC hU hH gk0_0 g_cl10 7 (by decide) kf_X10_57 rfl dX10_makes_20 ?_
      refine lv_aload_n (pc := 23) hx hb dX10_makes_23 rfl (lv_at hl 0 rfl) ?_
      refine g_get (pc := 24) (v := .ref (ad (st.2.2 0 9))) hC hU hH gk0_0 g_cl10 9 (by decide) kf_X10_71 rfl dX10_makes_24 ?_
      refine lv_aload_n (pc := 27) hx hb dX10_makes_27 rfl (lv_at hl 0 rfl) ?_
      refine g_get (pc := 28) (v := .ref (ad 20)) hC hU hH gk0_0 g_cl10 2 (by decide) kf_X10_28 rfl dX10_makes_28 ?_
      refine lv_iload_n (pc := 31) hx hb dX10_makes_31 rfl (lv_at hl 1 rfl) ?_
      obtain ⟨h0_2, hf⟩ := gc_s hf
      obtain ⟨q0_1, hq0_1, hf⟩ := gbd hf
      refine g_callVi (pc := 32) (rest := []) hC hU hH hS hl.1 gk0_167 rfl (by decide) (mX3_byTakings h0_2 gk0_20 hq0_1) ky_X3_byTakings km_X10_250 ⟨Nat.le_of_ble_eq_true rfl, Nat.le_of_ble_eq_true rfl⟩ ⟨Nat.zero_le _, Nat.zero_le _⟩ rfl (Nat.le_of_ble_eq_true rfl) dX10_makes_32 rfl (fun H locs hH hS => ?_)
      exact g_iret (pc := 35) hC hret hlk hH hS hf dX10_makes_35
    · have hf := gif_n hc hf
      refine lv_iconst (v := (-1)) (pc := 17) hx hb dX10_makes_17 (by decide) ?_
      exact g_iret (pc := 18) hC hret hlk hH hS hf dX10_makes_18
set_option maxRecDepth 100000 in
set_option maxHeartbeats 4000000 in
theorem mX10_makes {l : Launch} {D : va_G} {cA : Nat → ClassId} {ad : Nat → Nat} {a1 : Int32}  {r : Int32} {st st' : gS} (hf : fX10_makes a1 st = some (r, st')) : gM l yX10_makes cX10_makes 2 (some .int) 4 0 D cA ad st [.ref (ad 0), .int a1] (some (.int r)) st' := by
  refine g_met (by decide) (Nat.le_of_ble_eq_true rfl) ?_
  intro p e s m args below meth c ls hC hret hlk hU hH hl
  exact bX10_makes_0 hC hret hlk hU hf hH va_S.rf hl
def fJ6_bitCount_0f7a4 (a0 : Int32)   (st : gS) : Option (Int32 × gS) :=
  gl (a0 - (((a0.toUInt32 >>> ((1 : Int32).toUInt32 &&& Int32.toUInt32 31)).toInt32) &&& 1431655765)) fun x9 => (gl ((x9 &&& 858993459) + (((x9.toUInt32 >>> ((2 : Int32).toUInt32 &&& Int32.toUInt32 31)).toInt32) &&& 858993459)) fun x23 => (gl ((x23 + ((x23.toUInt32 >>> ((4 : Int32).toUInt32 &&& Int32.toUInt32 31)).toInt32)) &&& 252645135) fun x33 => (gl (x33 + ((x33.toUInt32 >>> ((8 : Int32).toUInt32 &&& Int32.toUInt32 31)).toInt32)) fun x40 => (gl (x40 + ((x40.toUInt32 >>> ((16 : Int32).toUInt32 &&& Int32.toUInt32 31)).toInt32)) fun x47 => (some (x47 &&& 63, st))))))
set_option maxRecDepth 100000 in
set_option maxHeartbeats 4000000 in
theorem bJ6_bitCount_0f7a4_0 {a0 : Int32} (hC : CallFix p m c cJ6_bitCount_0f7a4 1 s args lw_good RJ6) (hret : meth.sig.returnType = (some .int)) (hlk : meth.locks = false) (hU : gU 0 D cA ad s)  {r : Int32} {st' : gS}   {st : gS} {H : Heap} {locs : List Loc} {ls : Array Slot} (hf : fJ6_bitCount_0f7a4 a0 st = some (r, st')) (hH : gP0 0 D cA ad st H) (hS : va_S (gA 0 ad) s.heap H locs) (hl : lv_has ls 1 [(0, .int a0)]) : W p l e (gRm 1) s m args below meth c H locs 0 0 (MQ below (gQc 0 D cA ad st' (some (.int r))) args s 0 0 (gA 0 ad)) (F0 m 0 ls []) := by
  obtain ⟨hx, hb, hml, hown, hts⟩ := id hC
  unfold fJ6_bitCount_0f7a4 at hf
  refine lv_iload_n (pc := 0) hx hb dJ6_bitCount_0f7a4_0 rfl (lv_at hl 0 rfl) ?_
  refine lv_iload_n (pc := 1) hx hb dJ6_bitCount_0f7a4_1 rfl (lv_at hl 0 rfl) ?_
  refine lv_iconst (v := 1) (pc := 2) hx hb dJ6_bitCount_0f7a4_2 (by decide) ?_
  refine lv_iushr (pc := 3) hx hb dJ6_bitCount_0f7a4_3 rfl ?_
  refine lv_ldcw (pc := 4) hx hb hown (hts _ kc_J6_265) dJ6_bitCount_0f7a4_4 ?_
  refine lv_iand (pc := 7) hx hb dJ6_bitCount_0f7a4_7 ?_
  refine lv_isub (pc := 8) hx hb dJ6_bitCount_0f7a4_8 ?_
  refine lv_topi (pc := 9) (fun x9 ex9 => ?_)
  have hf := gl_s ex9 hf
  refine lv_istore_n (lv' := [(0, .int x9)]) (pc := 9) hx hb dJ6_bitCount_0f7a4_9 rfl hl (by decide) rfl (fun ls hl => ?_)
  refine lv_iload_n (pc := 10) hx hb dJ6_bitCount_0f7a4_10 rfl (lv_at hl 0 rfl) ?_
  refine lv_ldcw (pc := 11) hx hb hown (hts _ kc_J6_266) dJ6_bitCount_0f7a4_11 ?_
  refine lv_iand (pc := 14) hx hb dJ6_bitCount_0f7a4_14 ?_
  refine lv_iload_n (pc := 15) hx hb dJ6_bitCount_0f7a4_15 rfl (lv_at hl 0 rfl) ?_
  refine lv_iconst (v := 2) (pc := 16) hx hb dJ6_bitCount_0f7a4_16 (by decide) ?_
  refine lv_iushr (pc := 17) hx hb dJ6_bitCount_0f7a4_17 rfl ?_
  refine lv_ldcw (pc := 18) hx hb hown (hts _ kc_J6_266) dJ6_bitCount_0f7a4_18 ?_
  refine lv_iand (pc := 21) hx hb dJ6_bitCount_0f7a4_21 ?_
  refine lv_iadd (pc := 22) hx hb dJ6_bitCount_0f7a4_22 ?_
  refine lv_topi (pc := 23) (fun x23 ex23 => ?_)
  have hf := gl_s ex23 hf
  refine lv_istore_n (lv' := [(0, .int x23)]) (pc := 23) hx hb dJ6_bitCount_0f7a4_23 rfl hl (by decide) rfl (fun ls hl => ?_)
  refine lv_iload_n (pc := 24) hx hb dJ6_bitCount_0f7a4_24 rfl (lv_at hl 0 rfl) ?_
  refine lv_iload_n (pc := 25) hx hb dJ6_bitCount_0f7a4_25 rfl (lv_at hl 0 rfl) ?_
  refine lv_iconst (v := 4) (pc := 26) hx hb dJ6_bitCount_0f7a4_26 (by decide) ?_
  refine lv_iushr (pc := 27) hx hb dJ6_bitCount_0f7a4_27 rfl ?_
  refine lv_iadd (pc := 28) hx hb dJ6_bitCount_0f7a4_28 ?_
  refine lv_ldcw (pc := 29) hx hb hown (hts _ kc_J6_267) dJ6_bitCount_0f7a4_29 ?_
  refine lv_iand (pc := 32) hx hb dJ6_bitCount_0f7a4_32 ?_
  refine lv_topi (pc := 33) (fun x33 ex33 => ?_)
  have hf := gl_s ex33 hf
  refine lv_istore_n (lv' := [(0, .int x33)]) (pc := 33) hx hb dJ6_bitCount_0f7a4_33 rfl hl (by decide) rfl (fun ls hl => ?_)
  refine lv_iload_n (pc := 34) hx hb dJ6_bitCount_0f7a4_34 rfl (lv_at hl 0 rfl) ?_
  refine lv_iload_n (pc := 35) hx hb dJ6_bitCount_0f7a4_35 rfl (lv_at hl 0 rfl) ?_
  refine lv_bipush (v := 8) (pc := 36) hx hb dJ6_bitCount_0f7a4_36 (by decide) ?_
  refine lv_iushr (pc := 38) hx hb dJ6_bitCount_0f7a4_38 rfl ?_
  refine lv_iadd (pc := 39) hx hb dJ6_bitCount_0f7a4_39 ?_
  refine lv_topi (pc := 40) (fun x40 ex40 => ?_)
  have hf := gl_s ex40 hf
  refine lv_istore_n (lv' := [(0, .int x40)]) (pc := 40) hx hb dJ6_bitCount_0f7a4_40 rfl hl (by decide) rfl (fun ls hl => ?_)
  refine lv_iload_n (pc := 41) hx hb dJ6_bitCount_0f7a4_41 rfl (lv_at hl 0 rfl) ?_
  refine lv_iload_n (pc := 42) hx hb dJ6_bitCount_0f7a4_42 rfl (lv_at hl 0 rfl) ?_
  refine lv_bipush (v := 16) (pc := 43) hx hb dJ6_bitCount_0f7a4_43 (by decide) ?_
  refine lv_iushr (pc := 45) hx hb dJ6_bitCount_0f7a4_45 rfl ?_
  refine lv_iadd (pc := 46) hx hb dJ6_bitCount_0f7a4_46 ?_
  refine lv_topi (pc := 47) (fun x47 ex47 => ?_)
  have hf := gl_s ex47 hf
  refine lv_istore_n (lv' := [(0, .int x47)]) (pc := 47) hx hb dJ6_bitCount_0f7a4_47 rfl hl (by decide) rfl (fun ls hl => ?_)
  refine lv_iload_n (pc := 48) hx hb dJ6_bitCount_0f7a4_48 rfl (lv_at hl 0 rfl) ?_
  refine lv_bipush (v := 63) (pc := 49) hx hb dJ6_bitCount_0f7a4_49 (by decide) ?_
  refine lv_iand (pc := 51) hx hb dJ6_bitCount_0f7a4_51 ?_
  exact g_iret (pc := 52) hC hret hlk hH hS hf dJ6_bitCount_0f7a4_52
set_option maxRecDepth 100000 in
set_option maxHeartbeats 4000000 in
theorem mJ6_bitCount_0f7a4 {l : Launch} {D : va_G} {cA : Nat → ClassId} {ad : Nat → Nat} {a0 : Int32}  {r : Int32} {st st' : gS} (hf : fJ6_bitCount_0f7a4 a0 st = some (r, st')) : gM l yJ6_bitCount_0f7a4 cJ6_bitCount_0f7a4 1 (some .int) 1 0 D cA ad st [.int a0] (some (.int r)) st' := by
  refine g_met (by decide) (Nat.le_of_ble_eq_true rfl) ?_
  intro p e s m args below meth c ls hC hret hlk hU hH hl
  exact bJ6_bitCount_0f7a4_0 hC hret hlk hU hf hH va_S.rf hl
def fX3_fewestHands_68 (r1 : Nat) (r2 : Nat) (a3 : Int32) (k6 : Int32 → Int32 → gS → Option (Int32 × gS)) (l4 : Int32) (l5 : Int32) (l6 : Int32) (s0 : Int32) (st : gS) : Option (Int32 × gS) :=
  if l6 = 0 then (k6 l4 (l5 + 1) st) else (if s0 = 0 then (k6 l4 (l5 + 1) st) else ((fX3_byTakings r1 r2 l5 st).bind fun q68_1 => (if ((q68_1.1 >>> (a3 &&& 31)) &&& 1) = 0 then (k6 l4 (l5 + 1) q68_1.2) else (k6 l5 (l5 + 1) q68_1.2))))
set_option maxRecDepth 100000 in
set_option maxHeartbeats 4000000 in
theorem bX3_fewestHands_68 {r1 : Nat} {r2 : Nat} {a3 : Int32} (hC : CallFix p m c cX3_fewestHands 8 s args lw_good RX3) (hret : meth.sig.returnType = (some .int)) (hlk : meth.locks = false) (hU : gU 0 D cA ad s) (hr1 : gK 0 r1 = 8) (hr2 : gK 0 r2 = 5) {r : Int32} {st' : gS} {k6 : Int32 → Int32 → gS → Option (Int32 × gS)} (hk6 : ∀ {l4 : Int32} {l5 : Int32} {st : gS} {H : Heap} {locs : List Loc} {ls : Array Slot}, k6 l4 l5 st = some (r, st') → gP0 0 D cA ad st H → va_S (gA 0 ad) s.heap H locs → lv_has ls 8 [(0, .ref (ad 167)), (1, .ref (ad r1)), (2, .ref (ad r2)), (3, .int a3), (4, .int l4), (5, .int l5)] → W p l e (gRm 4) s m args below meth c H locs 0 0 (MQ below (gQc 0 D cA ad st' (some (.int r))) args s 0 0 (gA 0 ad)) (F0 m 6 ls [])) {l4 : Int32} {l5 : Int32} {l6 : Int32} {s0 : Int32} {st : gS} {H : Heap} {locs : List Loc} {ls : Array Slot} (hf : fX3_fewestHands_68 r1 r2 a3 k6 l4 l5 l6 s0 st = some (r, st')) (hH : gP0 0 D cA ad st H) (hS : va_S (gA 0 ad) s.heap H locs) (hl : lv_has ls 8 [(0, .ref (ad 167)), (1, .ref (ad r1)), (2, .ref (ad r2)), (3, .int a3), (4, .int l4), (5, .int l5), (6, .int l6)]) : W p l e (gRm 4) s m args below meth c H locs 0 0 (MQ below (gQc 0 D cA ad st' (some (.int r))) args s 0 0 (gA 0 ad)) (F0 m 68 ls [.int s0]) := by
  obtain ⟨hx, hb, hml, hown, hts⟩ := id hC
  unfold fX3_fewestHands_68 at hf
  refine lv_istore (lv' := [(7, .int s0), (0, .ref (ad 167)), (1, .ref (ad r1)), (2, .ref (ad r2)), (3, .int a3), (4, .int l4), (5, .int l5), (6, .int l6)]) (pc := 68) hx hb dX3_fewestHands_68 hl (by decide) rfl (fun ls hl => ?_)
  refine lv_iload (pc := 70) hx hb dX3_fewestHands_70 (lv_at hl 7 rfl) ?_
  refine lv_if_eq (tgt := 99) (pc := 72) hx hb dX3_fewestHands_72 (by decide) (fun hc => ?_) (fun hc => ?_)
  · have hf := gif_p hc hf
    refine lv_iinc (v := l5 + 1) (lv' := [(5, .int (l5 + 1)), (7, .int s0), (0, .ref (ad 167)), (1, .ref (ad r1)), (2, .ref (ad r2)), (3, .int a3), (4, .int l4), (6, .int l6)]) (k := 6) (pc := 99) hx hb dX3_fewestHands_99 hl rfl rfl (by decide) rfl (fun ls hl => ?_)
    refine lv_goto (tgt := 6) (pc := 102) hx hb dX3_fewestHands_102 (by decide) ?_
    exact hk6 hf hH hS (lv_sub hl [2, 3, 4, 5, 6, 0] rfl)
  · have hf := gif_n hc hf
    refine lv_iload (pc := 75) hx hb dX3_fewestHands_75 (lv_at hl 0 rfl) ?_
    refine lv_if_eq (tgt := 99) (pc := 77) hx hb dX3_fewestHands_77 (by decide) (fun hc => ?_) (fun hc => ?_)
    · have hf := gif_p hc hf
      refine lv_iinc (v := l5 + 1) (lv' := [(5, .int (l5 + 1)), (7, .int s0), (0, .ref (ad 167)), (1, .ref (ad r1)), (2, .ref (ad r2)), (3, .int a3), (4, .int l4), (6, .int l6)]) (k := 6) (pc := 99) hx hb dX3_fewestHands_99 hl rfl rfl (by decide) rfl (fun ls hl => ?_)
      refine lv_goto (tgt := 6) (pc := 102) hx hb dX3_fewestHands_102 (by decide) ?_
      exact hk6 hf hH hS (lv_sub hl [2, 3, 4, 5, 6, 0] rfl)
    · have hf := gif_n hc hf
      refine lv_aload_n (pc := 80) hx hb dX3_fewestHands_80 rfl (lv_at hl 1 rfl) ?_
      refine lv_aload_n (pc := 81) hx hb dX3_fewestHands_81 rfl (lv_at hl 2 rfl) ?_
      refine lv_aload_n (pc := 82) hx hb dX3_fewestHands_82 rfl (lv_at hl 3 rfl) ?_
      refine lv_iload (pc := 83) hx hb dX3_fewestHands_83 (lv_at hl 6 rfl) ?_
      obtain ⟨q68_1, hq68_1, hf⟩ := gbd hf
      refine g_callVi (pc := 85) (rest := []) hC hU hH hS hl.1 gk0_167 rfl (by decide) (mX3_byTakings hr1 hr2 hq68_1) ky_X3_byTakings km_X3_61 ⟨Nat.le_of_ble_eq_true rfl, Nat.le_of_ble_eq_true rfl⟩ ⟨Nat.zero_le _, Nat.zero_le _⟩ rfl (Nat.le_of_ble_eq_true rfl) dX3_fewestHands_85 rfl (fun H locs hH hS => ?_)
      refine lv_iload_n (pc := 88) hx hb dX3_fewestHands_88 rfl (lv_at hl 4 rfl) ?_
      refine lv_ishr (pc := 89) hx hb dX3_fewestHands_89 ?_
      refine lv_iconst (v := 1) (pc := 90) hx hb dX3_fewestHands_90 (by decide) ?_
      refine lv_iand (pc := 91) hx hb dX3_fewestHands_91 ?_
      refine lv_if_eq (tgt := 99) (pc := 92) hx hb dX3_fewestHands_92 (by decide) (fun hc => ?_) (fun hc => ?_)
      · have hf := gif_p hc hf
        refine lv_iinc (v := l5 + 1) (lv' := [(5, .int (l5 + 1)), (7, .int s0), (0, .ref (ad 167)), (1, .ref (ad r1)), (2, .ref (ad r2)), (3, .int a3), (4, .int l4), (6, .int l6)]) (k := 6) (pc := 99) hx hb dX3_fewestHands_99 hl rfl rfl (by decide) rfl (fun ls hl => ?_)
        refine lv_goto (tgt := 6) (pc := 102) hx hb dX3_fewestHands_102 (by decide) ?_
        exact hk6 hf hH hS (lv_sub hl [2, 3, 4, 5, 6, 0] rfl)
      · have hf := gif_n hc hf
        refine lv_iload (pc := 95) hx hb dX3_fewestHands_95 (lv_at hl 6 rfl) ?_
        refine lv_istore (lv' := [(4, .int l5), (7, .int s0), (0, .ref (ad 167)), (1, .ref (ad r1)), (2, .ref (ad r2)), (3, .int a3), (5, .int l5), (6, .int l6)]) (pc := 97) hx hb dX3_fewestHands_97 hl (by decide) rfl (fun ls hl => ?_)
        refine lv_iinc (v := l5 + 1) (lv' := [(5, .int (l5 + 1)), (4, .int l5), (7, .int s0), (0, .ref (ad 167)), (1, .ref (ad r1)), (2, .ref (ad r2)), (3, .int a3), (6, .int l6)]) (k := 6) (pc := 99) hx hb dX3_fewestHands_99 hl rfl rfl (by decide) rfl (fun ls hl => ?_)
        refine lv_goto (tgt := 6) (pc := 102) hx hb dX3_fewestHands_102 (by decide) ?_
        exact hk6 hf hH hS (lv_sub hl [3, 4, 5, 6, 1, 0] rfl)
def fX3_fewestHands_63 (r1 : Nat) (r2 : Nat) (a3 : Int32) (k6 : Int32 → Int32 → gS → Option (Int32 × gS)) (l4 : Int32) (l5 : Int32) (l6 : Int32) (st : gS) : Option (Int32 × gS) :=
  fX3_fewestHands_68 r1 r2 a3 k6 l4 l5 l6 1 st
set_option maxRecDepth 100000 in
set_option maxHeartbeats 4000000 in
theorem bX3_fewestHands_63 {r1 : Nat} {r2 : Nat} {a3 : Int32} (hC : CallFix p m c cX3_fewestHands 8 s args lw_good RX3) (hret : meth.sig.returnType = (some .int)) (hlk : meth.locks = false) (hU : gU 0 D cA ad s) (hr1 : gK 0 r1 = 8) (hr2 : gK 0 r2 = 5) {r : Int32} {st' : gS} {k6 : Int32 → Int32 → gS → Option (Int32 × gS)} (hk6 : ∀ {l4 : Int32} {l5 : Int32} {st : gS} {H : Heap} {locs : List Loc} {ls : Array Slot}, k6 l4 l5 st = some (r, st') → gP0 0 D cA ad st H → va_S (gA 0 ad) s.heap H locs → lv_has ls 8 [(0, .ref (ad 167)), (1, .ref (ad r1)), (2, .ref (ad r2)), (3, .int a3), (4, .int l4), (5, .int l5)] → W p l e (gRm 4) s m args below meth c H locs 0 0 (MQ below (gQc 0 D cA ad st' (some (.int r))) args s 0 0 (gA 0 ad)) (F0 m 6 ls [])) {l4 : Int32} {l5 : Int32} {l6 : Int32} {st : gS} {H : Heap} {locs : List Loc} {ls : Array Slot} (hf : fX3_fewestHands_63 r1 r2 a3 k6 l4 l5 l6 st = some (r, st')) (hH : gP0 0 D cA ad st H) (hS : va_S (gA 0 ad) s.heap H locs) (hl : lv_has ls 8 [(0, .ref (ad 167)), (1, .ref (ad r1)), (2, .ref (ad r2)), (3, .int a3), (4, .int l4), (5, .int l5), (6, .int l6)]) : W p l e (gRm 4) s m args below meth c H locs 0 0 (MQ below (gQc 0 D cA ad st' (some (.int r))) args s 0 0 (gA 0 ad)) (F0 m 63 ls []) := by
  obtain ⟨hx, hb, hml, hown, hts⟩ := id hC
  unfold fX3_fewestHands_63 at hf
  refine lv_iconst (v := 1) (pc := 63) hx hb dX3_fewestHands_63 (by decide) ?_
  refine lv_goto (tgt := 68) (pc := 64) hx hb dX3_fewestHands_64 (by decide) ?_
  exact bX3_fewestHands_68 hC hret hlk hU hr1 hr2 hk6 hf hH hS (lv_sub hl [0, 1, 2, 3, 4, 5, 6] rfl)
def fX3_fewestHands_41 (r1 : Nat) (r2 : Nat) (a3 : Int32) (k6 : Int32 → Int32 → gS → Option (Int32 × gS)) (l4 : Int32) (l5 : Int32) (s0 : Int32) (st : gS) : Option (Int32 × gS) :=
  if (st.1 r2 3) = (-1) then (fX3_fewestHands_63 r1 r2 a3 k6 l4 l5 s0 st) else (if ((l5 >>> ((st.1 r2 3) &&& 31)) &&& 1) = 0 then (fX3_fewestHands_63 r1 r2 a3 k6 l4 l5 s0 st) else (fX3_fewestHands_68 r1 r2 a3 k6 l4 l5 s0 0 st))
set_option maxRecDepth 100000 in
set_option maxHeartbeats 4000000 in
theorem bX3_fewestHands_41 {r1 : Nat} {r2 : Nat} {a3 : Int32} (hC : CallFix p m c cX3_fewestHands 8 s args lw_good RX3) (hret : meth.sig.returnType = (some .int)) (hlk : meth.locks = false) (hU : gU 0 D cA ad s) (hr1 : gK 0 r1 = 8) (hr2 : gK 0 r2 = 5) {r : Int32} {st' : gS} {k6 : Int32 → Int32 → gS → Option (Int32 × gS)} (hk6 : ∀ {l4 : Int32} {l5 : Int32} {st : gS} {H : Heap} {locs : List Loc} {ls : Array Slot}, k6 l4 l5 st = some (r, st') → gP0 0 D cA ad st H → va_S (gA 0 ad) s.heap H locs → lv_has ls 8 [(0, .ref (ad 167)), (1, .ref (ad r1)), (2, .ref (ad r2)), (3, .int a3), (4, .int l4), (5, .int l5)] → W p l e (gRm 4) s m args below meth c H locs 0 0 (MQ below (gQc 0 D cA ad st' (some (.int r))) args s 0 0 (gA 0 ad)) (F0 m 6 ls [])) {l4 : Int32} {l5 : Int32} {s0 : Int32} {st : gS} {H : Heap} {locs : List Loc} {ls : Array Slot} (hf : fX3_fewestHands_41 r1 r2 a3 k6 l4 l5 s0 st = some (r, st')) (hH : gP0 0 D cA ad st H) (hS : va_S (gA 0 ad) s.heap H locs) (hl : lv_has ls 8 [(0, .ref (ad 167)), (1, .ref (ad r1)), (2, .ref (ad r2)), (3, .int a3), (4, .int l4), (5, .int l5)]) : W p l e (gRm 4) s m args below meth c H locs 0 0 (MQ below (gQc 0 D cA ad st' (some (.int r))) args s 0 0 (gA 0 ad)) (F0 m 41 ls [.int s0]) := by
  obtain ⟨hx, hb, hml, hown, hts⟩ := id hC
  unfold fX3_fewestHands_41 at hf
  refine lv_istore (lv' := [(6, .int s0), (0, .ref (ad 167)), (1, .ref (ad r1)), (2, .ref (ad r2)), (3, .int a3), (4, .int l4), (5, .int l5)]) (pc := 41) hx hb dX3_fewestHands_41 hl (by decide) rfl (fun ls hl => ?_)
  refine lv_aload_n (pc := 43) hx hb dX3_fewestHands_43 rfl (lv_at hl 3 rfl) ?_
  refine g_get (pc := 44) (v := .int (st.1 r2 3)) hC hU hH hr2 g_cl5 3 (by decide) kf_X3_15 rfl dX3_fewestHands_44 ?_
  refine lv_iconst (v := (-1)) (pc := 47) hx hb dX3_fewestHands_47 (by decide) ?_
  refine lv_icmp_eq (tgt := 63) (pc := 48) hx hb dX3_fewestHands_48 (by decide) (fun hc => ?_) (fun hc => ?_)
  · have hf := gif_p hc hf
    exact bX3_fewestHands_63 hC hret hlk hU hr1 hr2 hk6 hf hH hS (lv_sub hl [1, 2, 3, 4, 5, 6, 0] rfl)
  · have hf := gif_n hc hf
    refine lv_iload (pc := 51) hx hb dX3_fewestHands_51 (lv_at hl 6 rfl) ?_
    refine lv_aload_n (pc := 53) hx hb dX3_fewestHands_53 rfl (lv_at hl 3 rfl) ?_
    refine g_get (pc := 54) (v := .int (st.1 r2 3)) hC hU hH hr2 g_cl5 3 (by decide) kf_X3_15 rfl dX3_fewestHands_54 ?_
    refine lv_ishr (pc := 57) hx hb dX3_fewestHands_57 ?_
    refine lv_iconst (v := 1) (pc := 58) hx hb dX3_fewestHands_58 (by decide) ?_
    refine lv_iand (pc := 59) hx hb dX3_fewestHands_59 ?_
    refine lv_if_ne (tgt := 67) (pc := 60) hx hb dX3_fewestHands_60 (by decide) (fun hc => ?_) (fun hc => ?_)
    · have hf := gif_n hc hf
      refine lv_iconst (v := 0) (pc := 67) hx hb dX3_fewestHands_67 (by decide) ?_
      exact bX3_fewestHands_68 hC hret hlk hU hr1 hr2 hk6 hf hH hS (lv_sub hl [1, 2, 3, 4, 5, 6, 0] rfl)
    · have hf := gif_p hc hf
      exact bX3_fewestHands_63 hC hret hlk hU hr1 hr2 hk6 hf hH hS (lv_sub hl [1, 2, 3, 4, 5, 6, 0] rfl)
def fX3_fewestHands_36 (r1 : Nat) (r2 : Nat) (a3 : Int32) (k6 : Int32 → Int32 → gS → Option (Int32 × gS)) (l4 : Int32) (l5 : Int32) (st : gS) : Option (Int32 × gS) :=
  fX3_fewestHands_41 r1 r2 a3 k6 l4 l5 1 st
set_option maxRecDepth 100000 in
set_option maxHeartbeats 4000000 in
theorem bX3_fewestHands_36 {r1 : Nat} {r2 : Nat} {a3 : Int32} (hC : CallFix p m c cX3_fewestHands 8 s args lw_good RX3) (hret : meth.sig.returnType = (some .int)) (hlk : meth.locks = false) (hU : gU 0 D cA ad s) (hr1 : gK 0 r1 = 8) (hr2 : gK 0 r2 = 5) {r : Int32} {st' : gS} {k6 : Int32 → Int32 → gS → Option (Int32 × gS)} (hk6 : ∀ {l4 : Int32} {l5 : Int32} {st : gS} {H : Heap} {locs : List Loc} {ls : Array Slot}, k6 l4 l5 st = some (r, st') → gP0 0 D cA ad st H → va_S (gA 0 ad) s.heap H locs → lv_has ls 8 [(0, .ref (ad 167)), (1, .ref (ad r1)), (2, .ref (ad r2)), (3, .int a3), (4, .int l4), (5, .int l5)] → W p l e (gRm 4) s m args below meth c H locs 0 0 (MQ below (gQc 0 D cA ad st' (some (.int r))) args s 0 0 (gA 0 ad)) (F0 m 6 ls [])) {l4 : Int32} {l5 : Int32} {st : gS} {H : Heap} {locs : List Loc} {ls : Array Slot} (hf : fX3_fewestHands_36 r1 r2 a3 k6 l4 l5 st = some (r, st')) (hH : gP0 0 D cA ad st H) (hS : va_S (gA 0 ad) s.heap H locs) (hl : lv_has ls 8 [(0, .ref (ad 167)), (1, .ref (ad r1)), (2, .ref (ad r2)), (3, .int a3), (4, .int l4), (5, .int l5)]) : W p l e (gRm 4) s m args below meth c H locs 0 0 (MQ below (gQc 0 D cA ad st' (some (.int r))) args s 0 0 (gA 0 ad)) (F0 m 36 ls []) := by
  obtain ⟨hx, hb, hml, hown, hts⟩ := id hC
  unfold fX3_fewestHands_36 at hf
  refine lv_iconst (v := 1) (pc := 36) hx hb dX3_fewestHands_36 (by decide) ?_
  refine lv_goto (tgt := 41) (pc := 37) hx hb dX3_fewestHands_37 (by decide) ?_
  exact bX3_fewestHands_41 hC hret hlk hU hr1 hr2 hk6 hf hH hS (lv_sub hl [0, 1, 2, 3, 4, 5] rfl)
def fX3_fewestHands_6 (r1 : Nat) (r2 : Nat) (a3 : Int32) (k6 : Int32 → Int32 → gS → Option (Int32 × gS)) (l4 : Int32) (l5 : Int32) (st : gS) : Option (Int32 × gS) :=
  if (1 <<< ((st.1 r1 13) &&& 31)) ≤ l5 then (some (l4, st)) else (if l4 = (-1) then (fX3_fewestHands_36 r1 r2 a3 k6 l4 l5 st) else ((fJ6_bitCount_0f7a4 l5 st).bind fun q6_1 => ((fJ6_bitCount_0f7a4 l4 q6_1.2).bind fun q6_2 => (if q6_2.1 ≤ q6_1.1 then (fX3_fewestHands_41 r1 r2 a3 k6 l4 l5 0 q6_2.2) else (fX3_fewestHands_36 r1 r2 a3 k6 l4 l5 q6_2.2)))))
set_option maxRecDepth 100000 in
set_option maxHeartbeats 4000000 in
theorem bX3_fewestHands_6 {r1 : Nat} {r2 : Nat} {a3 : Int32} (hC : CallFix p m c cX3_fewestHands 8 s args lw_good RX3) (hret : meth.sig.returnType = (some .int)) (hlk : meth.locks = false) (hU : gU 0 D cA ad s) (hr1 : gK 0 r1 = 8) (hr2 : gK 0 r2 = 5) {r : Int32} {st' : gS} {k6 : Int32 → Int32 → gS → Option (Int32 × gS)} (hk6 : ∀ {l4 : Int32} {l5 : Int32} {st : gS} {H : Heap} {locs : List Loc} {ls : Array Slot}, k6 l4 l5 st = some (r, st') → gP0 0 D cA ad st H → va_S (gA 0 ad) s.heap H locs → lv_has ls 8 [(0, .ref (ad 167)), (1, .ref (ad r1)), (2, .ref (ad r2)), (3, .int a3), (4, .int l4), (5, .int l5)] → W p l e (gRm 4) s m args below meth c H locs 0 0 (MQ below (gQc 0 D cA ad st' (some (.int r))) args s 0 0 (gA 0 ad)) (F0 m 6 ls [])) {l4 : Int32} {l5 : Int32} {st : gS} {H : Heap} {locs : List Loc} {ls : Array Slot} (hf : fX3_fewestHands_6 r1 r2 a3 k6 l4 l5 st = some (r, st')) (hH : gP0 0 D cA ad st H) (hS : va_S (gA 0 ad) s.heap H locs) (hl : lv_has ls 8 [(0, .ref (ad 167)), (1, .ref (ad r1)), (2, .ref (ad r2)), (3, .int a3), (4, .int l4), (5, .int l5)]) : W p l e (gRm 4) s m args below meth c H locs 0 0 (MQ below (gQc 0 D cA ad st' (some (.int r))) args s 0 0 (gA 0 ad)) (F0 m 6 ls []) := by
  obtain ⟨hx, hb, hml, hown, hts⟩ := id hC
  unfold fX3_fewestHands_6 at hf
  refine lv_iload (pc := 6) hx hb dX3_fewestHands_6 (lv_at hl 5 rfl) ?_
  refine lv_iconst (v := 1) (pc := 8) hx hb dX3_fewestHands_8 (by decide) ?_
  refine lv_aload_n (pc := 9) hx hb dX3_fewestHands_9 rfl (lv_at hl 1 rfl) ?_
  refine g_get (pc := 10) (v := .int (st.1 r1 13)) hC hU hH hr1 g_cl8 13 (by decide) kf_X3_37 rfl dX3_fewestHands_10 ?_
  refine lv_ishl (pc := 13) hx hb dX3_fewestHands_13 ?_
  refine lv_icmp_ge (tgt := 105) (pc := 14) hx hb dX3_fewestHands_14 (by decide) (fun hc => ?_) (fun hc => ?_)
  · have hf := gif_p hc hf
    refine lv_iload (pc := 105) hx hb dX3_fewestHands_105 (lv_at hl 4 rfl) ?_
    exact g_iret (pc := 107) hC hret hlk hH hS hf dX3_fewestHands_107
  · have hf := gif_n hc hf
    refine lv_iload (pc := 17) hx hb dX3_fewestHands_17 (lv_at hl 4 rfl) ?_
    refine lv_iconst (v := (-1)) (pc := 19) hx hb dX3_fewestHands_19 (by decide) ?_
    refine lv_icmp_eq (tgt := 36) (pc := 20) hx hb dX3_fewestHands_20 (by decide) (fun hc => ?_) (fun hc => ?_)
    · have hf := gif_p hc hf
      exact bX3_fewestHands_36 hC hret hlk hU hr1 hr2 hk6 hf hH hS (lv_sub hl [0, 1, 2, 3, 4, 5] rfl)
    · have hf := gif_n hc hf
      refine lv_iload (pc := 23) hx hb dX3_fewestHands_23 (lv_at hl 5 rfl) ?_
      obtain ⟨q6_1, hq6_1, hf⟩ := gbd hf
      refine g_callSi (pc := 25) (rest := []) hC hU hH hS hl.1 (mJ6_bitCount_0f7a4  hq6_1) ky_J6_bitCount_0f7a4 km_X3_55 ⟨Nat.le_of_ble_eq_true rfl, Nat.le_of_ble_eq_true rfl⟩ ⟨Nat.zero_le _, Nat.zero_le _⟩ rfl (Nat.le_of_ble_eq_true rfl) dX3_fewestHands_25 rfl (fun H locs hH hS => ?_)
      refine lv_iload (pc := 28) hx hb dX3_fewestHands_28 (lv_at hl 4 rfl) ?_
      obtain ⟨q6_2, hq6_2, hf⟩ := gbd hf
      refine g_callSi (pc := 30) (rest := [.int q6_1.1]) hC hU hH hS hl.1 (mJ6_bitCount_0f7a4  hq6_2) ky_J6_bitCount_0f7a4 km_X3_55 ⟨Nat.le_of_ble_eq_true rfl, Nat.le_of_ble_eq_true rfl⟩ ⟨Nat.zero_le _, Nat.zero_le _⟩ rfl (Nat.le_of_ble_eq_true rfl) dX3_fewestHands_30 rfl (fun H locs hH hS => ?_)
      refine lv_icmp_ge (tgt := 40) (pc := 33) hx hb dX3_fewestHands_33 (by decide) (fun hc => ?_) (fun hc => ?_)
      · have hf := gif_p hc hf
        refine lv_iconst (v := 0) (pc := 40) hx hb dX3_fewestHands_40 (by decide) ?_
        exact bX3_fewestHands_41 hC hret hlk hU hr1 hr2 hk6 hf hH hS (lv_sub hl [0, 1, 2, 3, 4, 5] rfl)
      · have hf := gif_n hc hf
        exact bX3_fewestHands_36 hC hret hlk hU hr1 hr2 hk6 hf hH hS (lv_sub hl [0, 1, 2, 3, 4, 5] rfl)
def hX3_fewestHands_6 (r1 : Nat) (r2 : Nat) (a3 : Int32)  : Nat → Int32 → Int32 → gS → Option (Int32 × gS)
  | 0 => fun _ _ _ => none
  | n + 1 => fun l4 l5 st => fX3_fewestHands_6 r1 r2 a3 (hX3_fewestHands_6 r1 r2 a3 n) l4 l5 st
set_option maxRecDepth 100000 in
set_option maxHeartbeats 4000000 in
theorem wX3_fewestHands_6 {r1 : Nat} {r2 : Nat} {a3 : Int32} (hC : CallFix p m c cX3_fewestHands 8 s args lw_good RX3) (hret : meth.sig.returnType = (some .int)) (hlk : meth.locks = false) (hU : gU 0 D cA ad s) (hr1 : gK 0 r1 = 8) (hr2 : gK 0 r2 = 5) {r : Int32} {st' : gS}  : ∀ (n : Nat) {l4 : Int32} {l5 : Int32} {st : gS} {H : Heap} {locs : List Loc} {ls : Array Slot}, hX3_fewestHands_6 r1 r2 a3 n l4 l5 st = some (r, st') → gP0 0 D cA ad st H → va_S (gA 0 ad) s.heap H locs → lv_has ls 8 [(0, .ref (ad 167)), (1, .ref (ad r1)), (2, .ref (ad r2)), (3, .int a3), (4, .int l4), (5, .int l5)] → W p l e (gRm 4) s m args below meth c H locs 0 0 (MQ below (gQc 0 D cA ad st' (some (.int r))) args s 0 0 (gA 0 ad)) (F0 m 6 ls []) := by
  intro n
  induction n with
  | zero => intro l4 l5 st H locs ls hf hH hS hl; cases hf
  | succ n ih =>
    intro l4 l5 st H locs ls hf hH hS hl
    exact bX3_fewestHands_6 (r1 := r1) (r2 := r2) (a3 := a3) hC hret hlk hU hr1 hr2 (fun hf hH hS hl => ih hf hH hS hl) hf hH hS hl
def fX3_fewestHands (r1 : Nat) (r2 : Nat) (a3 : Int32)   (st : gS) : Option (Int32 × gS) :=
  hX3_fewestHands_6 r1 r2 a3 FU (-1) 0 st
set_option maxRecDepth 100000 in
set_option maxHeartbeats 4000000 in
theorem bX3_fewestHands_0 {r1 : Nat} {r2 : Nat} {a3 : Int32} (hC : CallFix p m c cX3_fewestHands 8 s args lw_good RX3) (hret : meth.sig.returnType = (some .int)) (hlk : meth.locks = false) (hU : gU 0 D cA ad s) (hr1 : gK 0 r1 = 8) (hr2 : gK 0 r2 = 5) {r : Int32} {st' : gS}   {st : gS} {H : Heap} {locs : List Loc} {ls : Array Slot} (hf : fX3_fewestHands r1 r2 a3 st = some (r, st')) (hH : gP0 0 D cA ad st H) (hS : va_S (gA 0 ad) s.heap H locs) (hl : lv_has ls 8 [(0, .ref (ad 167)), (1, .ref (ad r1)), (2, .ref (ad r2)), (3, .int a3)]) : W p l e (gRm 4) s m args below meth c H locs 0 0 (MQ below (gQc 0 D cA ad st' (some (.int r))) args s 0 0 (gA 0 ad)) (F0 m 0 ls []) := by
  obtain ⟨hx, hb, hml, hown, hts⟩ := id hC
  unfold fX3_fewestHands at hf
  refine lv_iconst (v := (-1)) (pc := 0) hx hb dX3_fewestHands_0 (by decide) ?_
  refine lv_istore (lv' := [(4, .int (-1)), (0, .ref (ad 167)), (1, .ref (ad r1)), (2, .ref (ad r2)), (3, .int a3)]) (pc := 1) hx hb dX3_fewestHands_1 hl (by decide) rfl (fun ls hl => ?_)
  refine lv_iconst (v := 0) (pc := 3) hx hb dX3_fewestHands_3 (by decide) ?_
  refine lv_istore (lv' := [(5, .int 0), (4, .int (-1)), (0, .ref (ad 167)), (1, .ref (ad r1)), (2, .ref (ad r2)), (3, .int a3)]) (pc := 4) hx hb dX3_fewestHands_4 hl (by decide) rfl (fun ls hl => ?_)
  exact wX3_fewestHands_6 hC hret hlk hU hr1 hr2 FU hf hH hS (lv_sub hl [2, 3, 4, 5, 1, 0] rfl)
set_option maxRecDepth 100000 in
set_option maxHeartbeats 4000000 in
theorem mX3_fewestHands {l : Launch} {D : va_G} {cA : Nat → ClassId} {ad : Nat → Nat} {r1 : Nat} {r2 : Nat} {a3 : Int32} (hr1 : gK 0 r1 = 8) (hr2 : gK 0 r2 = 5) {r : Int32} {st st' : gS} (hf : fX3_fewestHands r1 r2 a3 st = some (r, st')) : gM l yX3_fewestHands cX3_fewestHands 8 (some .int) 4 0 D cA ad st [.ref (ad 167), .ref (ad r1), .ref (ad r2), .int a3] (some (.int r)) st' := by
  refine g_met (by decide) (Nat.le_of_ble_eq_true rfl) ?_
  intro p e s m args below meth c ls hC hret hlk hU hH hl
  exact bX3_fewestHands_0 hC hret hlk hU hr1 hr2 hf hH va_S.rf hl
def fX10_hands (a1 : Int32) (a2 : Int32)   (st : gS) : Option (Int32 × gS) :=
  gc (gK 0 (st.2.2 0 9) = 8) ((fX8_hasFigure (st.2.2 0 9) a1 st).bind fun q0_1 => (if q0_1.1 = 0 then (some ((-1), q0_1.2)) else (if a2 < 0 then (some ((-1), q0_1.2)) else (if a2 ≤ 1 then (gc (gK 0 (q0_1.2.2.2 0 9) = 8) ((fX3_fewestHands (q0_1.2.2.2 0 9) 20 a1 q0_1.2).bind fun q0_2 => (if q0_2.1 = (-1) then (some ((-1), q0_2.2)) else (if a2 = 0 then ((fJ6_bitCount_0f7a4 q0_2.1 q0_2.2).bind fun q0_3 => (some (q0_3.1, q0_3.2))) else (some (q0_2.1, q0_2.2)))))) else (some ((-1), q0_1.2))))))
set_option maxRecDepth 100000 in
set_option maxHeartbeats 4000000 in
theorem bX10_hands_0 {a1 : Int32} {a2 : Int32} (hC : CallFix p m c cX10_hands 4 s args lw_good RX10) (hret : meth.sig.returnType = (some .int)) (hlk : meth.locks = false) (hU : gU 0 D cA ad s)  {r : Int32} {st' : gS}   {st : gS} {H : Heap} {locs : List Loc} {ls : Array Slot} (hf : fX10_hands a1 a2 st = some (r, st')) (hH : gP0 0 D cA ad st H) (hS : va_S (gA 0 ad) s.heap H locs) (hl : lv_has ls 4 [(0, .ref (ad 0)), (1, .int a1), (2, .int a2)]) : W p l e (gRm 5) s m args below meth c H locs 0 0 (MQ below (gQc 0 D cA ad st' (some (.int r))) args s 0 0 (gA 0 ad)) (F0 m 0 ls []) := by
  obtain ⟨hx, hb, hml, hown, hts⟩ := id hC
  unfold fX10_hands at hf
  refine lv_aload_n (pc := 0) hx hb dX10_hands_0 rfl (lv_at hl 0 rfl) ?_
  refine g_get (pc := 1) (v := .ref (ad (st.2.2 0 9))) hC hU hH gk0_0 g_cl10 9 (by decide) kf_X10_71 rfl dX10_hands_1 ?_
  refine lv_iload_n (pc := 4) hx hb dX10_hands_4 rfl (lv_at hl 1 rfl) ?_
  obtain ⟨h0_1, hf⟩ := gc_s hf
  obtain ⟨q0_1, hq0_1, hf⟩ := gbd hf
  refine g_callVi (pc := 5) (rest := []) hC hU hH hS hl.1 h0_1 rfl (by decide) (mX8_hasFigure h0_1 hq0_1) ky_X8_hasFigure km_X10_183 ⟨Nat.le_of_ble_eq_true rfl, Nat.le_of_ble_eq_true rfl⟩ ⟨Nat.zero_le _, Nat.zero_le _⟩ rfl (Nat.le_of_ble_eq_true rfl) dX10_hands_5 rfl (fun H locs hH hS => ?_)
  refine lv_if_eq (tgt := 20) (pc := 8) hx hb dX10_hands_8 (by decide) (fun hc => ?_) (fun hc => ?_)
  · have hf := gif_p hc hf
    refine lv_iconst (v := (-1)) (pc := 20) hx hb dX10_hands_20 (by decide) ?_
    exact g_iret (pc := 21) hC hret hlk hH hS hf dX10_hands_21
  · have hf := gif_n hc hf
    refine lv_iload_n (pc := 11) hx hb dX10_hands_11 rfl (lv_at hl 2 rfl) ?_
    refine lv_if_lt (tgt := 20) (pc := 12) hx hb dX10_hands_12 (by decide) (fun hc => ?_) (fun hc => ?_)
    · have hf := gif_p hc hf
      refine lv_iconst (v := (-1)) (pc := 20) hx hb dX10_hands_20 (by decide) ?_
      exact g_iret (pc := 21) hC hret hlk hH hS hf dX10_hands_21
    · have hf := gif_n hc hf
      refine lv_iload_n (pc := 15) hx hb dX10_hands_15 rfl (lv_at hl 2 rfl) ?_
      refine lv_iconst (v := 1) (pc := 16) hx hb dX10_hands_16 (by decide) ?_
      refine lv_icmp_le (tgt := 22) (pc := 17) hx hb dX10_hands_17 (by decide) (fun hc => ?_) (fun hc => ?_)
      · have hf := gif_p hc hf
        refine lv_aload_n (pc := 22) hx hb dX10_hands_22 rfl (lv_at hl 0 rfl) ?_
        refine g_get (pc := 23) (v := .ref (ad 167)) hC hU hH gk0_0 g_cl10 7 (by decide) kf_X10_57 rfl dX10_hands_23 ?_
        refine lv_aload_n (pc := 26) hx hb dX10_hands_26 rfl (lv_at hl 0 rfl) ?_
        refine g_get (pc := 27) (v := .ref (ad (q0_1.2.2.2 0 9))) hC hU hH gk0_0 g_cl10 9 (by decide) kf_X10_71 rfl dX10_hands_27 ?_
        refine lv_aload_n (pc := 30) hx hb dX10_hands_30 rfl (lv_at hl 0 rfl) ?_
        refine g_get (pc := 31) (v := .ref (ad 20)) hC hU hH gk0_0 g_cl10 2 (by decide) kf_X10_28 rfl dX10_hands_31 ?_
        refine lv_iload_n (pc := 34) hx hb dX10_hands_34 rfl (lv_at hl 1 rfl) ?_
        obtain ⟨h0_2, hf⟩ := gc_s hf
        obtain ⟨q0_2, hq0_2, hf⟩ := gbd hf
        refine g_callVi (pc := 35) (rest := []) hC hU hH hS hl.1 gk0_167 rfl (by decide) (mX3_fewestHands h0_2 gk0_20 hq0_2) ky_X3_fewestHands km_X10_254 ⟨Nat.le_of_ble_eq_true rfl, Nat.le_of_ble_eq_true rfl⟩ ⟨Nat.zero_le _, Nat.zero_le _⟩ rfl (Nat.le_of_ble_eq_true rfl) dX10_hands_35 rfl (fun H locs hH hS => ?_)
        refine lv_istore_n (lv' := [(3, .int q0_2.1), (0, .ref (ad 0)), (1, .int a1), (2, .int a2)]) (pc := 38) hx hb dX10_hands_38 rfl hl (by decide) rfl (fun ls hl => ?_)
        refine lv_iload_n (pc := 39) hx hb dX10_hands_39 rfl (lv_at hl 0 rfl) ?_
        refine lv_iconst (v := (-1)) (pc := 40) hx hb dX10_hands_40 (by decide) ?_
        refine lv_icmp_ne (tgt := 46) (pc := 41) hx hb dX10_hands_41 (by decide) (fun hc => ?_) (fun hc => ?_)
        · have hf := gif_n hc hf
          refine lv_iload_n (pc := 46) hx hb dX10_hands_46 rfl (lv_at hl 3 rfl) ?_
          refine lv_if_ne (tgt := 57) (pc := 47) hx hb dX10_hands_47 (by decide) (fun hc => ?_) (fun hc => ?_)
          · have hf := gif_n hc hf
            refine lv_iload_n (pc := 57) hx hb dX10_hands_57 rfl (lv_at hl 0 rfl) ?_
            exact g_iret (pc := 58) hC hret hlk hH hS hf dX10_hands_58
          · have hf := gif_p hc hf
            refine lv_iload_n (pc := 50) hx hb dX10_hands_50 rfl (lv_at hl 0 rfl) ?_
            obtain ⟨q0_3, hq0_3, hf⟩ := gbd hf
            refine g_callSi (pc := 51) (rest := []) hC hU hH hS hl.1 (mJ6_bitCount_0f7a4  hq0_3) ky_J6_bitCount_0f7a4 km_X10_257 ⟨Nat.le_of_ble_eq_true rfl, Nat.le_of_ble_eq_true rfl⟩ ⟨Nat.zero_le _, Nat.zero_le _⟩ rfl (Nat.le_of_ble_eq_true rfl) dX10_hands_51 rfl (fun H locs hH hS => ?_)
            refine lv_goto (tgt := 58) (pc := 54) hx hb dX10_hands_54 (by decide) ?_
            exact g_iret (pc := 58) hC hret hlk hH hS hf dX10_hands_58
        · have hf := gif_p hc hf
          refine lv_iconst (v := (-1)) (pc := 44) hx hb dX10_hands_44 (by decide) ?_
          exact g_iret (pc := 45) hC hret hlk hH hS hf dX10_hands_45
      · have hf := gif_n hc hf
        refine lv_iconst (v := (-1)) (pc := 20) hx hb dX10_hands_20 (by decide) ?_
        exact g_iret (pc := 21) hC hret hlk hH hS hf dX10_hands_21
set_option maxRecDepth 100000 in
set_option maxHeartbeats 4000000 in
theorem mX10_hands {l : Launch} {D : va_G} {cA : Nat → ClassId} {ad : Nat → Nat} {a1 : Int32} {a2 : Int32}  {r : Int32} {st st' : gS} (hf : fX10_hands a1 a2 st = some (r, st')) : gM l yX10_hands cX10_hands 4 (some .int) 5 0 D cA ad st [.ref (ad 0), .int a1, .int a2] (some (.int r)) st' := by
  refine g_met (by decide) (Nat.le_of_ble_eq_true rfl) ?_
  intro p e s m args below meth c ls hC hret hlk hU hH hl
  exact bX10_hands_0 hC hret hlk hU hf hH va_S.rf hl
def fX9_choose_6 (r1 : Nat) (a2 : Int32) (a3 : Int32) (k6 : Int32 → Int32 → gS → Option (Int32 × gS)) (l4 : Int32) (l5 : Int32) (st : gS) : Option (Int32 × gS) :=
  if (st.1 r1 14) ≤ l5 then (some (l4, st)) else (gc (gI l5 16) (if (st.1 (r1 + 1 + 6) l5.toNatClampNeg) = a3 then ((fX8_can r1 a2 l5 st).bind fun q6_1 => (if q6_1.1 = 0 then (k6 l4 (l5 + 1) q6_1.2) else (gc (gI l5 16) (gc (gI (q6_1.2.1 (r1 + 1 + 7) l5.toNatClampNeg) 8) (gl (q6_1.2.1 166 (q6_1.2.1 (r1 + 1 + 7) l5.toNatClampNeg).toNatClampNeg) fun x48 => ((fX8_worthOf r1 a2 x48 q6_1.2).bind fun q6_2 => ((fX8_worthOf r1 a2 l4 q6_2.2).bind fun q6_3 => (if q6_2.1 ≤ q6_3.1 then (k6 l4 (l5 + 1) q6_3.2) else (k6 x48 (l5 + 1) q6_3.2))))))))) else (k6 l4 (l5 + 1) st)))
set_option maxRecDepth 100000 in
set_option maxHeartbeats 4000000 in
theorem bX9_choose_6 {r1 : Nat} {a2 : Int32} {a3 : Int32} (hC : CallFix p m c cX9_choose 7 s args lw_good RX9) (hret : meth.sig.returnType = (some .int)) (hlk : meth.locks = false) (hU : gU 0 D cA ad s) (hr1 : gK 0 r1 = 8) {r : Int32} {st' : gS} {k6 : Int32 → Int32 → gS → Option (Int32 × gS)} (hk6 : ∀ {l4 : Int32} {l5 : Int32} {st : gS} {H : Heap} {locs : List Loc} {ls : Array Slot}, k6 l4 l5 st = some (r, st') → gP0 0 D cA ad st H → va_S (gA 0 ad) s.heap H locs → lv_has ls 7 [(0, .ref (ad 150)), (1, .ref (ad r1)), (2, .int a2), (3, .int a3), (4, .int l4), (5, .int l5)] → W p l e (gRm 4) s m args below meth c H locs 0 0 (MQ below (gQc 0 D cA ad st' (some (.int r))) args s 0 0 (gA 0 ad)) (F0 m 6 ls [])) {l4 : Int32} {l5 : Int32} {st : gS} {H : Heap} {locs : List Loc} {ls : Array Slot} (hf : fX9_choose_6 r1 a2 a3 k6 l4 l5 st = some (r, st')) (hH : gP0 0 D cA ad st H) (hS : va_S (gA 0 ad) s.heap H locs) (hl : lv_has ls 7 [(0, .ref (ad 150)), (1, .ref (ad r1)), (2, .int a2), (3, .int a3), (4, .int l4), (5, .int l5)]) : W p l e (gRm 4) s m args below meth c H locs 0 0 (MQ below (gQc 0 D cA ad st' (some (.int r))) args s 0 0 (gA 0 ad)) (F0 m 6 ls []) := by
  obtain ⟨hx, hb, hml, hown, hts⟩ := id hC
  unfold fX9_choose_6 at hf
  refine lv_iload (pc := 6) hx hb dX9_choose_6 (lv_at hl 5 rfl) ?_
  refine lv_aload_n (pc := 8) hx hb dX9_choose_8 rfl (lv_at hl 1 rfl) ?_
  refine g_get (pc := 9) (v := .int (st.1 r1 14)) hC hU hH hr1 g_cl8 14 (by decide) kf_X9_81 rfl dX9_choose_9 ?_
  refine lv_icmp_ge (tgt := 77) (pc := 12) hx hb dX9_choose_12 (by decide) (fun hc => ?_) (fun hc => ?_)
  · have hf := gif_p hc hf
    refine lv_iload (pc := 77) hx hb dX9_choose_77 (lv_at hl 4 rfl) ?_
    exact g_iret (pc := 79) hC hret hlk hH hS hf dX9_choose_79
  · have hf := gif_n hc hf
    refine lv_aload_n (pc := 15) hx hb dX9_choose_15 rfl (lv_at hl 1 rfl) ?_
    refine g_get (pc := 16) (v := .ref (ad (r1 + 1 + 6))) hC hU hH hr1 g_cl8 6 (by decide) kf_X9_87 rfl dX9_choose_16 ?_
    refine lv_iload (pc := 19) hx hb dX9_choose_19 (lv_at hl 5 rfl) ?_
    obtain ⟨h6_1, hf⟩ := gc_s hf
    refine g_iald (pc := 21) hC hU hH (gk_8_6 hr1) (gn_8_6 hr1) h6_1 dX9_choose_21 ?_
    refine lv_iload_n (pc := 22) hx hb dX9_choose_22 rfl (lv_at hl 3 rfl) ?_
    refine lv_icmp_ne (tgt := 71) (pc := 23) hx hb dX9_choose_23 (by decide) (fun hc => ?_) (fun hc => ?_)
    · have hf := gif_n hc hf
      refine lv_iinc (v := l5 + 1) (lv' := [(5, .int (l5 + 1)), (0, .ref (ad 150)), (1, .ref (ad r1)), (2, .int a2), (3, .int a3), (4, .int l4)]) (k := 5) (pc := 71) hx hb dX9_choose_71 hl rfl rfl (by decide) rfl (fun ls hl => ?_)
      refine lv_goto (tgt := 6) (pc := 74) hx hb dX9_choose_74 (by decide) ?_
      exact hk6 hf hH hS (lv_sub hl [1, 2, 3, 4, 5, 0] rfl)
    · have hf := gif_p hc hf
      refine lv_aload_n (pc := 26) hx hb dX9_choose_26 rfl (lv_at hl 1 rfl) ?_
      refine lv_iload_n (pc := 27) hx hb dX9_choose_27 rfl (lv_at hl 2 rfl) ?_
      refine lv_iload (pc := 28) hx hb dX9_choose_28 (lv_at hl 5 rfl) ?_
      obtain ⟨q6_1, hq6_1, hf⟩ := gbd hf
      refine g_callVi (pc := 30) (rest := []) hC hU hH hS hl.1 hr1 rfl (by decide) (mX8_can hr1 hq6_1) ky_X8_can km_X9_90 ⟨Nat.le_of_ble_eq_true rfl, Nat.le_of_ble_eq_true rfl⟩ ⟨Nat.zero_le _, Nat.zero_le _⟩ rfl (Nat.le_of_ble_eq_true rfl) dX9_choose_30 rfl (fun H locs hH hS => ?_)
      refine lv_if_eq (tgt := 71) (pc := 33) hx hb dX9_choose_33 (by decide) (fun hc => ?_) (fun hc => ?_)
      · have hf := gif_p hc hf
        refine lv_iinc (v := l5 + 1) (lv' := [(5, .int (l5 + 1)), (0, .ref (ad 150)), (1, .ref (ad r1)), (2, .int a2), (3, .int a3), (4, .int l4)]) (k := 5) (pc := 71) hx hb dX9_choose_71 hl rfl rfl (by decide) rfl (fun ls hl => ?_)
        refine lv_goto (tgt := 6) (pc := 74) hx hb dX9_choose_74 (by decide) ?_
        exact hk6 hf hH hS (lv_sub hl [1, 2, 3, 4, 5, 0] rfl)
      · have hf := gif_n hc hf
        refine lv_aload_n (pc := 36) hx hb dX9_choose_36 rfl (lv_at hl 0 rfl) ?_
        refine g_get (pc := 37) (v := .ref (ad 166)) hC hU hH gk0_150 g_cl9 6 (by decide) kf_X9_32 rfl dX9_choose_37 ?_
        refine lv_aload_n (pc := 40) hx hb dX9_choose_40 rfl (lv_at hl 1 rfl) ?_
        refine g_get (pc := 41) (v := .ref (ad (r1 + 1 + 7))) hC hU hH hr1 g_cl8 7 (by decide) kf_X9_84 rfl dX9_choose_41 ?_
        refine lv_iload (pc := 44) hx hb dX9_choose_44 (lv_at hl 5 rfl) ?_
        obtain ⟨h6_2, hf⟩ := gc_s hf
        refine g_iald (pc := 46) hC hU hH (gk_8_7 hr1) (gn_8_7 hr1) h6_2 dX9_choose_46 ?_
        obtain ⟨h6_3, hf⟩ := gc_s hf
        refine g_iald (pc := 47) hC hU hH gk0_166 gn0_166 h6_3 dX9_choose_47 ?_
        refine lv_topi (pc := 48) (fun x48 ex48 => ?_)
        have hf := gl_s ex48 hf
        refine lv_istore (lv' := [(6, .int x48), (0, .ref (ad 150)), (1, .ref (ad r1)), (2, .int a2), (3, .int a3), (4, .int l4), (5, .int l5)]) (pc := 48) hx hb dX9_choose_48 hl (by decide) rfl (fun ls hl => ?_)
        refine lv_aload_n (pc := 50) hx hb dX9_choose_50 rfl (lv_at hl 2 rfl) ?_
        refine lv_iload_n (pc := 51) hx hb dX9_choose_51 rfl (lv_at hl 3 rfl) ?_
        refine lv_iload (pc := 52) hx hb dX9_choose_52 (lv_at hl 0 rfl) ?_
        obtain ⟨q6_2, hq6_2, hf⟩ := gbd hf
        refine g_callVi (pc := 54) (rest := []) hC hU hH hS hl.1 hr1 rfl (by decide) (mX8_worthOf hr1 hq6_2) ky_X8_worthOf km_X9_146 ⟨Nat.le_of_ble_eq_true rfl, Nat.le_of_ble_eq_true rfl⟩ ⟨Nat.zero_le _, Nat.zero_le _⟩ rfl (Nat.le_of_ble_eq_true rfl) dX9_choose_54 rfl (fun H locs hH hS => ?_)
        refine lv_aload_n (pc := 57) hx hb dX9_choose_57 rfl (lv_at hl 2 rfl) ?_
        refine lv_iload_n (pc := 58) hx hb dX9_choose_58 rfl (lv_at hl 3 rfl) ?_
        refine lv_iload (pc := 59) hx hb dX9_choose_59 (lv_at hl 5 rfl) ?_
        obtain ⟨q6_3, hq6_3, hf⟩ := gbd hf
        refine g_callVi (pc := 61) (rest := [.int q6_2.1]) hC hU hH hS hl.1 hr1 rfl (by decide) (mX8_worthOf hr1 hq6_3) ky_X8_worthOf km_X9_146 ⟨Nat.le_of_ble_eq_true rfl, Nat.le_of_ble_eq_true rfl⟩ ⟨Nat.zero_le _, Nat.zero_le _⟩ rfl (Nat.le_of_ble_eq_true rfl) dX9_choose_61 rfl (fun H locs hH hS => ?_)
        refine lv_icmp_le (tgt := 71) (pc := 64) hx hb dX9_choose_64 (by decide) (fun hc => ?_) (fun hc => ?_)
        · have hf := gif_p hc hf
          refine lv_iinc (v := l5 + 1) (lv' := [(5, .int (l5 + 1)), (6, .int x48), (0, .ref (ad 150)), (1, .ref (ad r1)), (2, .int a2), (3, .int a3), (4, .int l4)]) (k := 6) (pc := 71) hx hb dX9_choose_71 hl rfl rfl (by decide) rfl (fun ls hl => ?_)
          refine lv_goto (tgt := 6) (pc := 74) hx hb dX9_choose_74 (by decide) ?_
          exact hk6 hf hH hS (lv_sub hl [2, 3, 4, 5, 6, 0] rfl)
        · have hf := gif_n hc hf
          refine lv_iload (pc := 67) hx hb dX9_choose_67 (lv_at hl 0 rfl) ?_
          refine lv_istore (lv' := [(4, .int x48), (6, .int x48), (0, .ref (ad 150)), (1, .ref (ad r1)), (2, .int a2), (3, .int a3), (5, .int l5)]) (pc := 69) hx hb dX9_choose_69 hl (by decide) rfl (fun ls hl => ?_)
          refine lv_iinc (v := l5 + 1) (lv' := [(5, .int (l5 + 1)), (4, .int x48), (6, .int x48), (0, .ref (ad 150)), (1, .ref (ad r1)), (2, .int a2), (3, .int a3)]) (k := 6) (pc := 71) hx hb dX9_choose_71 hl rfl rfl (by decide) rfl (fun ls hl => ?_)
          refine lv_goto (tgt := 6) (pc := 74) hx hb dX9_choose_74 (by decide) ?_
          exact hk6 hf hH hS (lv_sub hl [3, 4, 5, 6, 1, 0] rfl)
def hX9_choose_6 (r1 : Nat) (a2 : Int32) (a3 : Int32)  : Nat → Int32 → Int32 → gS → Option (Int32 × gS)
  | 0 => fun _ _ _ => none
  | n + 1 => fun l4 l5 st => fX9_choose_6 r1 a2 a3 (hX9_choose_6 r1 a2 a3 n) l4 l5 st
set_option maxRecDepth 100000 in
set_option maxHeartbeats 4000000 in
theorem wX9_choose_6 {r1 : Nat} {a2 : Int32} {a3 : Int32} (hC : CallFix p m c cX9_choose 7 s args lw_good RX9) (hret : meth.sig.returnType = (some .int)) (hlk : meth.locks = false) (hU : gU 0 D cA ad s) (hr1 : gK 0 r1 = 8) {r : Int32} {st' : gS}  : ∀ (n : Nat) {l4 : Int32} {l5 : Int32} {st : gS} {H : Heap} {locs : List Loc} {ls : Array Slot}, hX9_choose_6 r1 a2 a3 n l4 l5 st = some (r, st') → gP0 0 D cA ad st H → va_S (gA 0 ad) s.heap H locs → lv_has ls 7 [(0, .ref (ad 150)), (1, .ref (ad r1)), (2, .int a2), (3, .int a3), (4, .int l4), (5, .int l5)] → W p l e (gRm 4) s m args below meth c H locs 0 0 (MQ below (gQc 0 D cA ad st' (some (.int r))) args s 0 0 (gA 0 ad)) (F0 m 6 ls []) := by
  intro n
  induction n with
  | zero => intro l4 l5 st H locs ls hf hH hS hl; cases hf
  | succ n ih =>
    intro l4 l5 st H locs ls hf hH hS hl
    exact bX9_choose_6 (r1 := r1) (a2 := a2) (a3 := a3) hC hret hlk hU hr1 (fun hf hH hS hl => ih hf hH hS hl) hf hH hS hl
def fX9_choose (r1 : Nat) (a2 : Int32) (a3 : Int32)   (st : gS) : Option (Int32 × gS) :=
  hX9_choose_6 r1 a2 a3 FU a3 0 st
set_option maxRecDepth 100000 in
set_option maxHeartbeats 4000000 in
theorem bX9_choose_0 {r1 : Nat} {a2 : Int32} {a3 : Int32} (hC : CallFix p m c cX9_choose 7 s args lw_good RX9) (hret : meth.sig.returnType = (some .int)) (hlk : meth.locks = false) (hU : gU 0 D cA ad s) (hr1 : gK 0 r1 = 8) {r : Int32} {st' : gS}   {st : gS} {H : Heap} {locs : List Loc} {ls : Array Slot} (hf : fX9_choose r1 a2 a3 st = some (r, st')) (hH : gP0 0 D cA ad st H) (hS : va_S (gA 0 ad) s.heap H locs) (hl : lv_has ls 7 [(0, .ref (ad 150)), (1, .ref (ad r1)), (2, .int a2), (3, .int a3)]) : W p l e (gRm 4) s m args below meth c H locs 0 0 (MQ below (gQc 0 D cA ad st' (some (.int r))) args s 0 0 (gA 0 ad)) (F0 m 0 ls []) := by
  obtain ⟨hx, hb, hml, hown, hts⟩ := id hC
  unfold fX9_choose at hf
  refine lv_iload_n (pc := 0) hx hb dX9_choose_0 rfl (lv_at hl 3 rfl) ?_
  refine lv_istore (lv' := [(4, .int a3), (0, .ref (ad 150)), (1, .ref (ad r1)), (2, .int a2), (3, .int a3)]) (pc := 1) hx hb dX9_choose_1 hl (by decide) rfl (fun ls hl => ?_)
  refine lv_iconst (v := 0) (pc := 3) hx hb dX9_choose_3 (by decide) ?_
  refine lv_istore (lv' := [(5, .int 0), (4, .int a3), (0, .ref (ad 150)), (1, .ref (ad r1)), (2, .int a2), (3, .int a3)]) (pc := 4) hx hb dX9_choose_4 hl (by decide) rfl (fun ls hl => ?_)
  exact wX9_choose_6 hC hret hlk hU hr1 FU hf hH hS (lv_sub hl [2, 3, 4, 5, 1, 0] rfl)
set_option maxRecDepth 100000 in
set_option maxHeartbeats 4000000 in
theorem mX9_choose {l : Launch} {D : va_G} {cA : Nat → ClassId} {ad : Nat → Nat} {r1 : Nat} {a2 : Int32} {a3 : Int32} (hr1 : gK 0 r1 = 8) {r : Int32} {st st' : gS} (hf : fX9_choose r1 a2 a3 st = some (r, st')) : gM l yX9_choose cX9_choose 7 (some .int) 4 0 D cA ad st [.ref (ad 150), .ref (ad r1), .int a2, .int a3] (some (.int r)) st' := by
  refine g_met (by decide) (Nat.le_of_ble_eq_true rfl) ?_
  intro p e s m args below meth c ls hC hret hlk hU hH hl
  exact bX9_choose_0 hC hret hlk hU hr1 hf hH va_S.rf hl
def fX9_settle_73 (r1 : Nat) (r2 : Nat) (a3 : Int32) (a4 : Int32) (k50 : Int32 → gS → Option (Int32 × gS)) (k73 : Int32 → Int32 → gS → Option (Int32 × gS)) (l5 : Int32) (l6 : Int32) (st : gS) : Option (Int32 × gS) :=
  if (st.1 r1 12) ≤ l6 then (k50 (l5 + (-1)) st) else (gc (gI (l5 &&& 1) 2) ((fX9_choose r1 (st.1 151 (l5 &&& 1).toNatClampNeg) l6 st).bind fun q73_1 => (gc (gI l6 8) (k73 l5 (l6 + 1) (wi q73_1.2 165 l6.toNatClampNeg q73_1.1)))))
set_option maxRecDepth 100000 in
set_option maxHeartbeats 4000000 in
theorem bX9_settle_73 {r1 : Nat} {r2 : Nat} {a3 : Int32} {a4 : Int32} (hC : CallFix p m c cX9_settle 7 s args lw_good RX9) (hret : meth.sig.returnType = (some .int)) (hlk : meth.locks = false) (hU : gU 0 D cA ad s) (hr1 : gK 0 r1 = 8) (hr2 : gK 0 r2 = 5) {r : Int32} {st' : gS} {k50 : Int32 → gS → Option (Int32 × gS)} (hk50 : ∀ {l5 : Int32} {st : gS} {H : Heap} {locs : List Loc} {ls : Array Slot}, k50 l5 st = some (r, st') → gP0 0 D cA ad st H → va_S (gA 0 ad) s.heap H locs → lv_has ls 7 [(0, .ref (ad 150)), (1, .ref (ad r1)), (2, .ref (ad r2)), (5, .int l5)] → W p l e (gRm 5) s m args below meth c H locs 0 0 (MQ below (gQc 0 D cA ad st' (some (.int r))) args s 0 0 (gA 0 ad)) (F0 m 50 ls [])) {k73 : Int32 → Int32 → gS → Option (Int32 × gS)} (hk73 : ∀ {l5 : Int32} {l6 : Int32} {st : gS} {H : Heap} {locs : List Loc} {ls : Array Slot}, k73 l5 l6 st = some (r, st') → gP0 0 D cA ad st H → va_S (gA 0 ad) s.heap H locs → lv_has ls 7 [(0, .ref (ad 150)), (1, .ref (ad r1)), (2, .ref (ad r2)), (5, .int l5), (6, .int l6)] → W p l e (gRm 5) s m args below meth c H locs 0 0 (MQ below (gQc 0 D cA ad st' (some (.int r))) args s 0 0 (gA 0 ad)) (F0 m 73 ls [])) {l5 : Int32} {l6 : Int32} {st : gS} {H : Heap} {locs : List Loc} {ls : Array Slot} (hf : fX9_settle_73 r1 r2 a3 a4 k50 k73 l5 l6 st = some (r, st')) (hH : gP0 0 D cA ad st H) (hS : va_S (gA 0 ad) s.heap H locs) (hl : lv_has ls 7 [(0, .ref (ad 150)), (1, .ref (ad r1)), (2, .ref (ad r2)), (5, .int l5), (6, .int l6)]) : W p l e (gRm 5) s m args below meth c H locs 0 0 (MQ below (gQc 0 D cA ad st' (some (.int r))) args s 0 0 (gA 0 ad)) (F0 m 73 ls []) := by
  obtain ⟨hx, hb, hml, hown, hts⟩ := id hC
  unfold fX9_settle_73 at hf
  refine lv_iload (pc := 73) hx hb dX9_settle_73 (lv_at hl 4 rfl) ?_
  refine lv_aload_n (pc := 75) hx hb dX9_settle_75 rfl (lv_at hl 1 rfl) ?_
  refine g_get (pc := 76) (v := .int (st.1 r1 12)) hC hU hH hr1 g_cl8 12 (by decide) kf_X9_139 rfl dX9_settle_76 ?_
  refine lv_icmp_ge (tgt := 111) (pc := 79) hx hb dX9_settle_79 (by decide) (fun hc => ?_) (fun hc => ?_)
  · have hf := gif_p hc hf
    refine lv_iinc (v := l5 + (-1)) (lv' := [(5, .int (l5 + (-1))), (0, .ref (ad 150)), (1, .ref (ad r1)), (2, .ref (ad r2)), (6, .int l6)]) (k := 3) (pc := 111) hx hb dX9_settle_111 hl rfl rfl (by decide) rfl (fun ls hl => ?_)
    refine lv_goto (tgt := 50) (pc := 114) hx hb dX9_settle_114 (by decide) ?_
    exact hk50 hf hH hS (lv_sub hl [1, 2, 3, 0] rfl)
  · have hf := gif_n hc hf
    refine lv_aload_n (pc := 82) hx hb dX9_settle_82 rfl (lv_at hl 0 rfl) ?_
    refine g_get (pc := 83) (v := .ref (ad 165)) hC hU hH gk0_150 g_cl9 5 (by decide) kf_X9_29 rfl dX9_settle_83 ?_
    refine lv_iload (pc := 86) hx hb dX9_settle_86 (lv_at hl 4 rfl) ?_
    refine lv_aload_n (pc := 88) hx hb dX9_settle_88 rfl (lv_at hl 0 rfl) ?_
    refine lv_aload_n (pc := 89) hx hb dX9_settle_89 rfl (lv_at hl 1 rfl) ?_
    refine lv_aload_n (pc := 90) hx hb dX9_settle_90 rfl (lv_at hl 0 rfl) ?_
    refine g_get (pc := 91) (v := .ref (ad 151)) hC hU hH gk0_150 g_cl9 0 (by decide) kf_X9_9 rfl dX9_settle_91 ?_
    refine lv_iload (pc := 94) hx hb dX9_settle_94 (lv_at hl 3 rfl) ?_
    refine lv_iconst (v := 1) (pc := 96) hx hb dX9_settle_96 (by decide) ?_
    refine lv_iand (pc := 97) hx hb dX9_settle_97 ?_
    obtain ⟨h73_1, hf⟩ := gc_s hf
    refine g_iald (pc := 98) hC hU hH gk0_151 gn0_151 h73_1 dX9_settle_98 ?_
    refine lv_iload (pc := 99) hx hb dX9_settle_99 (lv_at hl 4 rfl) ?_
    obtain ⟨q73_1, hq73_1, hf⟩ := gbd hf
    refine g_callVi (pc := 101) (rest := [.int l6, .ref (ad 165)]) hC hU hH hS hl.1 gk0_150 rfl (by decide) (mX9_choose hr1 hq73_1) ky_X9_choose km_X9_142 ⟨Nat.le_of_ble_eq_true rfl, Nat.le_of_ble_eq_true rfl⟩ ⟨Nat.zero_le _, Nat.zero_le _⟩ rfl (Nat.le_of_ble_eq_true rfl) dX9_settle_101 rfl (fun H locs hH hS => ?_)
    obtain ⟨h73_2, hf⟩ := gc_s hf
    refine g_iast (pc := 104) hC hU hH hS gk0_165 gn0_165 h73_2 dX9_settle_104 (fun H locs hH hS => ?_)
    refine lv_iinc (v := l6 + 1) (lv' := [(6, .int (l6 + 1)), (0, .ref (ad 150)), (1, .ref (ad r1)), (2, .ref (ad r2)), (5, .int l5)]) (k := 4) (pc := 105) hx hb dX9_settle_105 hl rfl rfl (by decide) rfl (fun ls hl => ?_)
    refine lv_goto (tgt := 73) (pc := 108) hx hb dX9_settle_108 (by decide) ?_
    exact hk73 hf hH hS (lv_sub hl [1, 2, 3, 4, 0] rfl)
def hX9_settle_73 (r1 : Nat) (r2 : Nat) (a3 : Int32) (a4 : Int32) (k50 : Int32 → gS → Option (Int32 × gS)) : Nat → Int32 → Int32 → gS → Option (Int32 × gS)
  | 0 => fun _ _ _ => none
  | n + 1 => fun l5 l6 st => fX9_settle_73 r1 r2 a3 a4 k50 (hX9_settle_73 r1 r2 a3 a4 k50 n) l5 l6 st
set_option maxRecDepth 100000 in
set_option maxHeartbeats 4000000 in
theorem wX9_settle_73 {r1 : Nat} {r2 : Nat} {a3 : Int32} {a4 : Int32} (hC : CallFix p m c cX9_settle 7 s args lw_good RX9) (hret : meth.sig.returnType = (some .int)) (hlk : meth.locks = false) (hU : gU 0 D cA ad s) (hr1 : gK 0 r1 = 8) (hr2 : gK 0 r2 = 5) {r : Int32} {st' : gS} {k50 : Int32 → gS → Option (Int32 × gS)} (hk50 : ∀ {l5 : Int32} {st : gS} {H : Heap} {locs : List Loc} {ls : Array Slot}, k50 l5 st = some (r, st') → gP0 0 D cA ad st H → va_S (gA 0 ad) s.heap H locs → lv_has ls 7 [(0, .ref (ad 150)), (1, .ref (ad r1)), (2, .ref (ad r2)), (5, .int l5)] → W p l e (gRm 5) s m args below meth c H locs 0 0 (MQ below (gQc 0 D cA ad st' (some (.int r))) args s 0 0 (gA 0 ad)) (F0 m 50 ls [])) : ∀ (n : Nat) {l5 : Int32} {l6 : Int32} {st : gS} {H : Heap} {locs : List Loc} {ls : Array Slot}, hX9_settle_73 r1 r2 a3 a4 k50 n l5 l6 st = some (r, st') → gP0 0 D cA ad st H → va_S (gA 0 ad) s.heap H locs → lv_has ls 7 [(0, .ref (ad 150)), (1, .ref (ad r1)), (2, .ref (ad r2)), (5, .int l5), (6, .int l6)] → W p l e (gRm 5) s m args below meth c H locs 0 0 (MQ below (gQc 0 D cA ad st' (some (.int r))) args s 0 0 (gA 0 ad)) (F0 m 73 ls []) := by
  intro n
  induction n with
  | zero => intro l5 l6 st H locs ls hf hH hS hl; cases hf
  | succ n ih =>
    intro l5 l6 st H locs ls hf hH hS hl
    exact bX9_settle_73 (r1 := r1) (r2 := r2) (a3 := a3) (a4 := a4) hC hret hlk hU hr1 hr2 hk50 (fun hf hH hS hl => ih hf hH hS hl) hf hH hS hl
def fX9_settle_50 (r1 : Nat) (r2 : Nat) (a3 : Int32) (a4 : Int32) (k50 : Int32 → gS → Option (Int32 × gS)) (l5 : Int32) (st : gS) : Option (Int32 × gS) :=
  if l5 < 0 then (gc (gI (st.1 r2 2) 8) (some (st.1 165 (st.1 r2 2).toNatClampNeg, st))) else (hX9_settle_73 r1 r2 a3 a4 k50 FU l5 0 (wa st 166 (va_cpy (st.1 165) (st.1 166) 0 0 8)))
set_option maxRecDepth 100000 in
set_option maxHeartbeats 4000000 in
theorem bX9_settle_50 {r1 : Nat} {r2 : Nat} {a3 : Int32} {a4 : Int32} (hC : CallFix p m c cX9_settle 7 s args lw_good RX9) (hret : meth.sig.returnType = (some .int)) (hlk : meth.locks = false) (hU : gU 0 D cA ad s) (hr1 : gK 0 r1 = 8) (hr2 : gK 0 r2 = 5) {r : Int32} {st' : gS} {k50 : Int32 → gS → Option (Int32 × gS)} (hk50 : ∀ {l5 : Int32} {st : gS} {H : Heap} {locs : List Loc} {ls : Array Slot}, k50 l5 st = some (r, st') → gP0 0 D cA ad st H → va_S (gA 0 ad) s.heap H locs → lv_has ls 7 [(0, .ref (ad 150)), (1, .ref (ad r1)), (2, .ref (ad r2)), (5, .int l5)] → W p l e (gRm 5) s m args below meth c H locs 0 0 (MQ below (gQc 0 D cA ad st' (some (.int r))) args s 0 0 (gA 0 ad)) (F0 m 50 ls [])) {l5 : Int32} {st : gS} {H : Heap} {locs : List Loc} {ls : Array Slot} (hf : fX9_settle_50 r1 r2 a3 a4 k50 l5 st = some (r, st')) (hH : gP0 0 D cA ad st H) (hS : va_S (gA 0 ad) s.heap H locs) (hl : lv_has ls 7 [(0, .ref (ad 150)), (1, .ref (ad r1)), (2, .ref (ad r2)), (5, .int l5)]) : W p l e (gRm 5) s m args below meth c H locs 0 0 (MQ below (gQc 0 D cA ad st' (some (.int r))) args s 0 0 (gA 0 ad)) (F0 m 50 ls []) := by
  obtain ⟨hx, hb, hml, hown, hts⟩ := id hC
  unfold fX9_settle_50 at hf
  refine lv_iload (pc := 50) hx hb dX9_settle_50 (lv_at hl 3 rfl) ?_
  refine lv_if_lt (tgt := 117) (pc := 52) hx hb dX9_settle_52 (by decide) (fun hc => ?_) (fun hc => ?_)
  · have hf := gif_p hc hf
    refine lv_aload_n (pc := 117) hx hb dX9_settle_117 rfl (lv_at hl 0 rfl) ?_
    refine g_get (pc := 118) (v := .ref (ad 165)) hC hU hH gk0_150 g_cl9 5 (by decide) kf_X9_29 rfl dX9_settle_118 ?_
    refine lv_aload_n (pc := 121) hx hb dX9_settle_121 rfl (lv_at hl 2 rfl) ?_
    refine g_get (pc := 122) (v := .int (st.1 r2 2)) hC hU hH hr2 g_cl5 2 (by decide) kf_X9_50 rfl dX9_settle_122 ?_
    obtain ⟨h50_1, hf⟩ := gc_s hf
    refine g_iald (pc := 125) hC hU hH gk0_165 gn0_165 h50_1 dX9_settle_125 ?_
    exact g_iret (pc := 126) hC hret hlk hH hS hf dX9_settle_126
  · have hf := gif_n hc hf
    refine lv_aload_n (pc := 55) hx hb dX9_settle_55 rfl (lv_at hl 0 rfl) ?_
    refine g_get (pc := 56) (v := .ref (ad 165)) hC hU hH gk0_150 g_cl9 5 (by decide) kf_X9_29 rfl dX9_settle_56 ?_
    refine lv_iconst (v := 0) (pc := 59) hx hb dX9_settle_59 (by decide) ?_
    refine lv_aload_n (pc := 60) hx hb dX9_settle_60 rfl (lv_at hl 0 rfl) ?_
    refine g_get (pc := 61) (v := .ref (ad 166)) hC hU hH gk0_150 g_cl9 6 (by decide) kf_X9_32 rfl dX9_settle_61 ?_
    refine lv_iconst (v := 0) (pc := 64) hx hb dX9_settle_64 (by decide) ?_
    refine lv_bipush (v := 8) (pc := 65) hx hb dX9_settle_65 (by decide) ?_
    refine g_copy (pc := 67) hC hU hH hS hl.1 (hts _ km_X9_133) (hts _ kan) (hts _ kas) (hts _ kai) gk0_165 gn0_165 gk0_166 gn0_166 0 0 8 rfl rfl rfl (by decide) (by decide) (by decide) (by decide) (by decide) (Nat.le_of_ble_eq_true rfl) (Nat.le_of_ble_eq_true rfl) dX9_settle_67 (fun H locs hH hS => ?_)
    refine lv_iconst (v := 0) (pc := 70) hx hb dX9_settle_70 (by decide) ?_
    refine lv_istore (lv' := [(6, .int 0), (0, .ref (ad 150)), (1, .ref (ad r1)), (2, .ref (ad r2)), (5, .int l5)]) (pc := 71) hx hb dX9_settle_71 hl (by decide) rfl (fun ls hl => ?_)
    exact wX9_settle_73 hC hret hlk hU hr1 hr2 hk50 FU hf hH hS (lv_sub hl [1, 2, 3, 4, 0] rfl)
def hX9_settle_50 (r1 : Nat) (r2 : Nat) (a3 : Int32) (a4 : Int32)  : Nat → Int32 → gS → Option (Int32 × gS)
  | 0 => fun _ _ => none
  | n + 1 => fun l5 st => fX9_settle_50 r1 r2 a3 a4 (hX9_settle_50 r1 r2 a3 a4 n) l5 st
set_option maxRecDepth 100000 in
set_option maxHeartbeats 4000000 in
theorem wX9_settle_50 {r1 : Nat} {r2 : Nat} {a3 : Int32} {a4 : Int32} (hC : CallFix p m c cX9_settle 7 s args lw_good RX9) (hret : meth.sig.returnType = (some .int)) (hlk : meth.locks = false) (hU : gU 0 D cA ad s) (hr1 : gK 0 r1 = 8) (hr2 : gK 0 r2 = 5) {r : Int32} {st' : gS}  : ∀ (n : Nat) {l5 : Int32} {st : gS} {H : Heap} {locs : List Loc} {ls : Array Slot}, hX9_settle_50 r1 r2 a3 a4 n l5 st = some (r, st') → gP0 0 D cA ad st H → va_S (gA 0 ad) s.heap H locs → lv_has ls 7 [(0, .ref (ad 150)), (1, .ref (ad r1)), (2, .ref (ad r2)), (5, .int l5)] → W p l e (gRm 5) s m args below meth c H locs 0 0 (MQ below (gQc 0 D cA ad st' (some (.int r))) args s 0 0 (gA 0 ad)) (F0 m 50 ls []) := by
  intro n
  induction n with
  | zero => intro l5 st H locs ls hf hH hS hl; cases hf
  | succ n ih =>
    intro l5 st H locs ls hf hH hS hl
    exact bX9_settle_50 (r1 := r1) (r2 := r2) (a3 := a3) (a4 := a4) hC hret hlk hU hr1 hr2 (fun hf hH hS hl => ih hf hH hS hl) hf hH hS hl
def fX9_settle_22 (r1 : Nat) (r2 : Nat) (a3 : Int32) (a4 : Int32) (k22 : Int32 → gS → Option (Int32 × gS)) (l5 : Int32) (st : gS) : Option (Int32 × gS) :=
  if 8 ≤ l5 then (hX9_settle_50 r1 r2 a3 a4 FU (a4 - 1) st) else (gc (gI l5 8) (k22 (l5 + 1) (wi st 165 l5.toNatClampNeg l5)))
set_option maxRecDepth 100000 in
set_option maxHeartbeats 4000000 in
theorem bX9_settle_22 {r1 : Nat} {r2 : Nat} {a3 : Int32} {a4 : Int32} (hC : CallFix p m c cX9_settle 7 s args lw_good RX9) (hret : meth.sig.returnType = (some .int)) (hlk : meth.locks = false) (hU : gU 0 D cA ad s) (hr1 : gK 0 r1 = 8) (hr2 : gK 0 r2 = 5) {r : Int32} {st' : gS} {k22 : Int32 → gS → Option (Int32 × gS)} (hk22 : ∀ {l5 : Int32} {st : gS} {H : Heap} {locs : List Loc} {ls : Array Slot}, k22 l5 st = some (r, st') → gP0 0 D cA ad st H → va_S (gA 0 ad) s.heap H locs → lv_has ls 7 [(0, .ref (ad 150)), (1, .ref (ad r1)), (2, .ref (ad r2)), (4, .int a4), (5, .int l5)] → W p l e (gRm 5) s m args below meth c H locs 0 0 (MQ below (gQc 0 D cA ad st' (some (.int r))) args s 0 0 (gA 0 ad)) (F0 m 22 ls [])) {l5 : Int32} {st : gS} {H : Heap} {locs : List Loc} {ls : Array Slot} (hf : fX9_settle_22 r1 r2 a3 a4 k22 l5 st = some (r, st')) (hH : gP0 0 D cA ad st H) (hS : va_S (gA 0 ad) s.heap H locs) (hl : lv_has ls 7 [(0, .ref (ad 150)), (1, .ref (ad r1)), (2, .ref (ad r2)), (4, .int a4), (5, .int l5)]) : W p l e (gRm 5) s m args below meth c H locs 0 0 (MQ below (gQc 0 D cA ad st' (some (.int r))) args s 0 0 (gA 0 ad)) (F0 m 22 ls []) := by
  obtain ⟨hx, hb, hml, hown, hts⟩ := id hC
  unfold fX9_settle_22 at hf
  refine lv_iload (pc := 22) hx hb dX9_settle_22 (lv_at hl 4 rfl) ?_
  refine lv_bipush (v := 8) (pc := 24) hx hb dX9_settle_24 (by decide) ?_
  refine lv_icmp_ge (tgt := 44) (pc := 26) hx hb dX9_settle_26 (by decide) (fun hc => ?_) (fun hc => ?_)
  · have hf := gif_p hc hf
    refine lv_iload (pc := 44) hx hb dX9_settle_44 (lv_at hl 3 rfl) ?_
    refine lv_iconst (v := 1) (pc := 46) hx hb dX9_settle_46 (by decide) ?_
    refine lv_isub (pc := 47) hx hb dX9_settle_47 ?_
    refine lv_istore (lv' := [(5, .int (a4 - 1)), (0, .ref (ad 150)), (1, .ref (ad r1)), (2, .ref (ad r2)), (4, .int a4)]) (pc := 48) hx hb dX9_settle_48 hl (by decide) rfl (fun ls hl => ?_)
    exact wX9_settle_50 hC hret hlk hU hr1 hr2 FU hf hH hS (lv_sub hl [1, 2, 3, 0] rfl)
  · have hf := gif_n hc hf
    refine lv_aload_n (pc := 29) hx hb dX9_settle_29 rfl (lv_at hl 0 rfl) ?_
    refine g_get (pc := 30) (v := .ref (ad 165)) hC hU hH gk0_150 g_cl9 5 (by decide) kf_X9_29 rfl dX9_settle_30 ?_
    refine lv_iload (pc := 33) hx hb dX9_settle_33 (lv_at hl 4 rfl) ?_
    refine lv_iload (pc := 35) hx hb dX9_settle_35 (lv_at hl 4 rfl) ?_
    obtain ⟨h22_1, hf⟩ := gc_s hf
    refine g_iast (pc := 37) hC hU hH hS gk0_165 gn0_165 h22_1 dX9_settle_37 (fun H locs hH hS => ?_)
    refine lv_iinc (v := l5 + 1) (lv' := [(5, .int (l5 + 1)), (0, .ref (ad 150)), (1, .ref (ad r1)), (2, .ref (ad r2)), (4, .int a4)]) (k := 4) (pc := 38) hx hb dX9_settle_38 hl rfl rfl (by decide) rfl (fun ls hl => ?_)
    refine lv_goto (tgt := 22) (pc := 41) hx hb dX9_settle_41 (by decide) ?_
    exact hk22 hf hH hS (lv_sub hl [1, 2, 3, 4, 0] rfl)
def hX9_settle_22 (r1 : Nat) (r2 : Nat) (a3 : Int32) (a4 : Int32)  : Nat → Int32 → gS → Option (Int32 × gS)
  | 0 => fun _ _ => none
  | n + 1 => fun l5 st => fX9_settle_22 r1 r2 a3 a4 (hX9_settle_22 r1 r2 a3 a4 n) l5 st
set_option maxRecDepth 100000 in
set_option maxHeartbeats 4000000 in
theorem wX9_settle_22 {r1 : Nat} {r2 : Nat} {a3 : Int32} {a4 : Int32} (hC : CallFix p m c cX9_settle 7 s args lw_good RX9) (hret : meth.sig.returnType = (some .int)) (hlk : meth.locks = false) (hU : gU 0 D cA ad s) (hr1 : gK 0 r1 = 8) (hr2 : gK 0 r2 = 5) {r : Int32} {st' : gS}  : ∀ (n : Nat) {l5 : Int32} {st : gS} {H : Heap} {locs : List Loc} {ls : Array Slot}, hX9_settle_22 r1 r2 a3 a4 n l5 st = some (r, st') → gP0 0 D cA ad st H → va_S (gA 0 ad) s.heap H locs → lv_has ls 7 [(0, .ref (ad 150)), (1, .ref (ad r1)), (2, .ref (ad r2)), (4, .int a4), (5, .int l5)] → W p l e (gRm 5) s m args below meth c H locs 0 0 (MQ below (gQc 0 D cA ad st' (some (.int r))) args s 0 0 (gA 0 ad)) (F0 m 22 ls []) := by
  intro n
  induction n with
  | zero => intro l5 st H locs ls hf hH hS hl; cases hf
  | succ n ih =>
    intro l5 st H locs ls hf hH hS hl
    exact bX9_settle_22 (r1 := r1) (r2 := r2) (a3 := a3) (a4 := a4) hC hret hlk hU hr1 hr2 (fun hf hH hS hl => ih hf hH hS hl) hf hH hS hl
def fX9_settle (r1 : Nat) (r2 : Nat) (a3 : Int32) (a4 : Int32)   (st : gS) : Option (Int32 × gS) :=
  (fX8_hasFigure r1 (st.1 r2 2) st).bind fun q0_1 => (if q0_1.1 = 0 then (some ((-1), q0_1.2)) else ((fX9_sit r2 a3 q0_1.2).bind fun q0_2 => (hX9_settle_22 r1 r2 a3 a4 FU 0 q0_2)))
set_option maxRecDepth 100000 in
set_option maxHeartbeats 4000000 in
theorem bX9_settle_0 {r1 : Nat} {r2 : Nat} {a3 : Int32} {a4 : Int32} (hC : CallFix p m c cX9_settle 7 s args lw_good RX9) (hret : meth.sig.returnType = (some .int)) (hlk : meth.locks = false) (hU : gU 0 D cA ad s) (hr1 : gK 0 r1 = 8) (hr2 : gK 0 r2 = 5) {r : Int32} {st' : gS}   {st : gS} {H : Heap} {locs : List Loc} {ls : Array Slot} (hf : fX9_settle r1 r2 a3 a4 st = some (r, st')) (hH : gP0 0 D cA ad st H) (hS : va_S (gA 0 ad) s.heap H locs) (hl : lv_has ls 7 [(0, .ref (ad 150)), (1, .ref (ad r1)), (2, .ref (ad r2)), (3, .int a3), (4, .int a4)]) : W p l e (gRm 5) s m args below meth c H locs 0 0 (MQ below (gQc 0 D cA ad st' (some (.int r))) args s 0 0 (gA 0 ad)) (F0 m 0 ls []) := by
  obtain ⟨hx, hb, hml, hown, hts⟩ := id hC
  unfold fX9_settle at hf
  refine lv_aload_n (pc := 0) hx hb dX9_settle_0 rfl (lv_at hl 1 rfl) ?_
  refine lv_aload_n (pc := 1) hx hb dX9_settle_1 rfl (lv_at hl 2 rfl) ?_
  refine g_get (pc := 2) (v := .int (st.1 r2 2)) hC hU hH hr2 g_cl5 2 (by decide) kf_X9_50 rfl dX9_settle_2 ?_
  obtain ⟨q0_1, hq0_1, hf⟩ := gbd hf
  refine g_callVi (pc := 5) (rest := []) hC hU hH hS hl.1 hr1 rfl (by decide) (mX8_hasFigure hr1 hq0_1) ky_X8_hasFigure km_X9_53 ⟨Nat.le_of_ble_eq_true rfl, Nat.le_of_ble_eq_true rfl⟩ ⟨Nat.zero_le _, Nat.zero_le _⟩ rfl (Nat.le_of_ble_eq_true rfl) dX9_settle_5 rfl (fun H locs hH hS => ?_)
  refine lv_if_ne (tgt := 13) (pc := 8) hx hb dX9_settle_8 (by decide) (fun hc => ?_) (fun hc => ?_)
  · have hf := gif_n hc hf
    refine lv_aload_n (pc := 13) hx hb dX9_settle_13 rfl (lv_at hl 0 rfl) ?_
    refine lv_aload_n (pc := 14) hx hb dX9_settle_14 rfl (lv_at hl 2 rfl) ?_
    refine lv_iload_n (pc := 15) hx hb dX9_settle_15 rfl (lv_at hl 3 rfl) ?_
    obtain ⟨q0_2, hq0_2, hf⟩ := gbd hf
    refine g_callVv (pc := 16) (rest := []) hC hU hH hS hl.1 gk0_150 rfl (by decide) (mX9_sit hr2 hq0_2) ky_X9_sit km_X9_59 ⟨Nat.le_of_ble_eq_true rfl, Nat.le_of_ble_eq_true rfl⟩ ⟨Nat.zero_le _, Nat.zero_le _⟩ rfl (Nat.le_of_ble_eq_true rfl) dX9_settle_16 rfl (fun H locs hH hS => ?_)
    refine lv_iconst (v := 0) (pc := 19) hx hb dX9_settle_19 (by decide) ?_
    refine lv_istore (lv' := [(5, .int 0), (0, .ref (ad 150)), (1, .ref (ad r1)), (2, .ref (ad r2)), (3, .int a3), (4, .int a4)]) (pc := 20) hx hb dX9_settle_20 hl (by decide) rfl (fun ls hl => ?_)
    exact wX9_settle_22 hC hret hlk hU hr1 hr2 FU hf hH hS (lv_sub hl [1, 2, 3, 5, 0] rfl)
  · have hf := gif_p hc hf
    refine lv_iconst (v := (-1)) (pc := 11) hx hb dX9_settle_11 (by decide) ?_
    exact g_iret (pc := 12) hC hret hlk hH hS hf dX9_settle_12
set_option maxRecDepth 100000 in
set_option maxHeartbeats 4000000 in
theorem mX9_settle {l : Launch} {D : va_G} {cA : Nat → ClassId} {ad : Nat → Nat} {r1 : Nat} {r2 : Nat} {a3 : Int32} {a4 : Int32} (hr1 : gK 0 r1 = 8) (hr2 : gK 0 r2 = 5) {r : Int32} {st st' : gS} (hf : fX9_settle r1 r2 a3 a4 st = some (r, st')) : gM l yX9_settle cX9_settle 7 (some .int) 5 0 D cA ad st [.ref (ad 150), .ref (ad r1), .ref (ad r2), .int a3, .int a4] (some (.int r)) st' := by
  refine g_met (by decide) (Nat.le_of_ble_eq_true rfl) ?_
  intro p e s m args below meth c ls hC hret hlk hU hH hl
  exact bX9_settle_0 hC hret hlk hU hr1 hr2 hf hH va_S.rf hl
def fX10_deal (a1 : Int32) (a2 : Int32)   (st : gS) : Option (Int32 × gS) :=
  (fX10_isOther a1 st).bind fun q0_1 => (if q0_1.1 = 0 then (some ((-1), q0_1.2)) else (if a2 < 0 then (some ((-1), q0_1.2)) else (if a2 ≤ 8 then (gc (gK 0 (q0_1.2.2.2 0 9) = 8) ((fX9_settle (q0_1.2.2.2 0 9) 20 a1 a2 q0_1.2).bind fun q0_2 => (some (q0_2.1, q0_2.2)))) else (some ((-1), q0_1.2)))))
set_option maxRecDepth 100000 in
set_option maxHeartbeats 4000000 in
theorem bX10_deal_0 {a1 : Int32} {a2 : Int32} (hC : CallFix p m c cX10_deal 3 s args lw_good RX10) (hret : meth.sig.returnType = (some .int)) (hlk : meth.locks = false) (hU : gU 0 D cA ad s)  {r : Int32} {st' : gS}   {st : gS} {H : Heap} {locs : List Loc} {ls : Array Slot} (hf : fX10_deal a1 a2 st = some (r, st')) (hH : gP0 0 D cA ad st H) (hS : va_S (gA 0 ad) s.heap H locs) (hl : lv_has ls 3 [(0, .ref (ad 0)), (1, .int a1), (2, .int a2)]) : W p l e (gRm 6) s m args below meth c H locs 0 0 (MQ below (gQc 0 D cA ad st' (some (.int r))) args s 0 0 (gA 0 ad)) (F0 m 0 ls []) := by
  obtain ⟨hx, hb, hml, hown, hts⟩ := id hC
  unfold fX10_deal at hf
  refine lv_aload_n (pc := 0) hx hb dX10_deal_0 rfl (lv_at hl 0 rfl) ?_
  refine lv_iload_n (pc := 1) hx hb dX10_deal_1 rfl (lv_at hl 1 rfl) ?_
  obtain ⟨q0_1, hq0_1, hf⟩ := gbd hf
  refine g_callVi (pc := 2) (rest := []) hC hU hH hS hl.1 gk0_0 rfl (by decide) (mX10_isOther  hq0_1) ky_X10_isOther km_X10_230 ⟨Nat.le_of_ble_eq_true rfl, Nat.le_of_ble_eq_true rfl⟩ ⟨Nat.zero_le _, Nat.zero_le _⟩ rfl (Nat.le_of_ble_eq_true rfl) dX10_deal_2 rfl (fun H locs hH hS => ?_)
  refine lv_if_eq (tgt := 18) (pc := 5) hx hb dX10_deal_5 (by decide) (fun hc => ?_) (fun hc => ?_)
  · have hf := gif_p hc hf
    refine lv_iconst (v := (-1)) (pc := 18) hx hb dX10_deal_18 (by decide) ?_
    exact g_iret (pc := 19) hC hret hlk hH hS hf dX10_deal_19
  · have hf := gif_n hc hf
    refine lv_iload_n (pc := 8) hx hb dX10_deal_8 rfl (lv_at hl 2 rfl) ?_
    refine lv_if_lt (tgt := 18) (pc := 9) hx hb dX10_deal_9 (by decide) (fun hc => ?_) (fun hc => ?_)
    · have hf := gif_p hc hf
      refine lv_iconst (v := (-1)) (pc := 18) hx hb dX10_deal_18 (by decide) ?_
      exact g_iret (pc := 19) hC hret hlk hH hS hf dX10_deal_19
    · have hf := gif_n hc hf
      refine lv_iload_n (pc := 12) hx hb dX10_deal_12 rfl (lv_at hl 2 rfl) ?_
      refine lv_bipush (v := 8) (pc := 13) hx hb dX10_deal_13 (by decide) ?_
      refine lv_icmp_le (tgt := 20) (pc := 15) hx hb dX10_deal_15 (by decide) (fun hc => ?_) (fun hc => ?_)
      · have hf := gif_p hc hf
        refine lv_aload_n (pc := 20) hx hb dX10_deal_20 rfl (lv_at hl 0 rfl) ?_
        refine g_get (pc := 21) (v := .ref (ad 150)) hC hU hH gk0_0 g_cl10 6 (by decide) kf_X10_50 rfl dX10_deal_21 ?_
        refine lv_aload_n (pc := 24) hx hb dX10_deal_24 rfl (lv_at hl 0 rfl) ?_
        refine g_get (pc := 25) (v := .ref (ad (q0_1.2.2.2 0 9))) hC hU hH gk0_0 g_cl10 9 (by decide) kf_X10_71 rfl dX10_deal_25 ?_
        refine lv_aload_n (pc := 28) hx hb dX10_deal_28 rfl (lv_at hl 0 rfl) ?_
        refine g_get (pc := 29) (v := .ref (ad 20)) hC hU hH gk0_0 g_cl10 2 (by decide) kf_X10_28 rfl dX10_deal_29 ?_
        refine lv_iload_n (pc := 32) hx hb dX10_deal_32 rfl (lv_at hl 1 rfl) ?_
        refine lv_iload_n (pc := 33) hx hb dX10_deal_33 rfl (lv_at hl 2 rfl) ?_
        obtain ⟨h0_1, hf⟩ := gc_s hf
        obtain ⟨q0_2, hq0_2, hf⟩ := gbd hf
        refine g_callVi (pc := 34) (rest := []) hC hU hH hS hl.1 gk0_150 rfl (by decide) (mX9_settle h0_1 gk0_20 hq0_2) ky_X9_settle km_X10_262 ⟨Nat.le_of_ble_eq_true rfl, Nat.le_of_ble_eq_true rfl⟩ ⟨Nat.zero_le _, Nat.zero_le _⟩ rfl (Nat.le_of_ble_eq_true rfl) dX10_deal_34 rfl (fun H locs hH hS => ?_)
        exact g_iret (pc := 37) hC hret hlk hH hS hf dX10_deal_37
      · have hf := gif_n hc hf
        refine lv_iconst (v := (-1)) (pc := 18) hx hb dX10_deal_18 (by decide) ?_
        exact g_iret (pc := 19) hC hret hlk hH hS hf dX10_deal_19
set_option maxRecDepth 100000 in
set_option maxHeartbeats 4000000 in
theorem mX10_deal {l : Launch} {D : va_G} {cA : Nat → ClassId} {ad : Nat → Nat} {a1 : Int32} {a2 : Int32}  {r : Int32} {st st' : gS} (hf : fX10_deal a1 a2 st = some (r, st')) : gM l yX10_deal cX10_deal 3 (some .int) 6 0 D cA ad st [.ref (ad 0), .int a1, .int a2] (some (.int r)) st' := by
  refine g_met (by decide) (Nat.le_of_ble_eq_true rfl) ?_
  intro p e s m args below meth c ls hC hret hlk hU hH hl
  exact bX10_deal_0 hC hret hlk hU hf hH va_S.rf hl
def fX8_leastWorth_20 (t : Nat) (a1 : Int32) (k20 : Int32 → Int32 → gS → Option (Int32 × gS)) (l2 : Int32) (l3 : Int32) (st : gS) : Option (Int32 × gS) :=
  if (st.1 t 13) ≤ l3 then (some (l2, st)) else ((fX8_worthOf t l3 a1 st).bind fun q20_1 => (gl (if q20_1.1 < l2 then q20_1.1 else l2) fun x38 => (k20 x38 (l3 + 1) q20_1.2)))
set_option maxRecDepth 100000 in
set_option maxHeartbeats 4000000 in
theorem bX8_leastWorth_20 {t : Nat} {a1 : Int32} (hC : CallFix p m c cX8_leastWorth 4 s args lw_good RX8) (hret : meth.sig.returnType = (some .int)) (hlk : meth.locks = false) (hU : gU 0 D cA ad s) (ht : gK 0 t = 8) {r : Int32} {st' : gS} {k20 : Int32 → Int32 → gS → Option (Int32 × gS)} (hk20 : ∀ {l2 : Int32} {l3 : Int32} {st : gS} {H : Heap} {locs : List Loc} {ls : Array Slot}, k20 l2 l3 st = some (r, st') → gP0 0 D cA ad st H → va_S (gA 0 ad) s.heap H locs → lv_has ls 4 [(0, .ref (ad t)), (1, .int a1), (2, .int l2), (3, .int l3)] → W p l e (gRm 4) s m args below meth c H locs 0 0 (MQ below (gQc 0 D cA ad st' (some (.int r))) args s 0 0 (gA 0 ad)) (F0 m 20 ls [])) {l2 : Int32} {l3 : Int32} {st : gS} {H : Heap} {locs : List Loc} {ls : Array Slot} (hf : fX8_leastWorth_20 t a1 k20 l2 l3 st = some (r, st')) (hH : gP0 0 D cA ad st H) (hS : va_S (gA 0 ad) s.heap H locs) (hl : lv_has ls 4 [(0, .ref (ad t)), (1, .int a1), (2, .int l2), (3, .int l3)]) : W p l e (gRm 4) s m args below meth c H locs 0 0 (MQ below (gQc 0 D cA ad st' (some (.int r))) args s 0 0 (gA 0 ad)) (F0 m 20 ls []) := by
  obtain ⟨hx, hb, hml, hown, hts⟩ := id hC
  unfold fX8_leastWorth_20 at hf
  refine lv_iload_n (pc := 20) hx hb dX8_leastWorth_20 rfl (lv_at hl 3 rfl) ?_
  refine lv_aload_n (pc := 21) hx hb dX8_leastWorth_21 rfl (lv_at hl 0 rfl) ?_
  refine g_get (pc := 22) (v := .int (st.1 t 13)) hC hU hH ht g_cl8 13 (by decide) kf_X8_57 rfl dX8_leastWorth_22 ?_
  refine lv_icmp_ge (tgt := 45) (pc := 25) hx hb dX8_leastWorth_25 (by decide) (fun hc => ?_) (fun hc => ?_)
  · have hf := gif_p hc hf
    refine lv_iload_n (pc := 45) hx hb dX8_leastWorth_45 rfl (lv_at hl 2 rfl) ?_
    exact g_iret (pc := 46) hC hret hlk hH hS hf dX8_leastWorth_46
  · have hf := gif_n hc hf
    refine lv_iload_n (pc := 28) hx hb dX8_leastWorth_28 rfl (lv_at hl 2 rfl) ?_
    refine lv_aload_n (pc := 29) hx hb dX8_leastWorth_29 rfl (lv_at hl 0 rfl) ?_
    refine lv_iload_n (pc := 30) hx hb dX8_leastWorth_30 rfl (lv_at hl 3 rfl) ?_
    refine lv_iload_n (pc := 31) hx hb dX8_leastWorth_31 rfl (lv_at hl 1 rfl) ?_
    obtain ⟨q20_1, hq20_1, hf⟩ := gbd hf
    refine g_callVi (pc := 32) (rest := [.int l2]) hC hU hH hS hl.1 ht rfl (by decide) (mX8_worthOf ht hq20_1) ky_X8_worthOf km_X8_92 ⟨Nat.le_of_ble_eq_true rfl, Nat.le_of_ble_eq_true rfl⟩ ⟨Nat.zero_le _, Nat.zero_le _⟩ rfl (Nat.le_of_ble_eq_true rfl) dX8_leastWorth_32 rfl (fun H locs hH hS => ?_)
    refine va_mmin (pc := 35) hx hb (hml.trans hl.1.symm) hown (hts _ km_X8_96) (hts _ kms_min) (hts _ kmi) (hts _ kmc_min) (Nat.le_of_ble_eq_true rfl) (Nat.le_of_ble_eq_true rfl) (Nat.zero_le _) (Nat.zero_le _) dX8_leastWorth_35 ?_
    refine lv_topi (pc := 38) (fun x38 ex38 => ?_)
    have hf := gl_s ex38 hf
    refine lv_istore_n (lv' := [(2, .int x38), (0, .ref (ad t)), (1, .int a1), (3, .int l3)]) (pc := 38) hx hb dX8_leastWorth_38 rfl hl (by decide) rfl (fun ls hl => ?_)
    refine lv_iinc (v := l3 + 1) (lv' := [(3, .int (l3 + 1)), (2, .int x38), (0, .ref (ad t)), (1, .int a1)]) (k := 3) (pc := 39) hx hb dX8_leastWorth_39 hl rfl rfl (by decide) rfl (fun ls hl => ?_)
    refine lv_goto (tgt := 20) (pc := 42) hx hb dX8_leastWorth_42 (by decide) ?_
    exact hk20 hf hH hS (lv_sub hl [2, 3, 1, 0] rfl)
def hX8_leastWorth_20 (t : Nat) (a1 : Int32)  : Nat → Int32 → Int32 → gS → Option (Int32 × gS)
  | 0 => fun _ _ _ => none
  | n + 1 => fun l2 l3 st => fX8_leastWorth_20 t a1 (hX8_leastWorth_20 t a1 n) l2 l3 st
set_option maxRecDepth 100000 in
set_option maxHeartbeats 4000000 in
theorem wX8_leastWorth_20 {t : Nat} {a1 : Int32} (hC : CallFix p m c cX8_leastWorth 4 s args lw_good RX8) (hret : meth.sig.returnType = (some .int)) (hlk : meth.locks = false) (hU : gU 0 D cA ad s) (ht : gK 0 t = 8) {r : Int32} {st' : gS}  : ∀ (n : Nat) {l2 : Int32} {l3 : Int32} {st : gS} {H : Heap} {locs : List Loc} {ls : Array Slot}, hX8_leastWorth_20 t a1 n l2 l3 st = some (r, st') → gP0 0 D cA ad st H → va_S (gA 0 ad) s.heap H locs → lv_has ls 4 [(0, .ref (ad t)), (1, .int a1), (2, .int l2), (3, .int l3)] → W p l e (gRm 4) s m args below meth c H locs 0 0 (MQ below (gQc 0 D cA ad st' (some (.int r))) args s 0 0 (gA 0 ad)) (F0 m 20 ls []) := by
  intro n
  induction n with
  | zero => intro l2 l3 st H locs ls hf hH hS hl; cases hf
  | succ n ih =>
    intro l2 l3 st H locs ls hf hH hS hl
    exact bX8_leastWorth_20 (t := t) (a1 := a1) hC hret hlk hU ht (fun hf hH hS hl => ih hf hH hS hl) hf hH hS hl
def fX8_leastWorth_17 (t : Nat) (a1 : Int32)  (s0 : Int32) (st : gS) : Option (Int32 × gS) :=
  hX8_leastWorth_20 t a1 FU s0 1 st
set_option maxRecDepth 100000 in
set_option maxHeartbeats 4000000 in
theorem bX8_leastWorth_17 {t : Nat} {a1 : Int32} (hC : CallFix p m c cX8_leastWorth 4 s args lw_good RX8) (hret : meth.sig.returnType = (some .int)) (hlk : meth.locks = false) (hU : gU 0 D cA ad s) (ht : gK 0 t = 8) {r : Int32} {st' : gS}  {s0 : Int32} {st : gS} {H : Heap} {locs : List Loc} {ls : Array Slot} (hf : fX8_leastWorth_17 t a1 s0 st = some (r, st')) (hH : gP0 0 D cA ad st H) (hS : va_S (gA 0 ad) s.heap H locs) (hl : lv_has ls 4 [(0, .ref (ad t)), (1, .int a1)]) : W p l e (gRm 4) s m args below meth c H locs 0 0 (MQ below (gQc 0 D cA ad st' (some (.int r))) args s 0 0 (gA 0 ad)) (F0 m 17 ls [.int s0]) := by
  obtain ⟨hx, hb, hml, hown, hts⟩ := id hC
  unfold fX8_leastWorth_17 at hf
  refine lv_istore_n (lv' := [(2, .int s0), (0, .ref (ad t)), (1, .int a1)]) (pc := 17) hx hb dX8_leastWorth_17 rfl hl (by decide) rfl (fun ls hl => ?_)
  refine lv_iconst (v := 1) (pc := 18) hx hb dX8_leastWorth_18 (by decide) ?_
  refine lv_istore_n (lv' := [(3, .int 1), (2, .int s0), (0, .ref (ad t)), (1, .int a1)]) (pc := 19) hx hb dX8_leastWorth_19 rfl hl (by decide) rfl (fun ls hl => ?_)
  exact wX8_leastWorth_20 hC hret hlk hU ht FU hf hH hS (lv_sub hl [2, 3, 1, 0] rfl)
def fX8_leastWorth (t : Nat) (a1 : Int32)   (st : gS) : Option (Int32 × gS) :=
  if (st.1 t 13) = 0 then (fX8_leastWorth_17 t a1 0 st) else ((fX8_worthOf t 0 a1 st).bind fun q0_1 => (fX8_leastWorth_17 t a1 q0_1.1 q0_1.2))
set_option maxRecDepth 100000 in
set_option maxHeartbeats 4000000 in
theorem bX8_leastWorth_0 {t : Nat} {a1 : Int32} (hC : CallFix p m c cX8_leastWorth 4 s args lw_good RX8) (hret : meth.sig.returnType = (some .int)) (hlk : meth.locks = false) (hU : gU 0 D cA ad s) (ht : gK 0 t = 8) {r : Int32} {st' : gS}   {st : gS} {H : Heap} {locs : List Loc} {ls : Array Slot} (hf : fX8_leastWorth t a1 st = some (r, st')) (hH : gP0 0 D cA ad st H) (hS : va_S (gA 0 ad) s.heap H locs) (hl : lv_has ls 4 [(0, .ref (ad t)), (1, .int a1)]) : W p l e (gRm 4) s m args below meth c H locs 0 0 (MQ below (gQc 0 D cA ad st' (some (.int r))) args s 0 0 (gA 0 ad)) (F0 m 0 ls []) := by
  obtain ⟨hx, hb, hml, hown, hts⟩ := id hC
  unfold fX8_leastWorth at hf
  refine lv_aload_n (pc := 0) hx hb dX8_leastWorth_0 rfl (lv_at hl 0 rfl) ?_
  refine g_get (pc := 1) (v := .int (st.1 t 13)) hC hU hH ht g_cl8 13 (by decide) kf_X8_57 rfl dX8_leastWorth_1 ?_
  refine lv_if_ne (tgt := 11) (pc := 4) hx hb dX8_leastWorth_4 (by decide) (fun hc => ?_) (fun hc => ?_)
  · have hf := gif_n hc hf
    refine lv_aload_n (pc := 11) hx hb dX8_leastWorth_11 rfl (lv_at hl 0 rfl) ?_
    refine lv_iconst (v := 0) (pc := 12) hx hb dX8_leastWorth_12 (by decide) ?_
    refine lv_iload_n (pc := 13) hx hb dX8_leastWorth_13 rfl (lv_at hl 1 rfl) ?_
    obtain ⟨q0_1, hq0_1, hf⟩ := gbd hf
    refine g_callVi (pc := 14) (rest := []) hC hU hH hS hl.1 ht rfl (by decide) (mX8_worthOf ht hq0_1) ky_X8_worthOf km_X8_92 ⟨Nat.le_of_ble_eq_true rfl, Nat.le_of_ble_eq_true rfl⟩ ⟨Nat.zero_le _, Nat.zero_le _⟩ rfl (Nat.le_of_ble_eq_true rfl) dX8_leastWorth_14 rfl (fun H locs hH hS => ?_)
    exact bX8_leastWorth_17 hC hret hlk hU ht hf hH hS (lv_sub hl [0, 1] rfl)
  · have hf := gif_p hc hf
    refine lv_iconst (v := 0) (pc := 7) hx hb dX8_leastWorth_7 (by decide) ?_
    refine lv_goto (tgt := 17) (pc := 8) hx hb dX8_leastWorth_8 (by decide) ?_
    exact bX8_leastWorth_17 hC hret hlk hU ht hf hH hS (lv_sub hl [0, 1] rfl)
set_option maxRecDepth 100000 in
set_option maxHeartbeats 4000000 in
theorem mX8_leastWorth {l : Launch} {D : va_G} {cA : Nat → ClassId} {ad : Nat → Nat} {t : Nat} {a1 : Int32} (ht : gK 0 t = 8) {r : Int32} {st st' : gS} (hf : fX8_leastWorth t a1 st = some (r, st')) : gM l yX8_leastWorth cX8_leastWorth 4 (some .int) 4 0 D cA ad st [.ref (ad t), .int a1] (some (.int r)) st' := by
  refine g_met (by decide) (Nat.le_of_ble_eq_true rfl) ?_
  intro p e s m args below meth c ls hC hret hlk hU hH hl
  exact bX8_leastWorth_0 hC hret hlk hU ht hf hH va_S.rf hl
def fX8_isFairer (t : Nat) (a1 : Int32) (a2 : Int32)   (st : gS) : Option (Int32 × gS) :=
  (fX8_leastWorth t a1 st).bind fun q0_1 => ((fX8_leastWorth t a2 q0_1.2).bind fun q0_2 => (if q0_1.1 = q0_2.1 then ((fX8_worthToAll t a1 q0_2.2).bind fun q0_3 => ((fX8_worthToAll t a2 q0_3.2).bind fun q0_4 => (if q0_3.1 ≤ q0_4.1 then (some (0, q0_4.2)) else (some (1, q0_4.2))))) else (if q0_1.1 ≤ q0_2.1 then (some (0, q0_2.2)) else (some (1, q0_2.2)))))
set_option maxRecDepth 100000 in
set_option maxHeartbeats 4000000 in
theorem bX8_isFairer_0 {t : Nat} {a1 : Int32} {a2 : Int32} (hC : CallFix p m c cX8_isFairer 5 s args lw_good RX8) (hret : meth.sig.returnType = (some .boolean)) (hlk : meth.locks = false) (hU : gU 0 D cA ad s) (ht : gK 0 t = 8) {r : Int32} {st' : gS}   {st : gS} {H : Heap} {locs : List Loc} {ls : Array Slot} (hf : fX8_isFairer t a1 a2 st = some (r, st')) (hH : gP0 0 D cA ad st H) (hS : va_S (gA 0 ad) s.heap H locs) (hl : lv_has ls 5 [(0, .ref (ad t)), (1, .int a1), (2, .int a2)]) : W p l e (gRm 5) s m args below meth c H locs 0 0 (MQ below (gQc 0 D cA ad st' (some (.int r))) args s 0 0 (gA 0 ad)) (F0 m 0 ls []) := by
  obtain ⟨hx, hb, hml, hown, hts⟩ := id hC
  unfold fX8_isFairer at hf
  refine lv_aload_n (pc := 0) hx hb dX8_isFairer_0 rfl (lv_at hl 0 rfl) ?_
  refine lv_iload_n (pc := 1) hx hb dX8_isFairer_1 rfl (lv_at hl 1 rfl) ?_
  obtain ⟨q0_1, hq0_1, hf⟩ := gbd hf
  refine g_callVi (pc := 2) (rest := []) hC hU hH hS hl.1 ht rfl (by decide) (mX8_leastWorth ht hq0_1) ky_X8_leastWorth km_X8_101 ⟨Nat.le_of_ble_eq_true rfl, Nat.le_of_ble_eq_true rfl⟩ ⟨Nat.zero_le _, Nat.zero_le _⟩ rfl (Nat.le_of_ble_eq_true rfl) dX8_isFairer_2 rfl (fun H locs hH hS => ?_)
  refine lv_istore_n (lv' := [(3, .int q0_1.1), (0, .ref (ad t)), (1, .int a1), (2, .int a2)]) (pc := 5) hx hb dX8_isFairer_5 rfl hl (by decide) rfl (fun ls hl => ?_)
  refine lv_aload_n (pc := 6) hx hb dX8_isFairer_6 rfl (lv_at hl 1 rfl) ?_
  refine lv_iload_n (pc := 7) hx hb dX8_isFairer_7 rfl (lv_at hl 3 rfl) ?_
  obtain ⟨q0_2, hq0_2, hf⟩ := gbd hf
  refine g_callVi (pc := 8) (rest := []) hC hU hH hS hl.1 ht rfl (by decide) (mX8_leastWorth ht hq0_2) ky_X8_leastWorth km_X8_101 ⟨Nat.le_of_ble_eq_true rfl, Nat.le_of_ble_eq_true rfl⟩ ⟨Nat.zero_le _, Nat.zero_le _⟩ rfl (Nat.le_of_ble_eq_true rfl) dX8_isFairer_8 rfl (fun H locs hH hS => ?_)
  refine lv_istore (lv' := [(4, .int q0_2.1), (3, .int q0_1.1), (0, .ref (ad t)), (1, .int a1), (2, .int a2)]) (pc := 11) hx hb dX8_isFairer_11 hl (by decide) rfl (fun ls hl => ?_)
  refine lv_iload_n (pc := 13) hx hb dX8_isFairer_13 rfl (lv_at hl 1 rfl) ?_
  refine lv_iload (pc := 14) hx hb dX8_isFairer_14 (lv_at hl 0 rfl) ?_
  refine lv_icmp_eq (tgt := 31) (pc := 16) hx hb dX8_isFairer_16 (by decide) (fun hc => ?_) (fun hc => ?_)
  · have hf := gif_p hc hf
    refine lv_aload_n (pc := 31) hx hb dX8_isFairer_31 rfl (lv_at hl 2 rfl) ?_
    refine lv_iload_n (pc := 32) hx hb dX8_isFairer_32 rfl (lv_at hl 3 rfl) ?_
    obtain ⟨q0_3, hq0_3, hf⟩ := gbd hf
    refine g_callVi (pc := 33) (rest := []) hC hU hH hS hl.1 ht rfl (by decide) (mX8_worthToAll ht hq0_3) ky_X8_worthToAll km_X8_105 ⟨Nat.le_of_ble_eq_true rfl, Nat.le_of_ble_eq_true rfl⟩ ⟨Nat.zero_le _, Nat.zero_le _⟩ rfl (Nat.le_of_ble_eq_true rfl) dX8_isFairer_33 rfl (fun H locs hH hS => ?_)
    refine lv_aload_n (pc := 36) hx hb dX8_isFairer_36 rfl (lv_at hl 2 rfl) ?_
    refine lv_iload_n (pc := 37) hx hb dX8_isFairer_37 rfl (lv_at hl 4 rfl) ?_
    obtain ⟨q0_4, hq0_4, hf⟩ := gbd hf
    refine g_callVi (pc := 38) (rest := [.int q0_3.1]) hC hU hH hS hl.1 ht rfl (by decide) (mX8_worthToAll ht hq0_4) ky_X8_worthToAll km_X8_105 ⟨Nat.le_of_ble_eq_true rfl, Nat.le_of_ble_eq_true rfl⟩ ⟨Nat.zero_le _, Nat.zero_le _⟩ rfl (Nat.le_of_ble_eq_true rfl) dX8_isFairer_38 rfl (fun H locs hH hS => ?_)
    refine lv_icmp_le (tgt := 48) (pc := 41) hx hb dX8_isFairer_41 (by decide) (fun hc => ?_) (fun hc => ?_)
    · have hf := gif_p hc hf
      refine lv_iconst (v := 0) (pc := 48) hx hb dX8_isFairer_48 (by decide) ?_
      exact g_zret (pc := 49) hC hret hlk hH hS (by decide) hf dX8_isFairer_49
    · have hf := gif_n hc hf
      refine lv_iconst (v := 1) (pc := 44) hx hb dX8_isFairer_44 (by decide) ?_
      refine lv_goto (tgt := 49) (pc := 45) hx hb dX8_isFairer_45 (by decide) ?_
      exact g_zret (pc := 49) hC hret hlk hH hS (by decide) hf dX8_isFairer_49
  · have hf := gif_n hc hf
    refine lv_iload_n (pc := 19) hx hb dX8_isFairer_19 rfl (lv_at hl 1 rfl) ?_
    refine lv_iload (pc := 20) hx hb dX8_isFairer_20 (lv_at hl 0 rfl) ?_
    refine lv_icmp_le (tgt := 29) (pc := 22) hx hb dX8_isFairer_22 (by decide) (fun hc => ?_) (fun hc => ?_)
    · have hf := gif_p hc hf
      refine lv_iconst (v := 0) (pc := 29) hx hb dX8_isFairer_29 (by decide) ?_
      exact g_zret (pc := 30) hC hret hlk hH hS (by decide) hf dX8_isFairer_30
    · have hf := gif_n hc hf
      refine lv_iconst (v := 1) (pc := 25) hx hb dX8_isFairer_25 (by decide) ?_
      refine lv_goto (tgt := 30) (pc := 26) hx hb dX8_isFairer_26 (by decide) ?_
      exact g_zret (pc := 30) hC hret hlk hH hS (by decide) hf dX8_isFairer_30
set_option maxRecDepth 100000 in
set_option maxHeartbeats 4000000 in
theorem mX8_isFairer {l : Launch} {D : va_G} {cA : Nat → ClassId} {ad : Nat → Nat} {t : Nat} {a1 : Int32} {a2 : Int32} (ht : gK 0 t = 8) {r : Int32} {st st' : gS} (hf : fX8_isFairer t a1 a2 st = some (r, st')) : gM l yX8_isFairer cX8_isFairer 5 (some .boolean) 5 0 D cA ad st [.ref (ad t), .int a1, .int a2] (some (.int r)) st' := by
  refine g_met (by decide) (Nat.le_of_ble_eq_true rfl) ?_
  intro p e s m args below meth c ls hC hret hlk hU hH hl
  exact bX8_isFairer_0 hC hret hlk hU ht hf hH va_S.rf hl
def fX10_fair_32  (k4 : Int32 → Int32 → gS → Option (Int32 × gS)) (l2 : Int32) (st : gS) : Option (Int32 × gS) :=
  k4 l2 (l2 + 1) st
set_option maxRecDepth 100000 in
set_option maxHeartbeats 4000000 in
theorem bX10_fair_32  (hC : CallFix p m c cX10_fair 3 s args lw_good RX10) (hret : meth.sig.returnType = (some .int)) (hlk : meth.locks = false) (hU : gU 0 D cA ad s)  {r : Int32} {st' : gS} {k4 : Int32 → Int32 → gS → Option (Int32 × gS)} (hk4 : ∀ {l1 : Int32} {l2 : Int32} {st : gS} {H : Heap} {locs : List Loc} {ls : Array Slot}, k4 l1 l2 st = some (r, st') → gP0 0 D cA ad st H → va_S (gA 0 ad) s.heap H locs → lv_has ls 3 [(0, .ref (ad 0)), (1, .int l1), (2, .int l2)] → W p l e (gRm 6) s m args below meth c H locs 0 0 (MQ below (gQc 0 D cA ad st' (some (.int r))) args s 0 0 (gA 0 ad)) (F0 m 4 ls [])) {l2 : Int32} {st : gS} {H : Heap} {locs : List Loc} {ls : Array Slot} (hf : fX10_fair_32 k4 l2 st = some (r, st')) (hH : gP0 0 D cA ad st H) (hS : va_S (gA 0 ad) s.heap H locs) (hl : lv_has ls 3 [(0, .ref (ad 0)), (2, .int l2)]) : W p l e (gRm 6) s m args below meth c H locs 0 0 (MQ below (gQc 0 D cA ad st' (some (.int r))) args s 0 0 (gA 0 ad)) (F0 m 32 ls []) := by
  obtain ⟨hx, hb, hml, hown, hts⟩ := id hC
  unfold fX10_fair_32 at hf
  refine lv_iload_n (pc := 32) hx hb dX10_fair_32 rfl (lv_at hl 1 rfl) ?_
  refine lv_istore_n (lv' := [(1, .int l2), (0, .ref (ad 0)), (2, .int l2)]) (pc := 33) hx hb dX10_fair_33 rfl hl (by decide) rfl (fun ls hl => ?_)
  refine lv_iinc (v := l2 + 1) (lv' := [(2, .int (l2 + 1)), (1, .int l2), (0, .ref (ad 0))]) (k := 2) (pc := 34) hx hb dX10_fair_34 hl rfl rfl (by decide) rfl (fun ls hl => ?_)
  refine lv_goto (tgt := 4) (pc := 37) hx hb dX10_fair_37 (by decide) ?_
  exact hk4 hf hH hS (lv_sub hl [2, 1, 0] rfl)
def fX10_fair_4  (k4 : Int32 → Int32 → gS → Option (Int32 × gS)) (l1 : Int32) (l2 : Int32) (st : gS) : Option (Int32 × gS) :=
  gc (gK 0 (st.2.2 0 9) = 8) (if (st.1 (st.2.2 0 9) 12) ≤ l2 then (some (l1, st)) else (if l1 = (-1) then (fX10_fair_32 k4 l2 st) else (gc (gK 0 (st.2.2 0 9) = 8) ((fX8_isFairer (st.2.2 0 9) l2 l1 st).bind fun q4_1 => (if q4_1.1 = 0 then (k4 l1 (l2 + 1) q4_1.2) else (fX10_fair_32 k4 l2 q4_1.2))))))
set_option maxRecDepth 100000 in
set_option maxHeartbeats 4000000 in
theorem bX10_fair_4  (hC : CallFix p m c cX10_fair 3 s args lw_good RX10) (hret : meth.sig.returnType = (some .int)) (hlk : meth.locks = false) (hU : gU 0 D cA ad s)  {r : Int32} {st' : gS} {k4 : Int32 → Int32 → gS → Option (Int32 × gS)} (hk4 : ∀ {l1 : Int32} {l2 : Int32} {st : gS} {H : Heap} {locs : List Loc} {ls : Array Slot}, k4 l1 l2 st = some (r, st') → gP0 0 D cA ad st H → va_S (gA 0 ad) s.heap H locs → lv_has ls 3 [(0, .ref (ad 0)), (1, .int l1), (2, .int l2)] → W p l e (gRm 6) s m args below meth c H locs 0 0 (MQ below (gQc 0 D cA ad st' (some (.int r))) args s 0 0 (gA 0 ad)) (F0 m 4 ls [])) {l1 : Int32} {l2 : Int32} {st : gS} {H : Heap} {locs : List Loc} {ls : Array Slot} (hf : fX10_fair_4 k4 l1 l2 st = some (r, st')) (hH : gP0 0 D cA ad st H) (hS : va_S (gA 0 ad) s.heap H locs) (hl : lv_has ls 3 [(0, .ref (ad 0)), (1, .int l1), (2, .int l2)]) : W p l e (gRm 6) s m args below meth c H locs 0 0 (MQ below (gQc 0 D cA ad st' (some (.int r))) args s 0 0 (gA 0 ad)) (F0 m 4 ls []) := by
  obtain ⟨hx, hb, hml, hown, hts⟩ := id hC
  unfold fX10_fair_4 at hf
  refine lv_iload_n (pc := 4) hx hb dX10_fair_4 rfl (lv_at hl 2 rfl) ?_
  refine lv_aload_n (pc := 5) hx hb dX10_fair_5 rfl (lv_at hl 0 rfl) ?_
  refine g_get (pc := 6) (v := .ref (ad (st.2.2 0 9))) hC hU hH gk0_0 g_cl10 9 (by decide) kf_X10_71 rfl dX10_fair_6 ?_
  obtain ⟨h4_1, hf⟩ := gc_s hf
  refine g_get (pc := 9) (v := .int (st.1 (st.2.2 0 9) 12)) hC hU hH h4_1 g_cl8 12 (by decide) kf_X10_120 rfl dX10_fair_9 ?_
  refine lv_icmp_ge (tgt := 40) (pc := 12) hx hb dX10_fair_12 (by decide) (fun hc => ?_) (fun hc => ?_)
  · have hf := gif_p hc hf
    refine lv_iload_n (pc := 40) hx hb dX10_fair_40 rfl (lv_at hl 1 rfl) ?_
    exact g_iret (pc := 41) hC hret hlk hH hS hf dX10_fair_41
  · have hf := gif_n hc hf
    refine lv_iload_n (pc := 15) hx hb dX10_fair_15 rfl (lv_at hl 1 rfl) ?_
    refine lv_iconst (v := (-1)) (pc := 16) hx hb dX10_fair_16 (by decide) ?_
    refine lv_icmp_eq (tgt := 32) (pc := 17) hx hb dX10_fair_17 (by decide) (fun hc => ?_) (fun hc => ?_)
    · have hf := gif_p hc hf
      exact bX10_fair_32 hC hret hlk hU hk4 hf hH hS (lv_sub hl [0, 2] rfl)
    · have hf := gif_n hc hf
      refine lv_aload_n (pc := 20) hx hb dX10_fair_20 rfl (lv_at hl 0 rfl) ?_
      refine g_get (pc := 21) (v := .ref (ad (st.2.2 0 9))) hC hU hH gk0_0 g_cl10 9 (by decide) kf_X10_71 rfl dX10_fair_21 ?_
      refine lv_iload_n (pc := 24) hx hb dX10_fair_24 rfl (lv_at hl 2 rfl) ?_
      refine lv_iload_n (pc := 25) hx hb dX10_fair_25 rfl (lv_at hl 1 rfl) ?_
      obtain ⟨h4_2, hf⟩ := gc_s hf
      obtain ⟨q4_1, hq4_1, hf⟩ := gbd hf
      refine g_callVi (pc := 26) (rest := []) hC hU hH hS hl.1 h4_2 rfl (by decide) (mX8_isFairer h4_2 hq4_1) ky_X8_isFairer km_X10_265 ⟨Nat.le_of_ble_eq_true rfl, Nat.le_of_ble_eq_true rfl⟩ ⟨Nat.zero_le _, Nat.zero_le _⟩ rfl (Nat.le_of_ble_eq_true rfl) dX10_fair_26 rfl (fun H locs hH hS => ?_)
      refine lv_if_eq (tgt := 34) (pc := 29) hx hb dX10_fair_29 (by decide) (fun hc => ?_) (fun hc => ?_)
      · have hf := gif_p hc hf
        refine lv_iinc (v := l2 + 1) (lv' := [(2, .int (l2 + 1)), (0, .ref (ad 0)), (1, .int l1)]) (k := 2) (pc := 34) hx hb dX10_fair_34 hl rfl rfl (by decide) rfl (fun ls hl => ?_)
        refine lv_goto (tgt := 4) (pc := 37) hx hb dX10_fair_37 (by decide) ?_
        exact hk4 hf hH hS (lv_sub hl [1, 2, 0] rfl)
      · have hf := gif_n hc hf
        exact bX10_fair_32 hC hret hlk hU hk4 hf hH hS (lv_sub hl [0, 2] rfl)
def hX10_fair_4   : Nat → Int32 → Int32 → gS → Option (Int32 × gS)
  | 0 => fun _ _ _ => none
  | n + 1 => fun l1 l2 st => fX10_fair_4 (hX10_fair_4  n) l1 l2 st
set_option maxRecDepth 100000 in
set_option maxHeartbeats 4000000 in
theorem wX10_fair_4  (hC : CallFix p m c cX10_fair 3 s args lw_good RX10) (hret : meth.sig.returnType = (some .int)) (hlk : meth.locks = false) (hU : gU 0 D cA ad s)  {r : Int32} {st' : gS}  : ∀ (n : Nat) {l1 : Int32} {l2 : Int32} {st : gS} {H : Heap} {locs : List Loc} {ls : Array Slot}, hX10_fair_4  n l1 l2 st = some (r, st') → gP0 0 D cA ad st H → va_S (gA 0 ad) s.heap H locs → lv_has ls 3 [(0, .ref (ad 0)), (1, .int l1), (2, .int l2)] → W p l e (gRm 6) s m args below meth c H locs 0 0 (MQ below (gQc 0 D cA ad st' (some (.int r))) args s 0 0 (gA 0 ad)) (F0 m 4 ls []) := by
  intro n
  induction n with
  | zero => intro l1 l2 st H locs ls hf hH hS hl; cases hf
  | succ n ih =>
    intro l1 l2 st H locs ls hf hH hS hl
    exact bX10_fair_4  hC hret hlk hU (fun hf hH hS hl => ih hf hH hS hl) hf hH hS hl
def fX10_fair    (st : gS) : Option (Int32 × gS) :=
  hX10_fair_4 FU (-1) 0 st
set_option maxRecDepth 100000 in
set_option maxHeartbeats 4000000 in
theorem bX10_fair_0  (hC : CallFix p m c cX10_fair 3 s args lw_good RX10) (hret : meth.sig.returnType = (some .int)) (hlk : meth.locks = false) (hU : gU 0 D cA ad s)  {r : Int32} {st' : gS}   {st : gS} {H : Heap} {locs : List Loc} {ls : Array Slot} (hf : fX10_fair st = some (r, st')) (hH : gP0 0 D cA ad st H) (hS : va_S (gA 0 ad) s.heap H locs) (hl : lv_has ls 3 [(0, .ref (ad 0))]) : W p l e (gRm 6) s m args below meth c H locs 0 0 (MQ below (gQc 0 D cA ad st' (some (.int r))) args s 0 0 (gA 0 ad)) (F0 m 0 ls []) := by
  obtain ⟨hx, hb, hml, hown, hts⟩ := id hC
  unfold fX10_fair at hf
  refine lv_iconst (v := (-1)) (pc := 0) hx hb dX10_fair_0 (by decide) ?_
  refine lv_istore_n (lv' := [(1, .int (-1)), (0, .ref (ad 0))]) (pc := 1) hx hb dX10_fair_1 rfl hl (by decide) rfl (fun ls hl => ?_)
  refine lv_iconst (v := 0) (pc := 2) hx hb dX10_fair_2 (by decide) ?_
  refine lv_istore_n (lv' := [(2, .int 0), (1, .int (-1)), (0, .ref (ad 0))]) (pc := 3) hx hb dX10_fair_3 rfl hl (by decide) rfl (fun ls hl => ?_)
  exact wX10_fair_4 hC hret hlk hU FU hf hH hS (lv_sub hl [2, 1, 0] rfl)
set_option maxRecDepth 100000 in
set_option maxHeartbeats 4000000 in
theorem mX10_fair {l : Launch} {D : va_G} {cA : Nat → ClassId} {ad : Nat → Nat}   {r : Int32} {st st' : gS} (hf : fX10_fair  st = some (r, st')) : gM l yX10_fair cX10_fair 3 (some .int) 6 0 D cA ad st [.ref (ad 0)] (some (.int r)) st' := by
  refine g_met (by decide) (Nat.le_of_ble_eq_true rfl) ?_
  intro p e s m args below meth c ls hC hret hlk hU hH hl
  exact bX10_fair_0 hC hret hlk hU hf hH va_S.rf hl
def fX8_beats_49 (t : Nat) (a1 : Int32) (a2 : Int32) (k5 : Int32 → Int32 → gS → Option (Int32 × gS)) (l4 : Int32) (s0 : Int32) (s1 : Int32) (st : gS) : Option (Int32 × gS) :=
  k5 (s1 ||| s0) (l4 + 1) st
set_option maxRecDepth 100000 in
set_option maxHeartbeats 4000000 in
theorem bX8_beats_49 {t : Nat} {a1 : Int32} {a2 : Int32} (hC : CallFix p m c cX8_beats 6 s args lw_good RX8) (hret : meth.sig.returnType = (some .boolean)) (hlk : meth.locks = false) (hU : gU 0 D cA ad s) (ht : gK 0 t = 8) {r : Int32} {st' : gS} {k5 : Int32 → Int32 → gS → Option (Int32 × gS)} (hk5 : ∀ {l3 : Int32} {l4 : Int32} {st : gS} {H : Heap} {locs : List Loc} {ls : Array Slot}, k5 l3 l4 st = some (r, st') → gP0 0 D cA ad st H → va_S (gA 0 ad) s.heap H locs → lv_has ls 6 [(0, .ref (ad t)), (1, .int a1), (2, .int a2), (3, .int l3), (4, .int l4)] → W p l e (gRm 4) s m args below meth c H locs 0 0 (MQ below (gQc 0 D cA ad st' (some (.int r))) args s 0 0 (gA 0 ad)) (F0 m 5 ls [])) {l4 : Int32} {s0 : Int32} {s1 : Int32} {st : gS} {H : Heap} {locs : List Loc} {ls : Array Slot} (hf : fX8_beats_49 t a1 a2 k5 l4 s0 s1 st = some (r, st')) (hH : gP0 0 D cA ad st H) (hS : va_S (gA 0 ad) s.heap H locs) (hl : lv_has ls 6 [(0, .ref (ad t)), (1, .int a1), (2, .int a2), (4, .int l4)]) : W p l e (gRm 4) s m args below meth c H locs 0 0 (MQ below (gQc 0 D cA ad st' (some (.int r))) args s 0 0 (gA 0 ad)) (F0 m 49 ls [.int s0, .int s1]) := by
  obtain ⟨hx, hb, hml, hown, hts⟩ := id hC
  unfold fX8_beats_49 at hf
  refine lv_ior (pc := 49) hx hb dX8_beats_49 ?_
  refine lv_istore_n (lv' := [(3, .int (s1 ||| s0)), (0, .ref (ad t)), (1, .int a1), (2, .int a2), (4, .int l4)]) (pc := 50) hx hb dX8_beats_50 rfl hl (by decide) rfl (fun ls hl => ?_)
  refine lv_iinc (v := l4 + 1) (lv' := [(4, .int (l4 + 1)), (3, .int (s1 ||| s0)), (0, .ref (ad t)), (1, .int a1), (2, .int a2)]) (k := 4) (pc := 51) hx hb dX8_beats_51 hl rfl rfl (by decide) rfl (fun ls hl => ?_)
  refine lv_goto (tgt := 5) (pc := 54) hx hb dX8_beats_54 (by decide) ?_
  exact hk5 hf hH hS (lv_sub hl [2, 3, 4, 1, 0] rfl)
def fX8_beats_5 (t : Nat) (a1 : Int32) (a2 : Int32) (k5 : Int32 → Int32 → gS → Option (Int32 × gS)) (l3 : Int32) (l4 : Int32) (st : gS) : Option (Int32 × gS) :=
  if (st.1 t 13) ≤ l4 then (gc (gB l3) (some (l3, st))) else ((fX8_worthOf t l4 a1 st).bind fun q5_1 => ((fX8_worthOf t l4 a2 q5_1.2).bind fun q5_2 => (gl (q5_1.1 - q5_2.1) fun x29 => (if 0 ≤ x29 then (if x29 ≤ 0 then (fX8_beats_49 t a1 a2 k5 l4 0 l3 q5_2.2) else (fX8_beats_49 t a1 a2 k5 l4 1 l3 q5_2.2)) else (some (0, q5_2.2))))))
set_option maxRecDepth 100000 in
set_option maxHeartbeats 4000000 in
theorem bX8_beats_5 {t : Nat} {a1 : Int32} {a2 : Int32} (hC : CallFix p m c cX8_beats 6 s args lw_good RX8) (hret : meth.sig.returnType = (some .boolean)) (hlk : meth.locks = false) (hU : gU 0 D cA ad s) (ht : gK 0 t = 8) {r : Int32} {st' : gS} {k5 : Int32 → Int32 → gS → Option (Int32 × gS)} (hk5 : ∀ {l3 : Int32} {l4 : Int32} {st : gS} {H : Heap} {locs : List Loc} {ls : Array Slot}, k5 l3 l4 st = some (r, st') → gP0 0 D cA ad st H → va_S (gA 0 ad) s.heap H locs → lv_has ls 6 [(0, .ref (ad t)), (1, .int a1), (2, .int a2), (3, .int l3), (4, .int l4)] → W p l e (gRm 4) s m args below meth c H locs 0 0 (MQ below (gQc 0 D cA ad st' (some (.int r))) args s 0 0 (gA 0 ad)) (F0 m 5 ls [])) {l3 : Int32} {l4 : Int32} {st : gS} {H : Heap} {locs : List Loc} {ls : Array Slot} (hf : fX8_beats_5 t a1 a2 k5 l3 l4 st = some (r, st')) (hH : gP0 0 D cA ad st H) (hS : va_S (gA 0 ad) s.heap H locs) (hl : lv_has ls 6 [(0, .ref (ad t)), (1, .int a1), (2, .int a2), (3, .int l3), (4, .int l4)]) : W p l e (gRm 4) s m args below meth c H locs 0 0 (MQ below (gQc 0 D cA ad st' (some (.int r))) args s 0 0 (gA 0 ad)) (F0 m 5 ls []) := by
  obtain ⟨hx, hb, hml, hown, hts⟩ := id hC
  unfold fX8_beats_5 at hf
  refine lv_iload (pc := 5) hx hb dX8_beats_5 (lv_at hl 4 rfl) ?_
  refine lv_aload_n (pc := 7) hx hb dX8_beats_7 rfl (lv_at hl 0 rfl) ?_
  refine g_get (pc := 8) (v := .int (st.1 t 13)) hC hU hH ht g_cl8 13 (by decide) kf_X8_57 rfl dX8_beats_8 ?_
  refine lv_icmp_ge (tgt := 57) (pc := 11) hx hb dX8_beats_11 (by decide) (fun hc => ?_) (fun hc => ?_)
  · have hf := gif_p hc hf
    refine lv_iload_n (pc := 57) hx hb dX8_beats_57 rfl (lv_at hl 3 rfl) ?_
    obtain ⟨h5_1, hf⟩ := gc_s hf
    exact g_zret (pc := 58) hC hret hlk hH hS h5_1 hf dX8_beats_58
  · have hf := gif_n hc hf
    refine lv_aload_n (pc := 14) hx hb dX8_beats_14 rfl (lv_at hl 0 rfl) ?_
    refine lv_iload (pc := 15) hx hb dX8_beats_15 (lv_at hl 4 rfl) ?_
    refine lv_iload_n (pc := 17) hx hb dX8_beats_17 rfl (lv_at hl 1 rfl) ?_
    obtain ⟨q5_1, hq5_1, hf⟩ := gbd hf
    refine g_callVi (pc := 18) (rest := []) hC hU hH hS hl.1 ht rfl (by decide) (mX8_worthOf ht hq5_1) ky_X8_worthOf km_X8_92 ⟨Nat.le_of_ble_eq_true rfl, Nat.le_of_ble_eq_true rfl⟩ ⟨Nat.zero_le _, Nat.zero_le _⟩ rfl (Nat.le_of_ble_eq_true rfl) dX8_beats_18 rfl (fun H locs hH hS => ?_)
    refine lv_aload_n (pc := 21) hx hb dX8_beats_21 rfl (lv_at hl 0 rfl) ?_
    refine lv_iload (pc := 22) hx hb dX8_beats_22 (lv_at hl 4 rfl) ?_
    refine lv_iload_n (pc := 24) hx hb dX8_beats_24 rfl (lv_at hl 2 rfl) ?_
    obtain ⟨q5_2, hq5_2, hf⟩ := gbd hf
    refine g_callVi (pc := 25) (rest := [.int q5_1.1]) hC hU hH hS hl.1 ht rfl (by decide) (mX8_worthOf ht hq5_2) ky_X8_worthOf km_X8_92 ⟨Nat.le_of_ble_eq_true rfl, Nat.le_of_ble_eq_true rfl⟩ ⟨Nat.zero_le _, Nat.zero_le _⟩ rfl (Nat.le_of_ble_eq_true rfl) dX8_beats_25 rfl (fun H locs hH hS => ?_)
    refine lv_isub (pc := 28) hx hb dX8_beats_28 ?_
    refine lv_topi (pc := 29) (fun x29 ex29 => ?_)
    have hf := gl_s ex29 hf
    refine lv_istore (lv' := [(5, .int x29), (0, .ref (ad t)), (1, .int a1), (2, .int a2), (3, .int l3), (4, .int l4)]) (pc := 29) hx hb dX8_beats_29 hl (by decide) rfl (fun ls hl => ?_)
    refine lv_iload (pc := 31) hx hb dX8_beats_31 (lv_at hl 0 rfl) ?_
    refine lv_if_ge (tgt := 38) (pc := 33) hx hb dX8_beats_33 (by decide) (fun hc => ?_) (fun hc => ?_)
    · have hf := gif_p hc hf
      refine lv_iload_n (pc := 38) hx hb dX8_beats_38 rfl (lv_at hl 4 rfl) ?_
      refine lv_iload (pc := 39) hx hb dX8_beats_39 (lv_at hl 0 rfl) ?_
      refine lv_if_le (tgt := 48) (pc := 41) hx hb dX8_beats_41 (by decide) (fun hc => ?_) (fun hc => ?_)
      · have hf := gif_p hc hf
        refine lv_iconst (v := 0) (pc := 48) hx hb dX8_beats_48 (by decide) ?_
        exact bX8_beats_49 hC hret hlk hU ht hk5 hf hH hS (lv_sub hl [1, 2, 3, 5] rfl)
      · have hf := gif_n hc hf
        refine lv_iconst (v := 1) (pc := 44) hx hb dX8_beats_44 (by decide) ?_
        refine lv_goto (tgt := 49) (pc := 45) hx hb dX8_beats_45 (by decide) ?_
        exact bX8_beats_49 hC hret hlk hU ht hk5 hf hH hS (lv_sub hl [1, 2, 3, 5] rfl)
    · have hf := gif_n hc hf
      refine lv_iconst (v := 0) (pc := 36) hx hb dX8_beats_36 (by decide) ?_
      exact g_zret (pc := 37) hC hret hlk hH hS (by decide) hf dX8_beats_37
def hX8_beats_5 (t : Nat) (a1 : Int32) (a2 : Int32)  : Nat → Int32 → Int32 → gS → Option (Int32 × gS)
  | 0 => fun _ _ _ => none
  | n + 1 => fun l3 l4 st => fX8_beats_5 t a1 a2 (hX8_beats_5 t a1 a2 n) l3 l4 st
set_option maxRecDepth 100000 in
set_option maxHeartbeats 4000000 in
theorem wX8_beats_5 {t : Nat} {a1 : Int32} {a2 : Int32} (hC : CallFix p m c cX8_beats 6 s args lw_good RX8) (hret : meth.sig.returnType = (some .boolean)) (hlk : meth.locks = false) (hU : gU 0 D cA ad s) (ht : gK 0 t = 8) {r : Int32} {st' : gS}  : ∀ (n : Nat) {l3 : Int32} {l4 : Int32} {st : gS} {H : Heap} {locs : List Loc} {ls : Array Slot}, hX8_beats_5 t a1 a2 n l3 l4 st = some (r, st') → gP0 0 D cA ad st H → va_S (gA 0 ad) s.heap H locs → lv_has ls 6 [(0, .ref (ad t)), (1, .int a1), (2, .int a2), (3, .int l3), (4, .int l4)] → W p l e (gRm 4) s m args below meth c H locs 0 0 (MQ below (gQc 0 D cA ad st' (some (.int r))) args s 0 0 (gA 0 ad)) (F0 m 5 ls []) := by
  intro n
  induction n with
  | zero => intro l3 l4 st H locs ls hf hH hS hl; cases hf
  | succ n ih =>
    intro l3 l4 st H locs ls hf hH hS hl
    exact bX8_beats_5 (t := t) (a1 := a1) (a2 := a2) hC hret hlk hU ht (fun hf hH hS hl => ih hf hH hS hl) hf hH hS hl
def fX8_beats (t : Nat) (a1 : Int32) (a2 : Int32)   (st : gS) : Option (Int32 × gS) :=
  hX8_beats_5 t a1 a2 FU 0 0 st
set_option maxRecDepth 100000 in
set_option maxHeartbeats 4000000 in
theorem bX8_beats_0 {t : Nat} {a1 : Int32} {a2 : Int32} (hC : CallFix p m c cX8_beats 6 s args lw_good RX8) (hret : meth.sig.returnType = (some .boolean)) (hlk : meth.locks = false) (hU : gU 0 D cA ad s) (ht : gK 0 t = 8) {r : Int32} {st' : gS}   {st : gS} {H : Heap} {locs : List Loc} {ls : Array Slot} (hf : fX8_beats t a1 a2 st = some (r, st')) (hH : gP0 0 D cA ad st H) (hS : va_S (gA 0 ad) s.heap H locs) (hl : lv_has ls 6 [(0, .ref (ad t)), (1, .int a1), (2, .int a2)]) : W p l e (gRm 4) s m args below meth c H locs 0 0 (MQ below (gQc 0 D cA ad st' (some (.int r))) args s 0 0 (gA 0 ad)) (F0 m 0 ls []) := by
  obtain ⟨hx, hb, hml, hown, hts⟩ := id hC
  unfold fX8_beats at hf
  refine lv_iconst (v := 0) (pc := 0) hx hb dX8_beats_0 (by decide) ?_
  refine lv_istore_n (lv' := [(3, .int 0), (0, .ref (ad t)), (1, .int a1), (2, .int a2)]) (pc := 1) hx hb dX8_beats_1 rfl hl (by decide) rfl (fun ls hl => ?_)
  refine lv_iconst (v := 0) (pc := 2) hx hb dX8_beats_2 (by decide) ?_
  refine lv_istore (lv' := [(4, .int 0), (3, .int 0), (0, .ref (ad t)), (1, .int a1), (2, .int a2)]) (pc := 3) hx hb dX8_beats_3 hl (by decide) rfl (fun ls hl => ?_)
  exact wX8_beats_5 hC hret hlk hU ht FU hf hH hS (lv_sub hl [2, 3, 4, 1, 0] rfl)
set_option maxRecDepth 100000 in
set_option maxHeartbeats 4000000 in
theorem mX8_beats {l : Launch} {D : va_G} {cA : Nat → ClassId} {ad : Nat → Nat} {t : Nat} {a1 : Int32} {a2 : Int32} (ht : gK 0 t = 8) {r : Int32} {st st' : gS} (hf : fX8_beats t a1 a2 st = some (r, st')) : gM l yX8_beats cX8_beats 6 (some .boolean) 4 0 D cA ad st [.ref (ad t), .int a1, .int a2] (some (.int r)) st' := by
  refine g_met (by decide) (Nat.le_of_ble_eq_true rfl) ?_
  intro p e s m args below meth c ls hC hret hlk hU hH hl
  exact bX8_beats_0 hC hret hlk hU ht hf hH va_S.rf hl
def fX8_isBeaten_2 (t : Nat) (a1 : Int32) (k2 : Int32 → gS → Option (Int32 × gS)) (l2 : Int32) (st : gS) : Option (Int32 × gS) :=
  if (st.1 t 12) ≤ l2 then (some (0, st)) else ((fX8_beats t l2 a1 st).bind fun q2_1 => (if q2_1.1 = 0 then (k2 (l2 + 1) q2_1.2) else (some (1, q2_1.2))))
set_option maxRecDepth 100000 in
set_option maxHeartbeats 4000000 in
theorem bX8_isBeaten_2 {t : Nat} {a1 : Int32} (hC : CallFix p m c cX8_isBeaten 3 s args lw_good RX8) (hret : meth.sig.returnType = (some .boolean)) (hlk : meth.locks = false) (hU : gU 0 D cA ad s) (ht : gK 0 t = 8) {r : Int32} {st' : gS} {k2 : Int32 → gS → Option (Int32 × gS)} (hk2 : ∀ {l2 : Int32} {st : gS} {H : Heap} {locs : List Loc} {ls : Array Slot}, k2 l2 st = some (r, st') → gP0 0 D cA ad st H → va_S (gA 0 ad) s.heap H locs → lv_has ls 3 [(0, .ref (ad t)), (1, .int a1), (2, .int l2)] → W p l e (gRm 5) s m args below meth c H locs 0 0 (MQ below (gQc 0 D cA ad st' (some (.int r))) args s 0 0 (gA 0 ad)) (F0 m 2 ls [])) {l2 : Int32} {st : gS} {H : Heap} {locs : List Loc} {ls : Array Slot} (hf : fX8_isBeaten_2 t a1 k2 l2 st = some (r, st')) (hH : gP0 0 D cA ad st H) (hS : va_S (gA 0 ad) s.heap H locs) (hl : lv_has ls 3 [(0, .ref (ad t)), (1, .int a1), (2, .int l2)]) : W p l e (gRm 5) s m args below meth c H locs 0 0 (MQ below (gQc 0 D cA ad st' (some (.int r))) args s 0 0 (gA 0 ad)) (F0 m 2 ls []) := by
  obtain ⟨hx, hb, hml, hown, hts⟩ := id hC
  unfold fX8_isBeaten_2 at hf
  refine lv_iload_n (pc := 2) hx hb dX8_isBeaten_2 rfl (lv_at hl 2 rfl) ?_
  refine lv_aload_n (pc := 3) hx hb dX8_isBeaten_3 rfl (lv_at hl 0 rfl) ?_
  refine g_get (pc := 4) (v := .int (st.1 t 12)) hC hU hH ht g_cl8 12 (by decide) kf_X8_53 rfl dX8_isBeaten_4 ?_
  refine lv_icmp_ge (tgt := 27) (pc := 7) hx hb dX8_isBeaten_7 (by decide) (fun hc => ?_) (fun hc => ?_)
  · have hf := gif_p hc hf
    refine lv_iconst (v := 0) (pc := 27) hx hb dX8_isBeaten_27 (by decide) ?_
    exact g_zret (pc := 28) hC hret hlk hH hS (by decide) hf dX8_isBeaten_28
  · have hf := gif_n hc hf
    refine lv_aload_n (pc := 10) hx hb dX8_isBeaten_10 rfl (lv_at hl 0 rfl) ?_
    refine lv_iload_n (pc := 11) hx hb dX8_isBeaten_11 rfl (lv_at hl 2 rfl) ?_
    refine lv_iload_n (pc := 12) hx hb dX8_isBeaten_12 rfl (lv_at hl 1 rfl) ?_
    obtain ⟨q2_1, hq2_1, hf⟩ := gbd hf
    refine g_callVi (pc := 13) (rest := []) hC hU hH hS hl.1 ht rfl (by decide) (mX8_beats ht hq2_1) ky_X8_beats km_X8_108 ⟨Nat.le_of_ble_eq_true rfl, Nat.le_of_ble_eq_true rfl⟩ ⟨Nat.zero_le _, Nat.zero_le _⟩ rfl (Nat.le_of_ble_eq_true rfl) dX8_isBeaten_13 rfl (fun H locs hH hS => ?_)
    refine lv_if_eq (tgt := 21) (pc := 16) hx hb dX8_isBeaten_16 (by decide) (fun hc => ?_) (fun hc => ?_)
    · have hf := gif_p hc hf
      refine lv_iinc (v := l2 + 1) (lv' := [(2, .int (l2 + 1)), (0, .ref (ad t)), (1, .int a1)]) (k := 2) (pc := 21) hx hb dX8_isBeaten_21 hl rfl rfl (by decide) rfl (fun ls hl => ?_)
      refine lv_goto (tgt := 2) (pc := 24) hx hb dX8_isBeaten_24 (by decide) ?_
      exact hk2 hf hH hS (lv_sub hl [1, 2, 0] rfl)
    · have hf := gif_n hc hf
      refine lv_iconst (v := 1) (pc := 19) hx hb dX8_isBeaten_19 (by decide) ?_
      exact g_zret (pc := 20) hC hret hlk hH hS (by decide) hf dX8_isBeaten_20
def hX8_isBeaten_2 (t : Nat) (a1 : Int32)  : Nat → Int32 → gS → Option (Int32 × gS)
  | 0 => fun _ _ => none
  | n + 1 => fun l2 st => fX8_isBeaten_2 t a1 (hX8_isBeaten_2 t a1 n) l2 st
set_option maxRecDepth 100000 in
set_option maxHeartbeats 4000000 in
theorem wX8_isBeaten_2 {t : Nat} {a1 : Int32} (hC : CallFix p m c cX8_isBeaten 3 s args lw_good RX8) (hret : meth.sig.returnType = (some .boolean)) (hlk : meth.locks = false) (hU : gU 0 D cA ad s) (ht : gK 0 t = 8) {r : Int32} {st' : gS}  : ∀ (n : Nat) {l2 : Int32} {st : gS} {H : Heap} {locs : List Loc} {ls : Array Slot}, hX8_isBeaten_2 t a1 n l2 st = some (r, st') → gP0 0 D cA ad st H → va_S (gA 0 ad) s.heap H locs → lv_has ls 3 [(0, .ref (ad t)), (1, .int a1), (2, .int l2)] → W p l e (gRm 5) s m args below meth c H locs 0 0 (MQ below (gQc 0 D cA ad st' (some (.int r))) args s 0 0 (gA 0 ad)) (F0 m 2 ls []) := by
  intro n
  induction n with
  | zero => intro l2 st H locs ls hf hH hS hl; cases hf
  | succ n ih =>
    intro l2 st H locs ls hf hH hS hl
    exact bX8_isBeaten_2 (t := t) (a1 := a1) hC hret hlk hU ht (fun hf hH hS hl => ih hf hH hS hl) hf hH hS hl
def fX8_isBeaten (t : Nat) (a1 : Int32)   (st : gS) : Option (Int32 × gS) :=
  hX8_isBeaten_2 t a1 FU 0 st
set_option maxRecDepth 100000 in
set_option maxHeartbeats 4000000 in
theorem bX8_isBeaten_0 {t : Nat} {a1 : Int32} (hC : CallFix p m c cX8_isBeaten 3 s args lw_good RX8) (hret : meth.sig.returnType = (some .boolean)) (hlk : meth.locks = false) (hU : gU 0 D cA ad s) (ht : gK 0 t = 8) {r : Int32} {st' : gS}   {st : gS} {H : Heap} {locs : List Loc} {ls : Array Slot} (hf : fX8_isBeaten t a1 st = some (r, st')) (hH : gP0 0 D cA ad st H) (hS : va_S (gA 0 ad) s.heap H locs) (hl : lv_has ls 3 [(0, .ref (ad t)), (1, .int a1)]) : W p l e (gRm 5) s m args below meth c H locs 0 0 (MQ below (gQc 0 D cA ad st' (some (.int r))) args s 0 0 (gA 0 ad)) (F0 m 0 ls []) := by
  obtain ⟨hx, hb, hml, hown, hts⟩ := id hC
  unfold fX8_isBeaten at hf
  refine lv_iconst (v := 0) (pc := 0) hx hb dX8_isBeaten_0 (by decide) ?_
  refine lv_istore_n (lv' := [(2, .int 0), (0, .ref (ad t)), (1, .int a1)]) (pc := 1) hx hb dX8_isBeaten_1 rfl hl (by decide) rfl (fun ls hl => ?_)
  exact wX8_isBeaten_2 hC hret hlk hU ht FU hf hH hS (lv_sub hl [1, 2, 0] rfl)
set_option maxRecDepth 100000 in
set_option maxHeartbeats 4000000 in
theorem mX8_isBeaten {l : Launch} {D : va_G} {cA : Nat → ClassId} {ad : Nat → Nat} {t : Nat} {a1 : Int32} (ht : gK 0 t = 8) {r : Int32} {st st' : gS} (hf : fX8_isBeaten t a1 st = some (r, st')) : gM l yX8_isBeaten cX8_isBeaten 3 (some .boolean) 5 0 D cA ad st [.ref (ad t), .int a1] (some (.int r)) st' := by
  refine g_met (by decide) (Nat.le_of_ble_eq_true rfl) ?_
  intro p e s m args below meth c ls hC hret hlk hU hH hl
  exact bX8_isBeaten_0 hC hret hlk hU ht hf hH va_S.rf hl
def fX10_good_4  (k4 : Int32 → Int32 → gS → Option (Int32 × gS)) (l1 : Int32) (l2 : Int32) (st : gS) : Option (Int32 × gS) :=
  gc (gK 0 (st.2.2 0 9) = 8) (if (st.1 (st.2.2 0 9) 12) ≤ l2 then (some (l1, st)) else (gc (gK 0 (st.2.2 0 9) = 8) ((fX8_isBeaten (st.2.2 0 9) l2 st).bind fun q4_1 => (if q4_1.1 = 0 then (gl (l1 ||| (1 <<< (l2 &&& 31))) fun x31 => (k4 x31 (l2 + 1) q4_1.2)) else (k4 l1 (l2 + 1) q4_1.2)))))
set_option maxRecDepth 100000 in
set_option maxHeartbeats 4000000 in
theorem bX10_good_4  (hC : CallFix p m c cX10_good 3 s args lw_good RX10) (hret : meth.sig.returnType = (some .int)) (hlk : meth.locks = false) (hU : gU 0 D cA ad s)  {r : Int32} {st' : gS} {k4 : Int32 → Int32 → gS → Option (Int32 × gS)} (hk4 : ∀ {l1 : Int32} {l2 : Int32} {st : gS} {H : Heap} {locs : List Loc} {ls : Array Slot}, k4 l1 l2 st = some (r, st') → gP0 0 D cA ad st H → va_S (gA 0 ad) s.heap H locs → lv_has ls 3 [(0, .ref (ad 0)), (1, .int l1), (2, .int l2)] → W p l e (gRm 6) s m args below meth c H locs 0 0 (MQ below (gQc 0 D cA ad st' (some (.int r))) args s 0 0 (gA 0 ad)) (F0 m 4 ls [])) {l1 : Int32} {l2 : Int32} {st : gS} {H : Heap} {locs : List Loc} {ls : Array Slot} (hf : fX10_good_4 k4 l1 l2 st = some (r, st')) (hH : gP0 0 D cA ad st H) (hS : va_S (gA 0 ad) s.heap H locs) (hl : lv_has ls 3 [(0, .ref (ad 0)), (1, .int l1), (2, .int l2)]) : W p l e (gRm 6) s m args below meth c H locs 0 0 (MQ below (gQc 0 D cA ad st' (some (.int r))) args s 0 0 (gA 0 ad)) (F0 m 4 ls []) := by
  obtain ⟨hx, hb, hml, hown, hts⟩ := id hC
  unfold fX10_good_4 at hf
  refine lv_iload_n (pc := 4) hx hb dX10_good_4 rfl (lv_at hl 2 rfl) ?_
  refine lv_aload_n (pc := 5) hx hb dX10_good_5 rfl (lv_at hl 0 rfl) ?_
  refine g_get (pc := 6) (v := .ref (ad (st.2.2 0 9))) hC hU hH gk0_0 g_cl10 9 (by decide) kf_X10_71 rfl dX10_good_6 ?_
  obtain ⟨h4_1, hf⟩ := gc_s hf
  refine g_get (pc := 9) (v := .int (st.1 (st.2.2 0 9) 12)) hC hU hH h4_1 g_cl8 12 (by decide) kf_X10_120 rfl dX10_good_9 ?_
  refine lv_icmp_ge (tgt := 38) (pc := 12) hx hb dX10_good_12 (by decide) (fun hc => ?_) (fun hc => ?_)
  · have hf := gif_p hc hf
    refine lv_iload_n (pc := 38) hx hb dX10_good_38 rfl (lv_at hl 1 rfl) ?_
    exact g_iret (pc := 39) hC hret hlk hH hS hf dX10_good_39
  · have hf := gif_n hc hf
    refine lv_aload_n (pc := 15) hx hb dX10_good_15 rfl (lv_at hl 0 rfl) ?_
    refine g_get (pc := 16) (v := .ref (ad (st.2.2 0 9))) hC hU hH gk0_0 g_cl10 9 (by decide) kf_X10_71 rfl dX10_good_16 ?_
    refine lv_iload_n (pc := 19) hx hb dX10_good_19 rfl (lv_at hl 2 rfl) ?_
    obtain ⟨h4_2, hf⟩ := gc_s hf
    obtain ⟨q4_1, hq4_1, hf⟩ := gbd hf
    refine g_callVi (pc := 20) (rest := []) hC hU hH hS hl.1 h4_2 rfl (by decide) (mX8_isBeaten h4_2 hq4_1) ky_X8_isBeaten km_X10_268 ⟨Nat.le_of_ble_eq_true rfl, Nat.le_of_ble_eq_true rfl⟩ ⟨Nat.zero_le _, Nat.zero_le _⟩ rfl (Nat.le_of_ble_eq_true rfl) dX10_good_20 rfl (fun H locs hH hS => ?_)
    refine lv_if_ne (tgt := 32) (pc := 23) hx hb dX10_good_23 (by decide) (fun hc => ?_) (fun hc => ?_)
    · have hf := gif_n hc hf
      refine lv_iinc (v := l2 + 1) (lv' := [(2, .int (l2 + 1)), (0, .ref (ad 0)), (1, .int l1)]) (k := 2) (pc := 32) hx hb dX10_good_32 hl rfl rfl (by decide) rfl (fun ls hl => ?_)
      refine lv_goto (tgt := 4) (pc := 35) hx hb dX10_good_35 (by decide) ?_
      exact hk4 hf hH hS (lv_sub hl [1, 2, 0] rfl)
    · have hf := gif_p hc hf
      refine lv_iload_n (pc := 26) hx hb dX10_good_26 rfl (lv_at hl 1 rfl) ?_
      refine lv_iconst (v := 1) (pc := 27) hx hb dX10_good_27 (by decide) ?_
      refine lv_iload_n (pc := 28) hx hb dX10_good_28 rfl (lv_at hl 2 rfl) ?_
      refine lv_ishl (pc := 29) hx hb dX10_good_29 ?_
      refine lv_ior (pc := 30) hx hb dX10_good_30 ?_
      refine lv_topi (pc := 31) (fun x31 ex31 => ?_)
      have hf := gl_s ex31 hf
      refine lv_istore_n (lv' := [(1, .int x31), (0, .ref (ad 0)), (2, .int l2)]) (pc := 31) hx hb dX10_good_31 rfl hl (by decide) rfl (fun ls hl => ?_)
      refine lv_iinc (v := l2 + 1) (lv' := [(2, .int (l2 + 1)), (1, .int x31), (0, .ref (ad 0))]) (k := 2) (pc := 32) hx hb dX10_good_32 hl rfl rfl (by decide) rfl (fun ls hl => ?_)
      refine lv_goto (tgt := 4) (pc := 35) hx hb dX10_good_35 (by decide) ?_
      exact hk4 hf hH hS (lv_sub hl [2, 1, 0] rfl)
def hX10_good_4   : Nat → Int32 → Int32 → gS → Option (Int32 × gS)
  | 0 => fun _ _ _ => none
  | n + 1 => fun l1 l2 st => fX10_good_4 (hX10_good_4  n) l1 l2 st
set_option maxRecDepth 100000 in
set_option maxHeartbeats 4000000 in
theorem wX10_good_4  (hC : CallFix p m c cX10_good 3 s args lw_good RX10) (hret : meth.sig.returnType = (some .int)) (hlk : meth.locks = false) (hU : gU 0 D cA ad s)  {r : Int32} {st' : gS}  : ∀ (n : Nat) {l1 : Int32} {l2 : Int32} {st : gS} {H : Heap} {locs : List Loc} {ls : Array Slot}, hX10_good_4  n l1 l2 st = some (r, st') → gP0 0 D cA ad st H → va_S (gA 0 ad) s.heap H locs → lv_has ls 3 [(0, .ref (ad 0)), (1, .int l1), (2, .int l2)] → W p l e (gRm 6) s m args below meth c H locs 0 0 (MQ below (gQc 0 D cA ad st' (some (.int r))) args s 0 0 (gA 0 ad)) (F0 m 4 ls []) := by
  intro n
  induction n with
  | zero => intro l1 l2 st H locs ls hf hH hS hl; cases hf
  | succ n ih =>
    intro l1 l2 st H locs ls hf hH hS hl
    exact bX10_good_4  hC hret hlk hU (fun hf hH hS hl => ih hf hH hS hl) hf hH hS hl
def fX10_good    (st : gS) : Option (Int32 × gS) :=
  hX10_good_4 FU 0 0 st
set_option maxRecDepth 100000 in
set_option maxHeartbeats 4000000 in
theorem bX10_good_0  (hC : CallFix p m c cX10_good 3 s args lw_good RX10) (hret : meth.sig.returnType = (some .int)) (hlk : meth.locks = false) (hU : gU 0 D cA ad s)  {r : Int32} {st' : gS}   {st : gS} {H : Heap} {locs : List Loc} {ls : Array Slot} (hf : fX10_good st = some (r, st')) (hH : gP0 0 D cA ad st H) (hS : va_S (gA 0 ad) s.heap H locs) (hl : lv_has ls 3 [(0, .ref (ad 0))]) : W p l e (gRm 6) s m args below meth c H locs 0 0 (MQ below (gQc 0 D cA ad st' (some (.int r))) args s 0 0 (gA 0 ad)) (F0 m 0 ls []) := by
  obtain ⟨hx, hb, hml, hown, hts⟩ := id hC
  unfold fX10_good at hf
  refine lv_iconst (v := 0) (pc := 0) hx hb dX10_good_0 (by decide) ?_
  refine lv_istore_n (lv' := [(1, .int 0), (0, .ref (ad 0))]) (pc := 1) hx hb dX10_good_1 rfl hl (by decide) rfl (fun ls hl => ?_)
  refine lv_iconst (v := 0) (pc := 2) hx hb dX10_good_2 (by decide) ?_
  refine lv_istore_n (lv' := [(2, .int 0), (1, .int 0), (0, .ref (ad 0))]) (pc := 3) hx hb dX10_good_3 rfl hl (by decide) rfl (fun ls hl => ?_)
  exact wX10_good_4 hC hret hlk hU FU hf hH hS (lv_sub hl [2, 1, 0] rfl)
set_option maxRecDepth 100000 in
set_option maxHeartbeats 4000000 in
theorem mX10_good {l : Launch} {D : va_G} {cA : Nat → ClassId} {ad : Nat → Nat}   {r : Int32} {st st' : gS} (hf : fX10_good  st = some (r, st')) : gM l yX10_good cX10_good 3 (some .int) 6 0 D cA ad st [.ref (ad 0)] (some (.int r)) st' := by
  refine g_met (by decide) (Nat.le_of_ble_eq_true rfl) ?_
  intro p e s m args below meth c ls hC hret hlk hU hH hl
  exact bX10_good_0 hC hret hlk hU hf hH va_S.rf hl
def fX8_ableAny_4 (t : Nat) (k4 : Int32 → Int32 → gS → Option (Int32 × gS)) (l1 : Int32) (l2 : Int32) (st : gS) : Option (Int32 × gS) :=
  if (st.1 t 13) ≤ l2 then (some (l1, st)) else (gc (gI l2 5) (gl (l1 ||| (st.1 (t + 1 + 4) l2.toNatClampNeg)) fun x20 => (k4 x20 (l2 + 1) st)))
set_option maxRecDepth 100000 in
set_option maxHeartbeats 4000000 in
theorem bX8_ableAny_4 {t : Nat} (hC : CallFix p m c cX8_ableAny 3 s args lw_good RX8) (hret : meth.sig.returnType = (some .int)) (hlk : meth.locks = false) (hU : gU 0 D cA ad s) (ht : gK 0 t = 8) {r : Int32} {st' : gS} {k4 : Int32 → Int32 → gS → Option (Int32 × gS)} (hk4 : ∀ {l1 : Int32} {l2 : Int32} {st : gS} {H : Heap} {locs : List Loc} {ls : Array Slot}, k4 l1 l2 st = some (r, st') → gP0 0 D cA ad st H → va_S (gA 0 ad) s.heap H locs → lv_has ls 3 [(0, .ref (ad t)), (1, .int l1), (2, .int l2)] → W p l e (gRm 1) s m args below meth c H locs 0 0 (MQ below (gQc 0 D cA ad st' (some (.int r))) args s 0 0 (gA 0 ad)) (F0 m 4 ls [])) {l1 : Int32} {l2 : Int32} {st : gS} {H : Heap} {locs : List Loc} {ls : Array Slot} (hf : fX8_ableAny_4 t k4 l1 l2 st = some (r, st')) (hH : gP0 0 D cA ad st H) (hS : va_S (gA 0 ad) s.heap H locs) (hl : lv_has ls 3 [(0, .ref (ad t)), (1, .int l1), (2, .int l2)]) : W p l e (gRm 1) s m args below meth c H locs 0 0 (MQ below (gQc 0 D cA ad st' (some (.int r))) args s 0 0 (gA 0 ad)) (F0 m 4 ls []) := by
  obtain ⟨hx, hb, hml, hown, hts⟩ := id hC
  unfold fX8_ableAny_4 at hf
  refine lv_iload_n (pc := 4) hx hb dX8_ableAny_4 rfl (lv_at hl 2 rfl) ?_
  refine lv_aload_n (pc := 5) hx hb dX8_ableAny_5 rfl (lv_at hl 0 rfl) ?_
  refine g_get (pc := 6) (v := .int (st.1 t 13)) hC hU hH ht g_cl8 13 (by decide) kf_X8_57 rfl dX8_ableAny_6 ?_
  refine lv_icmp_ge (tgt := 27) (pc := 9) hx hb dX8_ableAny_9 (by decide) (fun hc => ?_) (fun hc => ?_)
  · have hf := gif_p hc hf
    refine lv_iload_n (pc := 27) hx hb dX8_ableAny_27 rfl (lv_at hl 1 rfl) ?_
    exact g_iret (pc := 28) hC hret hlk hH hS hf dX8_ableAny_28
  · have hf := gif_n hc hf
    refine lv_iload_n (pc := 12) hx hb dX8_ableAny_12 rfl (lv_at hl 1 rfl) ?_
    refine lv_aload_n (pc := 13) hx hb dX8_ableAny_13 rfl (lv_at hl 0 rfl) ?_
    refine g_get (pc := 14) (v := .ref (ad (t + 1 + 4))) hC hU hH ht g_cl8 4 (by decide) kf_X8_25 rfl dX8_ableAny_14 ?_
    refine lv_iload_n (pc := 17) hx hb dX8_ableAny_17 rfl (lv_at hl 2 rfl) ?_
    obtain ⟨h4_1, hf⟩ := gc_s hf
    refine g_iald (pc := 18) hC hU hH (gk_8_4 ht) (gn_8_4 ht) h4_1 dX8_ableAny_18 ?_
    refine lv_ior (pc := 19) hx hb dX8_ableAny_19 ?_
    refine lv_topi (pc := 20) (fun x20 ex20 => ?_)
    have hf := gl_s ex20 hf
    refine lv_istore_n (lv' := [(1, .int x20), (0, .ref (ad t)), (2, .int l2)]) (pc := 20) hx hb dX8_ableAny_20 rfl hl (by decide) rfl (fun ls hl => ?_)
    refine lv_iinc (v := l2 + 1) (lv' := [(2, .int (l2 + 1)), (1, .int x20), (0, .ref (ad t))]) (k := 2) (pc := 21) hx hb dX8_ableAny_21 hl rfl rfl (by decide) rfl (fun ls hl => ?_)
    refine lv_goto (tgt := 4) (pc := 24) hx hb dX8_ableAny_24 (by decide) ?_
    exact hk4 hf hH hS (lv_sub hl [2, 1, 0] rfl)
def hX8_ableAny_4 (t : Nat)  : Nat → Int32 → Int32 → gS → Option (Int32 × gS)
  | 0 => fun _ _ _ => none
  | n + 1 => fun l1 l2 st => fX8_ableAny_4 t (hX8_ableAny_4 t n) l1 l2 st
set_option maxRecDepth 100000 in
set_option maxHeartbeats 4000000 in
theorem wX8_ableAny_4 {t : Nat} (hC : CallFix p m c cX8_ableAny 3 s args lw_good RX8) (hret : meth.sig.returnType = (some .int)) (hlk : meth.locks = false) (hU : gU 0 D cA ad s) (ht : gK 0 t = 8) {r : Int32} {st' : gS}  : ∀ (n : Nat) {l1 : Int32} {l2 : Int32} {st : gS} {H : Heap} {locs : List Loc} {ls : Array Slot}, hX8_ableAny_4 t n l1 l2 st = some (r, st') → gP0 0 D cA ad st H → va_S (gA 0 ad) s.heap H locs → lv_has ls 3 [(0, .ref (ad t)), (1, .int l1), (2, .int l2)] → W p l e (gRm 1) s m args below meth c H locs 0 0 (MQ below (gQc 0 D cA ad st' (some (.int r))) args s 0 0 (gA 0 ad)) (F0 m 4 ls []) := by
  intro n
  induction n with
  | zero => intro l1 l2 st H locs ls hf hH hS hl; cases hf
  | succ n ih =>
    intro l1 l2 st H locs ls hf hH hS hl
    exact bX8_ableAny_4 (t := t) hC hret hlk hU ht (fun hf hH hS hl => ih hf hH hS hl) hf hH hS hl
def fX8_ableAny (t : Nat)   (st : gS) : Option (Int32 × gS) :=
  hX8_ableAny_4 t FU 0 0 st
set_option maxRecDepth 100000 in
set_option maxHeartbeats 4000000 in
theorem bX8_ableAny_0 {t : Nat} (hC : CallFix p m c cX8_ableAny 3 s args lw_good RX8) (hret : meth.sig.returnType = (some .int)) (hlk : meth.locks = false) (hU : gU 0 D cA ad s) (ht : gK 0 t = 8) {r : Int32} {st' : gS}   {st : gS} {H : Heap} {locs : List Loc} {ls : Array Slot} (hf : fX8_ableAny t st = some (r, st')) (hH : gP0 0 D cA ad st H) (hS : va_S (gA 0 ad) s.heap H locs) (hl : lv_has ls 3 [(0, .ref (ad t))]) : W p l e (gRm 1) s m args below meth c H locs 0 0 (MQ below (gQc 0 D cA ad st' (some (.int r))) args s 0 0 (gA 0 ad)) (F0 m 0 ls []) := by
  obtain ⟨hx, hb, hml, hown, hts⟩ := id hC
  unfold fX8_ableAny at hf
  refine lv_iconst (v := 0) (pc := 0) hx hb dX8_ableAny_0 (by decide) ?_
  refine lv_istore_n (lv' := [(1, .int 0), (0, .ref (ad t))]) (pc := 1) hx hb dX8_ableAny_1 rfl hl (by decide) rfl (fun ls hl => ?_)
  refine lv_iconst (v := 0) (pc := 2) hx hb dX8_ableAny_2 (by decide) ?_
  refine lv_istore_n (lv' := [(2, .int 0), (1, .int 0), (0, .ref (ad t))]) (pc := 3) hx hb dX8_ableAny_3 rfl hl (by decide) rfl (fun ls hl => ?_)
  exact wX8_ableAny_4 hC hret hlk hU ht FU hf hH hS (lv_sub hl [2, 1, 0] rfl)
set_option maxRecDepth 100000 in
set_option maxHeartbeats 4000000 in
theorem mX8_ableAny {l : Launch} {D : va_G} {cA : Nat → ClassId} {ad : Nat → Nat} {t : Nat} (ht : gK 0 t = 8) {r : Int32} {st st' : gS} (hf : fX8_ableAny t st = some (r, st')) : gM l yX8_ableAny cX8_ableAny 3 (some .int) 1 0 D cA ad st [.ref (ad t)] (some (.int r)) st' := by
  refine g_met (by decide) (Nat.le_of_ble_eq_true rfl) ?_
  intro p e s m args below meth c ls hC hret hlk hU hH hl
  exact bX8_ableAny_0 hC hret hlk hU ht hf hH va_S.rf hl
def fX10_round_28 (a1 : Int32) (k28 : Int32 → Int32 → Int32 → gS → Option (Int32 × gS)) (l2 : Int32) (l3 : Int32) (l4 : Int32) (st : gS) : Option (Int32 × gS) :=
  if 8 < l4 then (some ((-1), st)) else (gc (gK 0 (st.2.2 0 9) = 8) ((fX8_behind (st.2.2 0 9) l3 l2 st).bind fun q28_1 => (if ((q28_1.1 >>> (a1 &&& 31)) &&& 1) = 0 then (k28 l2 q28_1.1 (l4 + 1) q28_1.2) else (some (l4, q28_1.2)))))
set_option maxRecDepth 100000 in
set_option maxHeartbeats 4000000 in
theorem bX10_round_28 {a1 : Int32} (hC : CallFix p m c cX10_round 5 s args lw_good RX10) (hret : meth.sig.returnType = (some .int)) (hlk : meth.locks = false) (hU : gU 0 D cA ad s)  {r : Int32} {st' : gS} {k28 : Int32 → Int32 → Int32 → gS → Option (Int32 × gS)} (hk28 : ∀ {l2 : Int32} {l3 : Int32} {l4 : Int32} {st : gS} {H : Heap} {locs : List Loc} {ls : Array Slot}, k28 l2 l3 l4 st = some (r, st') → gP0 0 D cA ad st H → va_S (gA 0 ad) s.heap H locs → lv_has ls 5 [(0, .ref (ad 0)), (1, .int a1), (2, .int l2), (3, .int l3), (4, .int l4)] → W p l e (gRm 2) s m args below meth c H locs 0 0 (MQ below (gQc 0 D cA ad st' (some (.int r))) args s 0 0 (gA 0 ad)) (F0 m 28 ls [])) {l2 : Int32} {l3 : Int32} {l4 : Int32} {st : gS} {H : Heap} {locs : List Loc} {ls : Array Slot} (hf : fX10_round_28 a1 k28 l2 l3 l4 st = some (r, st')) (hH : gP0 0 D cA ad st H) (hS : va_S (gA 0 ad) s.heap H locs) (hl : lv_has ls 5 [(0, .ref (ad 0)), (1, .int a1), (2, .int l2), (3, .int l3), (4, .int l4)]) : W p l e (gRm 2) s m args below meth c H locs 0 0 (MQ below (gQc 0 D cA ad st' (some (.int r))) args s 0 0 (gA 0 ad)) (F0 m 28 ls []) := by
  obtain ⟨hx, hb, hml, hown, hts⟩ := id hC
  unfold fX10_round_28 at hf
  refine lv_iload (pc := 28) hx hb dX10_round_28 (lv_at hl 4 rfl) ?_
  refine lv_bipush (v := 8) (pc := 30) hx hb dX10_round_30 (by decide) ?_
  refine lv_icmp_gt (tgt := 62) (pc := 32) hx hb dX10_round_32 (by decide) (fun hc => ?_) (fun hc => ?_)
  · have hf := gif_p hc hf
    refine lv_iconst (v := (-1)) (pc := 62) hx hb dX10_round_62 (by decide) ?_
    exact g_iret (pc := 63) hC hret hlk hH hS hf dX10_round_63
  · have hf := gif_n hc hf
    refine lv_aload_n (pc := 35) hx hb dX10_round_35 rfl (lv_at hl 0 rfl) ?_
    refine g_get (pc := 36) (v := .ref (ad (st.2.2 0 9))) hC hU hH gk0_0 g_cl10 9 (by decide) kf_X10_71 rfl dX10_round_36 ?_
    refine lv_iload_n (pc := 39) hx hb dX10_round_39 rfl (lv_at hl 3 rfl) ?_
    refine lv_iload_n (pc := 40) hx hb dX10_round_40 rfl (lv_at hl 2 rfl) ?_
    obtain ⟨h28_1, hf⟩ := gc_s hf
    obtain ⟨q28_1, hq28_1, hf⟩ := gbd hf
    refine g_callVi (pc := 41) (rest := []) hC hU hH hS hl.1 h28_1 rfl (by decide) (mX8_behind h28_1 hq28_1) ky_X8_behind km_X10_274 ⟨Nat.le_of_ble_eq_true rfl, Nat.le_of_ble_eq_true rfl⟩ ⟨Nat.zero_le _, Nat.zero_le _⟩ rfl (Nat.le_of_ble_eq_true rfl) dX10_round_41 rfl (fun H locs hH hS => ?_)
    refine lv_istore_n (lv' := [(3, .int q28_1.1), (0, .ref (ad 0)), (1, .int a1), (2, .int l2), (4, .int l4)]) (pc := 44) hx hb dX10_round_44 rfl hl (by decide) rfl (fun ls hl => ?_)
    refine lv_iload_n (pc := 45) hx hb dX10_round_45 rfl (lv_at hl 0 rfl) ?_
    refine lv_iload_n (pc := 46) hx hb dX10_round_46 rfl (lv_at hl 2 rfl) ?_
    refine lv_ishr (pc := 47) hx hb dX10_round_47 ?_
    refine lv_iconst (v := 1) (pc := 48) hx hb dX10_round_48 (by decide) ?_
    refine lv_iand (pc := 49) hx hb dX10_round_49 ?_
    refine lv_if_eq (tgt := 56) (pc := 50) hx hb dX10_round_50 (by decide) (fun hc => ?_) (fun hc => ?_)
    · have hf := gif_p hc hf
      refine lv_iinc (v := l4 + 1) (lv' := [(4, .int (l4 + 1)), (3, .int q28_1.1), (0, .ref (ad 0)), (1, .int a1), (2, .int l2)]) (k := 4) (pc := 56) hx hb dX10_round_56 hl rfl rfl (by decide) rfl (fun ls hl => ?_)
      refine lv_goto (tgt := 28) (pc := 59) hx hb dX10_round_59 (by decide) ?_
      exact hk28 hf hH hS (lv_sub hl [2, 3, 4, 1, 0] rfl)
    · have hf := gif_n hc hf
      refine lv_iload (pc := 53) hx hb dX10_round_53 (lv_at hl 4 rfl) ?_
      exact g_iret (pc := 55) hC hret hlk hH hS hf dX10_round_55
def hX10_round_28 (a1 : Int32)  : Nat → Int32 → Int32 → Int32 → gS → Option (Int32 × gS)
  | 0 => fun _ _ _ _ => none
  | n + 1 => fun l2 l3 l4 st => fX10_round_28 a1 (hX10_round_28 a1 n) l2 l3 l4 st
set_option maxRecDepth 100000 in
set_option maxHeartbeats 4000000 in
theorem wX10_round_28 {a1 : Int32} (hC : CallFix p m c cX10_round 5 s args lw_good RX10) (hret : meth.sig.returnType = (some .int)) (hlk : meth.locks = false) (hU : gU 0 D cA ad s)  {r : Int32} {st' : gS}  : ∀ (n : Nat) {l2 : Int32} {l3 : Int32} {l4 : Int32} {st : gS} {H : Heap} {locs : List Loc} {ls : Array Slot}, hX10_round_28 a1 n l2 l3 l4 st = some (r, st') → gP0 0 D cA ad st H → va_S (gA 0 ad) s.heap H locs → lv_has ls 5 [(0, .ref (ad 0)), (1, .int a1), (2, .int l2), (3, .int l3), (4, .int l4)] → W p l e (gRm 2) s m args below meth c H locs 0 0 (MQ below (gQc 0 D cA ad st' (some (.int r))) args s 0 0 (gA 0 ad)) (F0 m 28 ls []) := by
  intro n
  induction n with
  | zero => intro l2 l3 l4 st H locs ls hf hH hS hl; cases hf
  | succ n ih =>
    intro l2 l3 l4 st H locs ls hf hH hS hl
    exact bX10_round_28 (a1 := a1) hC hret hlk hU (fun hf hH hS hl => ih hf hH hS hl) hf hH hS hl
def fX10_round (a1 : Int32)   (st : gS) : Option (Int32 × gS) :=
  gc (gK 0 (st.2.2 0 9) = 8) ((fX8_hasFigure (st.2.2 0 9) a1 st).bind fun q0_1 => (if q0_1.1 = 0 then (some ((-1), q0_1.2)) else (gc (gK 0 (q0_1.2.2.2 0 9) = 8) ((fX8_ableAny (q0_1.2.2.2 0 9) q0_1.2).bind fun q0_2 => (gl (1 <<< (a1 &&& 31)) fun x24 => (hX10_round_28 a1 FU q0_2.1 x24 1 q0_2.2))))))
set_option maxRecDepth 100000 in
set_option maxHeartbeats 4000000 in
theorem bX10_round_0 {a1 : Int32} (hC : CallFix p m c cX10_round 5 s args lw_good RX10) (hret : meth.sig.returnType = (some .int)) (hlk : meth.locks = false) (hU : gU 0 D cA ad s)  {r : Int32} {st' : gS}   {st : gS} {H : Heap} {locs : List Loc} {ls : Array Slot} (hf : fX10_round a1 st = some (r, st')) (hH : gP0 0 D cA ad st H) (hS : va_S (gA 0 ad) s.heap H locs) (hl : lv_has ls 5 [(0, .ref (ad 0)), (1, .int a1)]) : W p l e (gRm 2) s m args below meth c H locs 0 0 (MQ below (gQc 0 D cA ad st' (some (.int r))) args s 0 0 (gA 0 ad)) (F0 m 0 ls []) := by
  obtain ⟨hx, hb, hml, hown, hts⟩ := id hC
  unfold fX10_round at hf
  refine lv_aload_n (pc := 0) hx hb dX10_round_0 rfl (lv_at hl 0 rfl) ?_
  refine g_get (pc := 1) (v := .ref (ad (st.2.2 0 9))) hC hU hH gk0_0 g_cl10 9 (by decide) kf_X10_71 rfl dX10_round_1 ?_
  refine lv_iload_n (pc := 4) hx hb dX10_round_4 rfl (lv_at hl 1 rfl) ?_
  obtain ⟨h0_1, hf⟩ := gc_s hf
  obtain ⟨q0_1, hq0_1, hf⟩ := gbd hf
  refine g_callVi (pc := 5) (rest := []) hC hU hH hS hl.1 h0_1 rfl (by decide) (mX8_hasFigure h0_1 hq0_1) ky_X8_hasFigure km_X10_183 ⟨Nat.le_of_ble_eq_true rfl, Nat.le_of_ble_eq_true rfl⟩ ⟨Nat.zero_le _, Nat.zero_le _⟩ rfl (Nat.le_of_ble_eq_true rfl) dX10_round_5 rfl (fun H locs hH hS => ?_)
  refine lv_if_ne (tgt := 13) (pc := 8) hx hb dX10_round_8 (by decide) (fun hc => ?_) (fun hc => ?_)
  · have hf := gif_n hc hf
    refine lv_aload_n (pc := 13) hx hb dX10_round_13 rfl (lv_at hl 0 rfl) ?_
    refine g_get (pc := 14) (v := .ref (ad (q0_1.2.2.2 0 9))) hC hU hH gk0_0 g_cl10 9 (by decide) kf_X10_71 rfl dX10_round_14 ?_
    obtain ⟨h0_2, hf⟩ := gc_s hf
    obtain ⟨q0_2, hq0_2, hf⟩ := gbd hf
    refine g_callVi (pc := 17) (rest := []) hC hU hH hS hl.1 h0_2 rfl (by decide) (mX8_ableAny h0_2 hq0_2) ky_X8_ableAny km_X10_271 ⟨Nat.le_of_ble_eq_true rfl, Nat.le_of_ble_eq_true rfl⟩ ⟨Nat.zero_le _, Nat.zero_le _⟩ rfl (Nat.le_of_ble_eq_true rfl) dX10_round_17 rfl (fun H locs hH hS => ?_)
    refine lv_istore_n (lv' := [(2, .int q0_2.1), (0, .ref (ad 0)), (1, .int a1)]) (pc := 20) hx hb dX10_round_20 rfl hl (by decide) rfl (fun ls hl => ?_)
    refine lv_iconst (v := 1) (pc := 21) hx hb dX10_round_21 (by decide) ?_
    refine lv_iload_n (pc := 22) hx hb dX10_round_22 rfl (lv_at hl 2 rfl) ?_
    refine lv_ishl (pc := 23) hx hb dX10_round_23 ?_
    refine lv_topi (pc := 24) (fun x24 ex24 => ?_)
    have hf := gl_s ex24 hf
    refine lv_istore_n (lv' := [(3, .int x24), (2, .int q0_2.1), (0, .ref (ad 0)), (1, .int a1)]) (pc := 24) hx hb dX10_round_24 rfl hl (by decide) rfl (fun ls hl => ?_)
    refine lv_iconst (v := 1) (pc := 25) hx hb dX10_round_25 (by decide) ?_
    refine lv_istore (lv' := [(4, .int 1), (3, .int x24), (2, .int q0_2.1), (0, .ref (ad 0)), (1, .int a1)]) (pc := 26) hx hb dX10_round_26 hl (by decide) rfl (fun ls hl => ?_)
    exact wX10_round_28 hC hret hlk hU FU hf hH hS (lv_sub hl [3, 4, 2, 1, 0] rfl)
  · have hf := gif_p hc hf
    refine lv_iconst (v := (-1)) (pc := 11) hx hb dX10_round_11 (by decide) ?_
    exact g_iret (pc := 12) hC hret hlk hH hS hf dX10_round_12
set_option maxRecDepth 100000 in
set_option maxHeartbeats 4000000 in
theorem mX10_round {l : Launch} {D : va_G} {cA : Nat → ClassId} {ad : Nat → Nat} {a1 : Int32}  {r : Int32} {st st' : gS} (hf : fX10_round a1 st = some (r, st')) : gM l yX10_round cX10_round 5 (some .int) 2 0 D cA ad st [.ref (ad 0), .int a1] (some (.int r)) st' := by
  refine g_met (by decide) (Nat.le_of_ble_eq_true rfl) ?_
  intro p e s m args below meth c ls hC hret hlk hU hH hl
  exact bX10_round_0 hC hret hlk hU hf hH va_S.rf hl
def fX10_near_31 (a1 : Int32) (k31 : Int32 → Int32 → Int32 → gS → Option (Int32 × gS)) (l2 : Int32) (l3 : Int32) (l4 : Int32) (st : gS) : Option (Int32 × gS) :=
  if a1 ≤ l4 then (some (l3, st)) else (gc (gK 0 (st.2.2 0 9) = 8) ((fX8_behind (st.2.2 0 9) l3 l2 st).bind fun q31_1 => (k31 l2 q31_1.1 (l4 + 1) q31_1.2)))
set_option maxRecDepth 100000 in
set_option maxHeartbeats 4000000 in
theorem bX10_near_31 {a1 : Int32} (hC : CallFix p m c cX10_near 5 s args lw_good RX10) (hret : meth.sig.returnType = (some .int)) (hlk : meth.locks = false) (hU : gU 0 D cA ad s)  {r : Int32} {st' : gS} {k31 : Int32 → Int32 → Int32 → gS → Option (Int32 × gS)} (hk31 : ∀ {l2 : Int32} {l3 : Int32} {l4 : Int32} {st : gS} {H : Heap} {locs : List Loc} {ls : Array Slot}, k31 l2 l3 l4 st = some (r, st') → gP0 0 D cA ad st H → va_S (gA 0 ad) s.heap H locs → lv_has ls 5 [(0, .ref (ad 0)), (1, .int a1), (2, .int l2), (3, .int l3), (4, .int l4)] → W p l e (gRm 2) s m args below meth c H locs 0 0 (MQ below (gQc 0 D cA ad st' (some (.int r))) args s 0 0 (gA 0 ad)) (F0 m 31 ls [])) {l2 : Int32} {l3 : Int32} {l4 : Int32} {st : gS} {H : Heap} {locs : List Loc} {ls : Array Slot} (hf : fX10_near_31 a1 k31 l2 l3 l4 st = some (r, st')) (hH : gP0 0 D cA ad st H) (hS : va_S (gA 0 ad) s.heap H locs) (hl : lv_has ls 5 [(0, .ref (ad 0)), (1, .int a1), (2, .int l2), (3, .int l3), (4, .int l4)]) : W p l e (gRm 2) s m args below meth c H locs 0 0 (MQ below (gQc 0 D cA ad st' (some (.int r))) args s 0 0 (gA 0 ad)) (F0 m 31 ls []) := by
  obtain ⟨hx, hb, hml, hown, hts⟩ := id hC
  unfold fX10_near_31 at hf
  refine lv_iload (pc := 31) hx hb dX10_near_31 (lv_at hl 4 rfl) ?_
  refine lv_iload_n (pc := 33) hx hb dX10_near_33 rfl (lv_at hl 1 rfl) ?_
  refine lv_icmp_ge (tgt := 53) (pc := 34) hx hb dX10_near_34 (by decide) (fun hc => ?_) (fun hc => ?_)
  · have hf := gif_p hc hf
    refine lv_iload_n (pc := 53) hx hb dX10_near_53 rfl (lv_at hl 3 rfl) ?_
    exact g_iret (pc := 54) hC hret hlk hH hS hf dX10_near_54
  · have hf := gif_n hc hf
    refine lv_aload_n (pc := 37) hx hb dX10_near_37 rfl (lv_at hl 0 rfl) ?_
    refine g_get (pc := 38) (v := .ref (ad (st.2.2 0 9))) hC hU hH gk0_0 g_cl10 9 (by decide) kf_X10_71 rfl dX10_near_38 ?_
    refine lv_iload_n (pc := 41) hx hb dX10_near_41 rfl (lv_at hl 3 rfl) ?_
    refine lv_iload_n (pc := 42) hx hb dX10_near_42 rfl (lv_at hl 2 rfl) ?_
    obtain ⟨h31_1, hf⟩ := gc_s hf
    obtain ⟨q31_1, hq31_1, hf⟩ := gbd hf
    refine g_callVi (pc := 43) (rest := []) hC hU hH hS hl.1 h31_1 rfl (by decide) (mX8_behind h31_1 hq31_1) ky_X8_behind km_X10_274 ⟨Nat.le_of_ble_eq_true rfl, Nat.le_of_ble_eq_true rfl⟩ ⟨Nat.zero_le _, Nat.zero_le _⟩ rfl (Nat.le_of_ble_eq_true rfl) dX10_near_43 rfl (fun H locs hH hS => ?_)
    refine lv_istore_n (lv' := [(3, .int q31_1.1), (0, .ref (ad 0)), (1, .int a1), (2, .int l2), (4, .int l4)]) (pc := 46) hx hb dX10_near_46 rfl hl (by decide) rfl (fun ls hl => ?_)
    refine lv_iinc (v := l4 + 1) (lv' := [(4, .int (l4 + 1)), (3, .int q31_1.1), (0, .ref (ad 0)), (1, .int a1), (2, .int l2)]) (k := 4) (pc := 47) hx hb dX10_near_47 hl rfl rfl (by decide) rfl (fun ls hl => ?_)
    refine lv_goto (tgt := 31) (pc := 50) hx hb dX10_near_50 (by decide) ?_
    exact hk31 hf hH hS (lv_sub hl [2, 3, 4, 1, 0] rfl)
def hX10_near_31 (a1 : Int32)  : Nat → Int32 → Int32 → Int32 → gS → Option (Int32 × gS)
  | 0 => fun _ _ _ _ => none
  | n + 1 => fun l2 l3 l4 st => fX10_near_31 a1 (hX10_near_31 a1 n) l2 l3 l4 st
set_option maxRecDepth 100000 in
set_option maxHeartbeats 4000000 in
theorem wX10_near_31 {a1 : Int32} (hC : CallFix p m c cX10_near 5 s args lw_good RX10) (hret : meth.sig.returnType = (some .int)) (hlk : meth.locks = false) (hU : gU 0 D cA ad s)  {r : Int32} {st' : gS}  : ∀ (n : Nat) {l2 : Int32} {l3 : Int32} {l4 : Int32} {st : gS} {H : Heap} {locs : List Loc} {ls : Array Slot}, hX10_near_31 a1 n l2 l3 l4 st = some (r, st') → gP0 0 D cA ad st H → va_S (gA 0 ad) s.heap H locs → lv_has ls 5 [(0, .ref (ad 0)), (1, .int a1), (2, .int l2), (3, .int l3), (4, .int l4)] → W p l e (gRm 2) s m args below meth c H locs 0 0 (MQ below (gQc 0 D cA ad st' (some (.int r))) args s 0 0 (gA 0 ad)) (F0 m 31 ls []) := by
  intro n
  induction n with
  | zero => intro l2 l3 l4 st H locs ls hf hH hS hl; cases hf
  | succ n ih =>
    intro l2 l3 l4 st H locs ls hf hH hS hl
    exact bX10_near_31 (a1 := a1) hC hret hlk hU (fun hf hH hS hl => ih hf hH hS hl) hf hH hS hl
def fX10_near (a1 : Int32)   (st : gS) : Option (Int32 × gS) :=
  if a1 < 0 then (some ((-1), st)) else (if a1 ≤ 8 then (gc (gK 0 (st.2.2 0 9) = 8) ((fX8_ableAny (st.2.2 0 9) st).bind fun q0_1 => ((fX5_figureBit 20 q0_1.2).bind fun q0_2 => (hX10_near_31 a1 FU q0_1.1 q0_2.1 0 q0_2.2)))) else (some ((-1), st)))
set_option maxRecDepth 100000 in
set_option maxHeartbeats 4000000 in
theorem bX10_near_0 {a1 : Int32} (hC : CallFix p m c cX10_near 5 s args lw_good RX10) (hret : meth.sig.returnType = (some .int)) (hlk : meth.locks = false) (hU : gU 0 D cA ad s)  {r : Int32} {st' : gS}   {st : gS} {H : Heap} {locs : List Loc} {ls : Array Slot} (hf : fX10_near a1 st = some (r, st')) (hH : gP0 0 D cA ad st H) (hS : va_S (gA 0 ad) s.heap H locs) (hl : lv_has ls 5 [(0, .ref (ad 0)), (1, .int a1)]) : W p l e (gRm 2) s m args below meth c H locs 0 0 (MQ below (gQc 0 D cA ad st' (some (.int r))) args s 0 0 (gA 0 ad)) (F0 m 0 ls []) := by
  obtain ⟨hx, hb, hml, hown, hts⟩ := id hC
  unfold fX10_near at hf
  refine lv_iload_n (pc := 0) hx hb dX10_near_0 rfl (lv_at hl 1 rfl) ?_
  refine lv_if_lt (tgt := 10) (pc := 1) hx hb dX10_near_1 (by decide) (fun hc => ?_) (fun hc => ?_)
  · have hf := gif_p hc hf
    refine lv_iconst (v := (-1)) (pc := 10) hx hb dX10_near_10 (by decide) ?_
    exact g_iret (pc := 11) hC hret hlk hH hS hf dX10_near_11
  · have hf := gif_n hc hf
    refine lv_iload_n (pc := 4) hx hb dX10_near_4 rfl (lv_at hl 1 rfl) ?_
    refine lv_bipush (v := 8) (pc := 5) hx hb dX10_near_5 (by decide) ?_
    refine lv_icmp_le (tgt := 12) (pc := 7) hx hb dX10_near_7 (by decide) (fun hc => ?_) (fun hc => ?_)
    · have hf := gif_p hc hf
      refine lv_aload_n (pc := 12) hx hb dX10_near_12 rfl (lv_at hl 0 rfl) ?_
      refine g_get (pc := 13) (v := .ref (ad (st.2.2 0 9))) hC hU hH gk0_0 g_cl10 9 (by decide) kf_X10_71 rfl dX10_near_13 ?_
      obtain ⟨h0_1, hf⟩ := gc_s hf
      obtain ⟨q0_1, hq0_1, hf⟩ := gbd hf
      refine g_callVi (pc := 16) (rest := []) hC hU hH hS hl.1 h0_1 rfl (by decide) (mX8_ableAny h0_1 hq0_1) ky_X8_ableAny km_X10_271 ⟨Nat.le_of_ble_eq_true rfl, Nat.le_of_ble_eq_true rfl⟩ ⟨Nat.zero_le _, Nat.zero_le _⟩ rfl (Nat.le_of_ble_eq_true rfl) dX10_near_16 rfl (fun H locs hH hS => ?_)
      refine lv_istore_n (lv' := [(2, .int q0_1.1), (0, .ref (ad 0)), (1, .int a1)]) (pc := 19) hx hb dX10_near_19 rfl hl (by decide) rfl (fun ls hl => ?_)
      refine lv_aload_n (pc := 20) hx hb dX10_near_20 rfl (lv_at hl 1 rfl) ?_
      refine g_get (pc := 21) (v := .ref (ad 20)) hC hU hH gk0_0 g_cl10 2 (by decide) kf_X10_28 rfl dX10_near_21 ?_
      obtain ⟨q0_2, hq0_2, hf⟩ := gbd hf
      refine g_callVi (pc := 24) (rest := []) hC hU hH hS hl.1 gk0_20 rfl (by decide) (mX5_figureBit gk0_20 hq0_2) ky_X5_figureBit km_X10_277 ⟨Nat.le_of_ble_eq_true rfl, Nat.le_of_ble_eq_true rfl⟩ ⟨Nat.zero_le _, Nat.zero_le _⟩ rfl (Nat.le_of_ble_eq_true rfl) dX10_near_24 rfl (fun H locs hH hS => ?_)
      refine lv_istore_n (lv' := [(3, .int q0_2.1), (2, .int q0_1.1), (0, .ref (ad 0)), (1, .int a1)]) (pc := 27) hx hb dX10_near_27 rfl hl (by decide) rfl (fun ls hl => ?_)
      refine lv_iconst (v := 0) (pc := 28) hx hb dX10_near_28 (by decide) ?_
      refine lv_istore (lv' := [(4, .int 0), (3, .int q0_2.1), (2, .int q0_1.1), (0, .ref (ad 0)), (1, .int a1)]) (pc := 29) hx hb dX10_near_29 hl (by decide) rfl (fun ls hl => ?_)
      exact wX10_near_31 hC hret hlk hU FU hf hH hS (lv_sub hl [3, 4, 2, 1, 0] rfl)
    · have hf := gif_n hc hf
      refine lv_iconst (v := (-1)) (pc := 10) hx hb dX10_near_10 (by decide) ?_
      exact g_iret (pc := 11) hC hret hlk hH hS hf dX10_near_11
set_option maxRecDepth 100000 in
set_option maxHeartbeats 4000000 in
theorem mX10_near {l : Launch} {D : va_G} {cA : Nat → ClassId} {ad : Nat → Nat} {a1 : Int32}  {r : Int32} {st st' : gS} (hf : fX10_near a1 st = some (r, st')) : gM l yX10_near cX10_near 5 (some .int) 2 0 D cA ad st [.ref (ad 0), .int a1] (some (.int r)) st' := by
  refine g_met (by decide) (Nat.le_of_ble_eq_true rfl) ?_
  intro p e s m args below meth c ls hC hret hlk hU hH hl
  exact bX10_near_0 hC hret hlk hU hf hH va_S.rf hl
def fX10_both (a1 : Int32) (a2 : Int32)   (st : gS) : Option (Int32 × gS) :=
  gc (gK 0 (st.2.2 0 9) = 8) ((fX8_hasTribe (st.2.2 0 9) a1 st).bind fun q0_1 => (if q0_1.1 = 0 then (some ((-1), q0_1.2)) else (gc (gK 0 (q0_1.2.2.2 0 9) = 8) ((fX8_hasTribe (q0_1.2.2.2 0 9) a2 q0_1.2).bind fun q0_2 => (if q0_2.1 = 0 then (some ((-1), q0_2.2)) else (gc (gK 0 (q0_2.2.2.2 0 9) = 8) (gc (gI a1 5) (gc (gK 0 (q0_2.2.2.2 0 9) = 8) (gc (gI a2 5) (some ((q0_2.2.1 ((q0_2.2.2.2 0 9) + 1 + 4) a1.toNatClampNeg) &&& (q0_2.2.1 ((q0_2.2.2.2 0 9) + 1 + 4) a2.toNatClampNeg), q0_2.2)))))))))))
set_option maxRecDepth 100000 in
set_option maxHeartbeats 4000000 in
theorem bX10_both_0 {a1 : Int32} {a2 : Int32} (hC : CallFix p m c cX10_both 3 s args lw_good RX10) (hret : meth.sig.returnType = (some .int)) (hlk : meth.locks = false) (hU : gU 0 D cA ad s)  {r : Int32} {st' : gS}   {st : gS} {H : Heap} {locs : List Loc} {ls : Array Slot} (hf : fX10_both a1 a2 st = some (r, st')) (hH : gP0 0 D cA ad st H) (hS : va_S (gA 0 ad) s.heap H locs) (hl : lv_has ls 3 [(0, .ref (ad 0)), (1, .int a1), (2, .int a2)]) : W p l e (gRm 2) s m args below meth c H locs 0 0 (MQ below (gQc 0 D cA ad st' (some (.int r))) args s 0 0 (gA 0 ad)) (F0 m 0 ls []) := by
  obtain ⟨hx, hb, hml, hown, hts⟩ := id hC
  unfold fX10_both at hf
  refine lv_aload_n (pc := 0) hx hb dX10_both_0 rfl (lv_at hl 0 rfl) ?_
  refine g_get (pc := 1) (v := .ref (ad (st.2.2 0 9))) hC hU hH gk0_0 g_cl10 9 (by decide) kf_X10_71 rfl dX10_both_1 ?_
  refine lv_iload_n (pc := 4) hx hb dX10_both_4 rfl (lv_at hl 1 rfl) ?_
  obtain ⟨h0_1, hf⟩ := gc_s hf
  obtain ⟨q0_1, hq0_1, hf⟩ := gbd hf
  refine g_callVi (pc := 5) (rest := []) hC hU hH hS hl.1 h0_1 rfl (by decide) (mX8_hasTribe h0_1 hq0_1) ky_X8_hasTribe km_X10_130 ⟨Nat.le_of_ble_eq_true rfl, Nat.le_of_ble_eq_true rfl⟩ ⟨Nat.zero_le _, Nat.zero_le _⟩ rfl (Nat.le_of_ble_eq_true rfl) dX10_both_5 rfl (fun H locs hH hS => ?_)
  refine lv_if_eq (tgt := 22) (pc := 8) hx hb dX10_both_8 (by decide) (fun hc => ?_) (fun hc => ?_)
  · have hf := gif_p hc hf
    refine lv_iconst (v := (-1)) (pc := 22) hx hb dX10_both_22 (by decide) ?_
    exact g_iret (pc := 23) hC hret hlk hH hS hf dX10_both_23
  · have hf := gif_n hc hf
    refine lv_aload_n (pc := 11) hx hb dX10_both_11 rfl (lv_at hl 0 rfl) ?_
    refine g_get (pc := 12) (v := .ref (ad (q0_1.2.2.2 0 9))) hC hU hH gk0_0 g_cl10 9 (by decide) kf_X10_71 rfl dX10_both_12 ?_
    refine lv_iload_n (pc := 15) hx hb dX10_both_15 rfl (lv_at hl 2 rfl) ?_
    obtain ⟨h0_2, hf⟩ := gc_s hf
    obtain ⟨q0_2, hq0_2, hf⟩ := gbd hf
    refine g_callVi (pc := 16) (rest := []) hC hU hH hS hl.1 h0_2 rfl (by decide) (mX8_hasTribe h0_2 hq0_2) ky_X8_hasTribe km_X10_130 ⟨Nat.le_of_ble_eq_true rfl, Nat.le_of_ble_eq_true rfl⟩ ⟨Nat.zero_le _, Nat.zero_le _⟩ rfl (Nat.le_of_ble_eq_true rfl) dX10_both_16 rfl (fun H locs hH hS => ?_)
    refine lv_if_ne (tgt := 24) (pc := 19) hx hb dX10_both_19 (by decide) (fun hc => ?_) (fun hc => ?_)
    · have hf := gif_n hc hf
      refine lv_aload_n (pc := 24) hx hb dX10_both_24 rfl (lv_at hl 0 rfl) ?_
      refine g_get (pc := 25) (v := .ref (ad (q0_2.2.2.2 0 9))) hC hU hH gk0_0 g_cl10 9 (by decide) kf_X10_71 rfl dX10_both_25 ?_
      obtain ⟨h0_3, hf⟩ := gc_s hf
      refine g_get (pc := 28) (v := .ref (ad ((q0_2.2.2.2 0 9) + 1 + 4))) hC hU hH h0_3 g_cl8 4 (by decide) kf_X10_149 rfl dX10_both_28 ?_
      refine lv_iload_n (pc := 31) hx hb dX10_both_31 rfl (lv_at hl 1 rfl) ?_
      obtain ⟨h0_4, hf⟩ := gc_s hf
      refine g_iald (pc := 32) hC hU hH (gk_8_4 h0_3) (gn_8_4 h0_3) h0_4 dX10_both_32 ?_
      refine lv_aload_n (pc := 33) hx hb dX10_both_33 rfl (lv_at hl 0 rfl) ?_
      refine g_get (pc := 34) (v := .ref (ad (q0_2.2.2.2 0 9))) hC hU hH gk0_0 g_cl10 9 (by decide) kf_X10_71 rfl dX10_both_34 ?_
      obtain ⟨h0_5, hf⟩ := gc_s hf
      refine g_get (pc := 37) (v := .ref (ad ((q0_2.2.2.2 0 9) + 1 + 4))) hC hU hH h0_5 g_cl8 4 (by decide) kf_X10_149 rfl dX10_both_37 ?_
      refine lv_iload_n (pc := 40) hx hb dX10_both_40 rfl (lv_at hl 2 rfl) ?_
      obtain ⟨h0_6, hf⟩ := gc_s hf
      refine g_iald (pc := 41) hC hU hH (gk_8_4 h0_5) (gn_8_4 h0_5) h0_6 dX10_both_41 ?_
      refine lv_iand (pc := 42) hx hb dX10_both_42 ?_
      exact g_iret (pc := 43) hC hret hlk hH hS hf dX10_both_43
    · have hf := gif_p hc hf
      refine lv_iconst (v := (-1)) (pc := 22) hx hb dX10_both_22 (by decide) ?_
      exact g_iret (pc := 23) hC hret hlk hH hS hf dX10_both_23
set_option maxRecDepth 100000 in
set_option maxHeartbeats 4000000 in
theorem mX10_both {l : Launch} {D : va_G} {cA : Nat → ClassId} {ad : Nat → Nat} {a1 : Int32} {a2 : Int32}  {r : Int32} {st st' : gS} (hf : fX10_both a1 a2 st = some (r, st')) : gM l yX10_both cX10_both 3 (some .int) 2 0 D cA ad st [.ref (ad 0), .int a1, .int a2] (some (.int r)) st' := by
  refine g_met (by decide) (Nat.le_of_ble_eq_true rfl) ?_
  intro p e s m args below meth c ls hC hret hlk hU hH hl
  exact bX10_both_0 hC hret hlk hU hf hH va_S.rf hl
def fX10_clumsy_63 (a1 : Int32) (k20 : Int32 → Int32 → Int32 → gS → Option (Int32 × gS)) (l2 : Int32) (l3 : Int32) (l4 : Int32) (s0 : Int32) (st : gS) : Option (Int32 × gS) :=
  if s0 ≤ l3 then (k20 l2 l3 (l4 + 1) st) else (k20 l4 s0 (l4 + 1) st)
set_option maxRecDepth 100000 in
set_option maxHeartbeats 4000000 in
theorem bX10_clumsy_63 {a1 : Int32} (hC : CallFix p m c cX10_clumsy 6 s args lw_good RX10) (hret : meth.sig.returnType = (some .int)) (hlk : meth.locks = false) (hU : gU 0 D cA ad s)  {r : Int32} {st' : gS} {k20 : Int32 → Int32 → Int32 → gS → Option (Int32 × gS)} (hk20 : ∀ {l2 : Int32} {l3 : Int32} {l4 : Int32} {st : gS} {H : Heap} {locs : List Loc} {ls : Array Slot}, k20 l2 l3 l4 st = some (r, st') → gP0 0 D cA ad st H → va_S (gA 0 ad) s.heap H locs → lv_has ls 6 [(0, .ref (ad 0)), (1, .int a1), (2, .int l2), (3, .int l3), (4, .int l4)] → W p l e (gRm 6) s m args below meth c H locs 0 0 (MQ below (gQc 0 D cA ad st' (some (.int r))) args s 0 0 (gA 0 ad)) (F0 m 20 ls [])) {l2 : Int32} {l3 : Int32} {l4 : Int32} {s0 : Int32} {st : gS} {H : Heap} {locs : List Loc} {ls : Array Slot} (hf : fX10_clumsy_63 a1 k20 l2 l3 l4 s0 st = some (r, st')) (hH : gP0 0 D cA ad st H) (hS : va_S (gA 0 ad) s.heap H locs) (hl : lv_has ls 6 [(0, .ref (ad 0)), (1, .int a1), (2, .int l2), (3, .int l3), (4, .int l4)]) : W p l e (gRm 6) s m args below meth c H locs 0 0 (MQ below (gQc 0 D cA ad st' (some (.int r))) args s 0 0 (gA 0 ad)) (F0 m 63 ls [.int s0]) := by
  obtain ⟨hx, hb, hml, hown, hts⟩ := id hC
  unfold fX10_clumsy_63 at hf
  refine lv_istore (lv' := [(5, .int s0), (0, .ref (ad 0)), (1, .int a1), (2, .int l2), (3, .int l3), (4, .int l4)]) (pc := 63) hx hb dX10_clumsy_63 hl (by decide) rfl (fun ls hl => ?_)
  refine lv_iload (pc := 65) hx hb dX10_clumsy_65 (lv_at hl 0 rfl) ?_
  refine lv_iload_n (pc := 67) hx hb dX10_clumsy_67 rfl (lv_at hl 4 rfl) ?_
  refine lv_icmp_le (tgt := 77) (pc := 68) hx hb dX10_clumsy_68 (by decide) (fun hc => ?_) (fun hc => ?_)
  · have hf := gif_p hc hf
    refine lv_iinc (v := l4 + 1) (lv' := [(4, .int (l4 + 1)), (5, .int s0), (0, .ref (ad 0)), (1, .int a1), (2, .int l2), (3, .int l3)]) (k := 5) (pc := 77) hx hb dX10_clumsy_77 hl rfl rfl (by decide) rfl (fun ls hl => ?_)
    refine lv_goto (tgt := 20) (pc := 80) hx hb dX10_clumsy_80 (by decide) ?_
    exact hk20 hf hH hS (lv_sub hl [2, 3, 4, 5, 0] rfl)
  · have hf := gif_n hc hf
    refine lv_iload (pc := 71) hx hb dX10_clumsy_71 (lv_at hl 0 rfl) ?_
    refine lv_istore_n (lv' := [(3, .int s0), (5, .int s0), (0, .ref (ad 0)), (1, .int a1), (2, .int l2), (4, .int l4)]) (pc := 73) hx hb dX10_clumsy_73 rfl hl (by decide) rfl (fun ls hl => ?_)
    refine lv_iload (pc := 74) hx hb dX10_clumsy_74 (lv_at hl 5 rfl) ?_
    refine lv_istore_n (lv' := [(2, .int l4), (3, .int s0), (5, .int s0), (0, .ref (ad 0)), (1, .int a1), (4, .int l4)]) (pc := 76) hx hb dX10_clumsy_76 rfl hl (by decide) rfl (fun ls hl => ?_)
    refine lv_iinc (v := l4 + 1) (lv' := [(4, .int (l4 + 1)), (2, .int l4), (3, .int s0), (5, .int s0), (0, .ref (ad 0)), (1, .int a1)]) (k := 5) (pc := 77) hx hb dX10_clumsy_77 hl rfl rfl (by decide) rfl (fun ls hl => ?_)
    refine lv_goto (tgt := 20) (pc := 80) hx hb dX10_clumsy_80 (by decide) ?_
    exact hk20 hf hH hS (lv_sub hl [4, 5, 1, 2, 0] rfl)
def fX10_clumsy_20 (a1 : Int32) (k20 : Int32 → Int32 → Int32 → gS → Option (Int32 × gS)) (l2 : Int32) (l3 : Int32) (l4 : Int32) (st : gS) : Option (Int32 × gS) :=
  gc (gK 0 (st.2.2 0 9) = 8) (if (st.1 (st.2.2 0 9) 13) ≤ l4 then (some (l2, st)) else (gc (gK 0 (st.2.2 0 9) = 8) ((fX8_can (st.2.2 0 9) l4 a1 st).bind fun q20_1 => (if q20_1.1 = 0 then (fX10_clumsy_63 a1 k20 l2 l3 l4 (-1) q20_1.2) else (gc (gK 0 (q20_1.2.2.2 0 9) = 8) ((fX8_slipOf (q20_1.2.2.2 0 9) l4 a1 20 q20_1.2).bind fun q20_2 => (fX10_clumsy_63 a1 k20 l2 l3 l4 q20_2.1 q20_2.2)))))))
set_option maxRecDepth 100000 in
set_option maxHeartbeats 4000000 in
theorem bX10_clumsy_20 {a1 : Int32} (hC : CallFix p m c cX10_clumsy 6 s args lw_good RX10) (hret : meth.sig.returnType = (some .int)) (hlk : meth.locks = false) (hU : gU 0 D cA ad s)  {r : Int32} {st' : gS} {k20 : Int32 → Int32 → Int32 → gS → Option (Int32 × gS)} (hk20 : ∀ {l2 : Int32} {l3 : Int32} {l4 : Int32} {st : gS} {H : Heap} {locs : List Loc} {ls : Array Slot}, k20 l2 l3 l4 st = some (r, st') → gP0 0 D cA ad st H → va_S (gA 0 ad) s.heap H locs → lv_has ls 6 [(0, .ref (ad 0)), (1, .int a1), (2, .int l2), (3, .int l3), (4, .int l4)] → W p l e (gRm 6) s m args below meth c H locs 0 0 (MQ below (gQc 0 D cA ad st' (some (.int r))) args s 0 0 (gA 0 ad)) (F0 m 20 ls [])) {l2 : Int32} {l3 : Int32} {l4 : Int32} {st : gS} {H : Heap} {locs : List Loc} {ls : Array Slot} (hf : fX10_clumsy_20 a1 k20 l2 l3 l4 st = some (r, st')) (hH : gP0 0 D cA ad st H) (hS : va_S (gA 0 ad) s.heap H locs) (hl : lv_has ls 6 [(0, .ref (ad 0)), (1, .int a1), (2, .int l2), (3, .int l3), (4, .int l4)]) : W p l e (gRm 6) s m args below meth c H locs 0 0 (MQ below (gQc 0 D cA ad st' (some (.int r))) args s 0 0 (gA 0 ad)) (F0 m 20 ls []) := by
  obtain ⟨hx, hb, hml, hown, hts⟩ := id hC
  unfold fX10_clumsy_20 at hf
  refine lv_iload (pc := 20) hx hb dX10_clumsy_20 (lv_at hl 4 rfl) ?_
  refine lv_aload_n (pc := 22) hx hb dX10_clumsy_22 rfl (lv_at hl 0 rfl) ?_
  refine g_get (pc := 23) (v := .ref (ad (st.2.2 0 9))) hC hU hH gk0_0 g_cl10 9 (by decide) kf_X10_71 rfl dX10_clumsy_23 ?_
  obtain ⟨h20_1, hf⟩ := gc_s hf
  refine g_get (pc := 26) (v := .int (st.1 (st.2.2 0 9) 13)) hC hU hH h20_1 g_cl8 13 (by decide) kf_X10_247 rfl dX10_clumsy_26 ?_
  refine lv_icmp_ge (tgt := 83) (pc := 29) hx hb dX10_clumsy_29 (by decide) (fun hc => ?_) (fun hc => ?_)
  · have hf := gif_p hc hf
    refine lv_iload_n (pc := 83) hx hb dX10_clumsy_83 rfl (lv_at hl 2 rfl) ?_
    exact g_iret (pc := 84) hC hret hlk hH hS hf dX10_clumsy_84
  · have hf := gif_n hc hf
    refine lv_aload_n (pc := 32) hx hb dX10_clumsy_32 rfl (lv_at hl 0 rfl) ?_
    refine g_get (pc := 33) (v := .ref (ad (st.2.2 0 9))) hC hU hH gk0_0 g_cl10 9 (by decide) kf_X10_71 rfl dX10_clumsy_33 ?_
    refine lv_iload (pc := 36) hx hb dX10_clumsy_36 (lv_at hl 4 rfl) ?_
    refine lv_iload_n (pc := 38) hx hb dX10_clumsy_38 rfl (lv_at hl 1 rfl) ?_
    obtain ⟨h20_2, hf⟩ := gc_s hf
    obtain ⟨q20_1, hq20_1, hf⟩ := gbd hf
    refine g_callVi (pc := 39) (rest := []) hC hU hH hS hl.1 h20_2 rfl (by decide) (mX8_can h20_2 hq20_1) ky_X8_can km_X10_205 ⟨Nat.le_of_ble_eq_true rfl, Nat.le_of_ble_eq_true rfl⟩ ⟨Nat.zero_le _, Nat.zero_le _⟩ rfl (Nat.le_of_ble_eq_true rfl) dX10_clumsy_39 rfl (fun H locs hH hS => ?_)
    refine lv_if_eq (tgt := 62) (pc := 42) hx hb dX10_clumsy_42 (by decide) (fun hc => ?_) (fun hc => ?_)
    · have hf := gif_p hc hf
      refine lv_iconst (v := (-1)) (pc := 62) hx hb dX10_clumsy_62 (by decide) ?_
      exact bX10_clumsy_63 hC hret hlk hU hk20 hf hH hS (lv_sub hl [0, 1, 2, 3, 4] rfl)
    · have hf := gif_n hc hf
      refine lv_aload_n (pc := 45) hx hb dX10_clumsy_45 rfl (lv_at hl 0 rfl) ?_
      refine g_get (pc := 46) (v := .ref (ad (q20_1.2.2.2 0 9))) hC hU hH gk0_0 g_cl10 9 (by decide) kf_X10_71 rfl dX10_clumsy_46 ?_
      refine lv_iload (pc := 49) hx hb dX10_clumsy_49 (lv_at hl 4 rfl) ?_
      refine lv_iload_n (pc := 51) hx hb dX10_clumsy_51 rfl (lv_at hl 1 rfl) ?_
      refine lv_aload_n (pc := 52) hx hb dX10_clumsy_52 rfl (lv_at hl 0 rfl) ?_
      refine g_get (pc := 53) (v := .ref (ad 20)) hC hU hH gk0_0 g_cl10 2 (by decide) kf_X10_28 rfl dX10_clumsy_53 ?_
      obtain ⟨h20_3, hf⟩ := gc_s hf
      obtain ⟨q20_2, hq20_2, hf⟩ := gbd hf
      refine g_callVi (pc := 56) (rest := []) hC hU hH hS hl.1 h20_3 rfl (by decide) (mX8_slipOf h20_3 gk0_20 hq20_2) ky_X8_slipOf km_X10_190 ⟨Nat.le_of_ble_eq_true rfl, Nat.le_of_ble_eq_true rfl⟩ ⟨Nat.zero_le _, Nat.zero_le _⟩ rfl (Nat.le_of_ble_eq_true rfl) dX10_clumsy_56 rfl (fun H locs hH hS => ?_)
      refine lv_goto (tgt := 63) (pc := 59) hx hb dX10_clumsy_59 (by decide) ?_
      exact bX10_clumsy_63 hC hret hlk hU hk20 hf hH hS (lv_sub hl [0, 1, 2, 3, 4] rfl)
def hX10_clumsy_20 (a1 : Int32)  : Nat → Int32 → Int32 → Int32 → gS → Option (Int32 × gS)
  | 0 => fun _ _ _ _ => none
  | n + 1 => fun l2 l3 l4 st => fX10_clumsy_20 a1 (hX10_clumsy_20 a1 n) l2 l3 l4 st
set_option maxRecDepth 100000 in
set_option maxHeartbeats 4000000 in
theorem wX10_clumsy_20 {a1 : Int32} (hC : CallFix p m c cX10_clumsy 6 s args lw_good RX10) (hret : meth.sig.returnType = (some .int)) (hlk : meth.locks = false) (hU : gU 0 D cA ad s)  {r : Int32} {st' : gS}  : ∀ (n : Nat) {l2 : Int32} {l3 : Int32} {l4 : Int32} {st : gS} {H : Heap} {locs : List Loc} {ls : Array Slot}, hX10_clumsy_20 a1 n l2 l3 l4 st = some (r, st') → gP0 0 D cA ad st H → va_S (gA 0 ad) s.heap H locs → lv_has ls 6 [(0, .ref (ad 0)), (1, .int a1), (2, .int l2), (3, .int l3), (4, .int l4)] → W p l e (gRm 6) s m args below meth c H locs 0 0 (MQ below (gQc 0 D cA ad st' (some (.int r))) args s 0 0 (gA 0 ad)) (F0 m 20 ls []) := by
  intro n
  induction n with
  | zero => intro l2 l3 l4 st H locs ls hf hH hS hl; cases hf
  | succ n ih =>
    intro l2 l3 l4 st H locs ls hf hH hS hl
    exact bX10_clumsy_20 (a1 := a1) hC hret hlk hU (fun hf hH hS hl => ih hf hH hS hl) hf hH hS hl
def fX10_clumsy (a1 : Int32)   (st : gS) : Option (Int32 × gS) :=
  gc (gK 0 (st.2.2 0 9) = 8) ((fX8_hasMove (st.2.2 0 9) a1 st).bind fun q0_1 => (if q0_1.1 = 0 then (some ((-1), q0_1.2)) else (hX10_clumsy_20 a1 FU (-1) (-1) 0 q0_1.2)))
set_option maxRecDepth 100000 in
set_option maxHeartbeats 4000000 in
theorem bX10_clumsy_0 {a1 : Int32} (hC : CallFix p m c cX10_clumsy 6 s args lw_good RX10) (hret : meth.sig.returnType = (some .int)) (hlk : meth.locks = false) (hU : gU 0 D cA ad s)  {r : Int32} {st' : gS}   {st : gS} {H : Heap} {locs : List Loc} {ls : Array Slot} (hf : fX10_clumsy a1 st = some (r, st')) (hH : gP0 0 D cA ad st H) (hS : va_S (gA 0 ad) s.heap H locs) (hl : lv_has ls 6 [(0, .ref (ad 0)), (1, .int a1)]) : W p l e (gRm 6) s m args below meth c H locs 0 0 (MQ below (gQc 0 D cA ad st' (some (.int r))) args s 0 0 (gA 0 ad)) (F0 m 0 ls []) := by
  obtain ⟨hx, hb, hml, hown, hts⟩ := id hC
  unfold fX10_clumsy at hf
  refine lv_aload_n (pc := 0) hx hb dX10_clumsy_0 rfl (lv_at hl 0 rfl) ?_
  refine g_get (pc := 1) (v := .ref (ad (st.2.2 0 9))) hC hU hH gk0_0 g_cl10 9 (by decide) kf_X10_71 rfl dX10_clumsy_1 ?_
  refine lv_iload_n (pc := 4) hx hb dX10_clumsy_4 rfl (lv_at hl 1 rfl) ?_
  obtain ⟨h0_1, hf⟩ := gc_s hf
  obtain ⟨q0_1, hq0_1, hf⟩ := gbd hf
  refine g_callVi (pc := 5) (rest := []) hC hU hH hS hl.1 h0_1 rfl (by decide) (mX8_hasMove h0_1 hq0_1) ky_X8_hasMove km_X10_162 ⟨Nat.le_of_ble_eq_true rfl, Nat.le_of_ble_eq_true rfl⟩ ⟨Nat.zero_le _, Nat.zero_le _⟩ rfl (Nat.le_of_ble_eq_true rfl) dX10_clumsy_5 rfl (fun H locs hH hS => ?_)
  refine lv_if_ne (tgt := 13) (pc := 8) hx hb dX10_clumsy_8 (by decide) (fun hc => ?_) (fun hc => ?_)
  · have hf := gif_n hc hf
    refine lv_iconst (v := (-1)) (pc := 13) hx hb dX10_clumsy_13 (by decide) ?_
    refine lv_istore_n (lv' := [(2, .int (-1)), (0, .ref (ad 0)), (1, .int a1)]) (pc := 14) hx hb dX10_clumsy_14 rfl hl (by decide) rfl (fun ls hl => ?_)
    refine lv_iconst (v := (-1)) (pc := 15) hx hb dX10_clumsy_15 (by decide) ?_
    refine lv_istore_n (lv' := [(3, .int (-1)), (2, .int (-1)), (0, .ref (ad 0)), (1, .int a1)]) (pc := 16) hx hb dX10_clumsy_16 rfl hl (by decide) rfl (fun ls hl => ?_)
    refine lv_iconst (v := 0) (pc := 17) hx hb dX10_clumsy_17 (by decide) ?_
    refine lv_istore (lv' := [(4, .int 0), (3, .int (-1)), (2, .int (-1)), (0, .ref (ad 0)), (1, .int a1)]) (pc := 18) hx hb dX10_clumsy_18 hl (by decide) rfl (fun ls hl => ?_)
    exact wX10_clumsy_20 hC hret hlk hU FU hf hH hS (lv_sub hl [3, 4, 2, 1, 0] rfl)
  · have hf := gif_p hc hf
    refine lv_iconst (v := (-1)) (pc := 11) hx hb dX10_clumsy_11 (by decide) ?_
    exact g_iret (pc := 12) hC hret hlk hH hS hf dX10_clumsy_12
set_option maxRecDepth 100000 in
set_option maxHeartbeats 4000000 in
theorem mX10_clumsy {l : Launch} {D : va_G} {cA : Nat → ClassId} {ad : Nat → Nat} {a1 : Int32}  {r : Int32} {st st' : gS} (hf : fX10_clumsy a1 st = some (r, st')) : gM l yX10_clumsy cX10_clumsy 6 (some .int) 6 0 D cA ad st [.ref (ad 0), .int a1] (some (.int r)) st' := by
  refine g_met (by decide) (Nat.le_of_ble_eq_true rfl) ?_
  intro p e s m args below meth c ls hC hret hlk hU hH hl
  exact bX10_clumsy_0 hC hret hlk hU hf hH va_S.rf hl
def fX10_idle_19  (k19 : Int32 → Int32 → Int32 → gS → Option (Int32 × gS)) (l1 : Int32) (l2 : Int32) (l3 : Int32) (st : gS) : Option (Int32 × gS) :=
  gc (gK 0 (st.2.2 0 9) = 8) (if (st.1 (st.2.2 0 9) 13) ≤ l3 then (some (l2, st)) else (if l3 = (st.1 20 3) then (k19 l1 l2 (l3 + 1) st) else (gc (gK 0 (st.2.2 0 9) = 8) (gc (gI l3 5) (if ((st.1 ((st.2.2 0 9) + 1 + 4) l3.toNatClampNeg) &&& l1) = 0 then (gl (l2 ||| (1 <<< (l3 &&& 31))) fun x60 => (k19 l1 x60 (l3 + 1) st)) else (k19 l1 l2 (l3 + 1) st))))))
set_option maxRecDepth 100000 in
set_option maxHeartbeats 4000000 in
theorem bX10_idle_19  (hC : CallFix p m c cX10_idle 4 s args lw_good RX10) (hret : meth.sig.returnType = (some .int)) (hlk : meth.locks = false) (hU : gU 0 D cA ad s)  {r : Int32} {st' : gS} {k19 : Int32 → Int32 → Int32 → gS → Option (Int32 × gS)} (hk19 : ∀ {l1 : Int32} {l2 : Int32} {l3 : Int32} {st : gS} {H : Heap} {locs : List Loc} {ls : Array Slot}, k19 l1 l2 l3 st = some (r, st') → gP0 0 D cA ad st H → va_S (gA 0 ad) s.heap H locs → lv_has ls 4 [(0, .ref (ad 0)), (1, .int l1), (2, .int l2), (3, .int l3)] → W p l e (gRm 2) s m args below meth c H locs 0 0 (MQ below (gQc 0 D cA ad st' (some (.int r))) args s 0 0 (gA 0 ad)) (F0 m 19 ls [])) {l1 : Int32} {l2 : Int32} {l3 : Int32} {st : gS} {H : Heap} {locs : List Loc} {ls : Array Slot} (hf : fX10_idle_19 k19 l1 l2 l3 st = some (r, st')) (hH : gP0 0 D cA ad st H) (hS : va_S (gA 0 ad) s.heap H locs) (hl : lv_has ls 4 [(0, .ref (ad 0)), (1, .int l1), (2, .int l2), (3, .int l3)]) : W p l e (gRm 2) s m args below meth c H locs 0 0 (MQ below (gQc 0 D cA ad st' (some (.int r))) args s 0 0 (gA 0 ad)) (F0 m 19 ls []) := by
  obtain ⟨hx, hb, hml, hown, hts⟩ := id hC
  unfold fX10_idle_19 at hf
  refine lv_iload_n (pc := 19) hx hb dX10_idle_19 rfl (lv_at hl 3 rfl) ?_
  refine lv_aload_n (pc := 20) hx hb dX10_idle_20 rfl (lv_at hl 0 rfl) ?_
  refine g_get (pc := 21) (v := .ref (ad (st.2.2 0 9))) hC hU hH gk0_0 g_cl10 9 (by decide) kf_X10_71 rfl dX10_idle_21 ?_
  obtain ⟨h19_1, hf⟩ := gc_s hf
  refine g_get (pc := 24) (v := .int (st.1 (st.2.2 0 9) 13)) hC hU hH h19_1 g_cl8 13 (by decide) kf_X10_247 rfl dX10_idle_24 ?_
  refine lv_icmp_ge (tgt := 67) (pc := 27) hx hb dX10_idle_27 (by decide) (fun hc => ?_) (fun hc => ?_)
  · have hf := gif_p hc hf
    refine lv_iload_n (pc := 67) hx hb dX10_idle_67 rfl (lv_at hl 2 rfl) ?_
    exact g_iret (pc := 68) hC hret hlk hH hS hf dX10_idle_68
  · have hf := gif_n hc hf
    refine lv_iload_n (pc := 30) hx hb dX10_idle_30 rfl (lv_at hl 3 rfl) ?_
    refine lv_aload_n (pc := 31) hx hb dX10_idle_31 rfl (lv_at hl 0 rfl) ?_
    refine g_get (pc := 32) (v := .ref (ad 20)) hC hU hH gk0_0 g_cl10 2 (by decide) kf_X10_28 rfl dX10_idle_32 ?_
    refine g_get (pc := 35) (v := .int (st.1 20 3)) hC hU hH gk0_20 g_cl5 3 (by decide) kf_X10_152 rfl dX10_idle_35 ?_
    refine lv_icmp_eq (tgt := 61) (pc := 38) hx hb dX10_idle_38 (by decide) (fun hc => ?_) (fun hc => ?_)
    · have hf := gif_p hc hf
      refine lv_iinc (v := l3 + 1) (lv' := [(3, .int (l3 + 1)), (0, .ref (ad 0)), (1, .int l1), (2, .int l2)]) (k := 3) (pc := 61) hx hb dX10_idle_61 hl rfl rfl (by decide) rfl (fun ls hl => ?_)
      refine lv_goto (tgt := 19) (pc := 64) hx hb dX10_idle_64 (by decide) ?_
      exact hk19 hf hH hS (lv_sub hl [1, 2, 3, 0] rfl)
    · have hf := gif_n hc hf
      refine lv_aload_n (pc := 41) hx hb dX10_idle_41 rfl (lv_at hl 0 rfl) ?_
      refine g_get (pc := 42) (v := .ref (ad (st.2.2 0 9))) hC hU hH gk0_0 g_cl10 9 (by decide) kf_X10_71 rfl dX10_idle_42 ?_
      obtain ⟨h19_2, hf⟩ := gc_s hf
      refine g_get (pc := 45) (v := .ref (ad ((st.2.2 0 9) + 1 + 4))) hC hU hH h19_2 g_cl8 4 (by decide) kf_X10_149 rfl dX10_idle_45 ?_
      refine lv_iload_n (pc := 48) hx hb dX10_idle_48 rfl (lv_at hl 3 rfl) ?_
      obtain ⟨h19_3, hf⟩ := gc_s hf
      refine g_iald (pc := 49) hC hU hH (gk_8_4 h19_2) (gn_8_4 h19_2) h19_3 dX10_idle_49 ?_
      refine lv_iload_n (pc := 50) hx hb dX10_idle_50 rfl (lv_at hl 1 rfl) ?_
      refine lv_iand (pc := 51) hx hb dX10_idle_51 ?_
      refine lv_if_ne (tgt := 61) (pc := 52) hx hb dX10_idle_52 (by decide) (fun hc => ?_) (fun hc => ?_)
      · have hf := gif_n hc hf
        refine lv_iinc (v := l3 + 1) (lv' := [(3, .int (l3 + 1)), (0, .ref (ad 0)), (1, .int l1), (2, .int l2)]) (k := 3) (pc := 61) hx hb dX10_idle_61 hl rfl rfl (by decide) rfl (fun ls hl => ?_)
        refine lv_goto (tgt := 19) (pc := 64) hx hb dX10_idle_64 (by decide) ?_
        exact hk19 hf hH hS (lv_sub hl [1, 2, 3, 0] rfl)
      · have hf := gif_p hc hf
        refine lv_iload_n (pc := 55) hx hb dX10_idle_55 rfl (lv_at hl 2 rfl) ?_
        refine lv_iconst (v := 1) (pc := 56) hx hb dX10_idle_56 (by decide) ?_
        refine lv_iload_n (pc := 57) hx hb dX10_idle_57 rfl (lv_at hl 3 rfl) ?_
        refine lv_ishl (pc := 58) hx hb dX10_idle_58 ?_
        refine lv_ior (pc := 59) hx hb dX10_idle_59 ?_
        refine lv_topi (pc := 60) (fun x60 ex60 => ?_)
        have hf := gl_s ex60 hf
        refine lv_istore_n (lv' := [(2, .int x60), (0, .ref (ad 0)), (1, .int l1), (3, .int l3)]) (pc := 60) hx hb dX10_idle_60 rfl hl (by decide) rfl (fun ls hl => ?_)
        refine lv_iinc (v := l3 + 1) (lv' := [(3, .int (l3 + 1)), (2, .int x60), (0, .ref (ad 0)), (1, .int l1)]) (k := 3) (pc := 61) hx hb dX10_idle_61 hl rfl rfl (by decide) rfl (fun ls hl => ?_)
        refine lv_goto (tgt := 19) (pc := 64) hx hb dX10_idle_64 (by decide) ?_
        exact hk19 hf hH hS (lv_sub hl [2, 3, 1, 0] rfl)
def hX10_idle_19   : Nat → Int32 → Int32 → Int32 → gS → Option (Int32 × gS)
  | 0 => fun _ _ _ _ => none
  | n + 1 => fun l1 l2 l3 st => fX10_idle_19 (hX10_idle_19  n) l1 l2 l3 st
set_option maxRecDepth 100000 in
set_option maxHeartbeats 4000000 in
theorem wX10_idle_19  (hC : CallFix p m c cX10_idle 4 s args lw_good RX10) (hret : meth.sig.returnType = (some .int)) (hlk : meth.locks = false) (hU : gU 0 D cA ad s)  {r : Int32} {st' : gS}  : ∀ (n : Nat) {l1 : Int32} {l2 : Int32} {l3 : Int32} {st : gS} {H : Heap} {locs : List Loc} {ls : Array Slot}, hX10_idle_19  n l1 l2 l3 st = some (r, st') → gP0 0 D cA ad st H → va_S (gA 0 ad) s.heap H locs → lv_has ls 4 [(0, .ref (ad 0)), (1, .int l1), (2, .int l2), (3, .int l3)] → W p l e (gRm 2) s m args below meth c H locs 0 0 (MQ below (gQc 0 D cA ad st' (some (.int r))) args s 0 0 (gA 0 ad)) (F0 m 19 ls []) := by
  intro n
  induction n with
  | zero => intro l1 l2 l3 st H locs ls hf hH hS hl; cases hf
  | succ n ih =>
    intro l1 l2 l3 st H locs ls hf hH hS hl
    exact bX10_idle_19  hC hret hlk hU (fun hf hH hS hl => ih hf hH hS hl) hf hH hS hl
def fX10_idle    (st : gS) : Option (Int32 × gS) :=
  gc (gK 0 (st.2.2 0 9) = 8) ((fX8_movesFrom (st.2.2 0 9) (st.1 20 2) st).bind fun q0_1 => (hX10_idle_19 FU q0_1.1 0 0 q0_1.2))
set_option maxRecDepth 100000 in
set_option maxHeartbeats 4000000 in
theorem bX10_idle_0  (hC : CallFix p m c cX10_idle 4 s args lw_good RX10) (hret : meth.sig.returnType = (some .int)) (hlk : meth.locks = false) (hU : gU 0 D cA ad s)  {r : Int32} {st' : gS}   {st : gS} {H : Heap} {locs : List Loc} {ls : Array Slot} (hf : fX10_idle st = some (r, st')) (hH : gP0 0 D cA ad st H) (hS : va_S (gA 0 ad) s.heap H locs) (hl : lv_has ls 4 [(0, .ref (ad 0))]) : W p l e (gRm 2) s m args below meth c H locs 0 0 (MQ below (gQc 0 D cA ad st' (some (.int r))) args s 0 0 (gA 0 ad)) (F0 m 0 ls []) := by
  obtain ⟨hx, hb, hml, hown, hts⟩ := id hC
  unfold fX10_idle at hf
  refine lv_aload_n (pc := 0) hx hb dX10_idle_0 rfl (lv_at hl 0 rfl) ?_
  refine g_get (pc := 1) (v := .ref (ad (st.2.2 0 9))) hC hU hH gk0_0 g_cl10 9 (by decide) kf_X10_71 rfl dX10_idle_1 ?_
  refine lv_aload_n (pc := 4) hx hb dX10_idle_4 rfl (lv_at hl 0 rfl) ?_
  refine g_get (pc := 5) (v := .ref (ad 20)) hC hU hH gk0_0 g_cl10 2 (by decide) kf_X10_28 rfl dX10_idle_5 ?_
  refine g_get (pc := 8) (v := .int (st.1 20 2)) hC hU hH gk0_20 g_cl5 2 (by decide) kf_X10_155 rfl dX10_idle_8 ?_
  obtain ⟨h0_1, hf⟩ := gc_s hf
  obtain ⟨q0_1, hq0_1, hf⟩ := gbd hf
  refine g_callVi (pc := 11) (rest := []) hC hU hH hS hl.1 h0_1 rfl (by decide) (mX8_movesFrom h0_1 hq0_1) ky_X8_movesFrom km_X10_158 ⟨Nat.le_of_ble_eq_true rfl, Nat.le_of_ble_eq_true rfl⟩ ⟨Nat.zero_le _, Nat.zero_le _⟩ rfl (Nat.le_of_ble_eq_true rfl) dX10_idle_11 rfl (fun H locs hH hS => ?_)
  refine lv_istore_n (lv' := [(1, .int q0_1.1), (0, .ref (ad 0))]) (pc := 14) hx hb dX10_idle_14 rfl hl (by decide) rfl (fun ls hl => ?_)
  refine lv_iconst (v := 0) (pc := 15) hx hb dX10_idle_15 (by decide) ?_
  refine lv_istore_n (lv' := [(2, .int 0), (1, .int q0_1.1), (0, .ref (ad 0))]) (pc := 16) hx hb dX10_idle_16 rfl hl (by decide) rfl (fun ls hl => ?_)
  refine lv_iconst (v := 0) (pc := 17) hx hb dX10_idle_17 (by decide) ?_
  refine lv_istore_n (lv' := [(3, .int 0), (2, .int 0), (1, .int q0_1.1), (0, .ref (ad 0))]) (pc := 18) hx hb dX10_idle_18 rfl hl (by decide) rfl (fun ls hl => ?_)
  exact wX10_idle_19 hC hret hlk hU FU hf hH hS (lv_sub hl [3, 2, 1, 0] rfl)
set_option maxRecDepth 100000 in
set_option maxHeartbeats 4000000 in
theorem mX10_idle {l : Launch} {D : va_G} {cA : Nat → ClassId} {ad : Nat → Nat}   {r : Int32} {st st' : gS} (hf : fX10_idle  st = some (r, st')) : gM l yX10_idle cX10_idle 4 (some .int) 2 0 D cA ad st [.ref (ad 0)] (some (.int r)) st' := by
  refine g_met (by decide) (Nat.le_of_ble_eq_true rfl) ?_
  intro p e s m args below meth c ls hC hret hlk hU hH hl
  exact bX10_idle_0 hC hret hlk hU hf hH va_S.rf hl
def fX10_ends_12  (k12 : Int32 → Int32 → Int32 → gS → Option (Int32 × gS)) (l1 : Int32) (l2 : Int32) (l3 : Int32) (st : gS) : Option (Int32 × gS) :=
  gc (gK 0 (st.2.2 0 9) = 8) (if (st.1 (st.2.2 0 9) 12) ≤ l3 then (some (l2, st)) else (gc (gK 0 (st.2.2 0 9) = 8) ((fX8_movesFrom (st.2.2 0 9) l3 st).bind fun q12_1 => (if (l1 &&& q12_1.1) = 0 then (gl (l2 ||| (1 <<< (l3 &&& 31))) fun x41 => (k12 l1 x41 (l3 + 1) q12_1.2)) else (k12 l1 l2 (l3 + 1) q12_1.2)))))
set_option maxRecDepth 100000 in
set_option maxHeartbeats 4000000 in
theorem bX10_ends_12  (hC : CallFix p m c cX10_ends 4 s args lw_good RX10) (hret : meth.sig.returnType = (some .int)) (hlk : meth.locks = false) (hU : gU 0 D cA ad s)  {r : Int32} {st' : gS} {k12 : Int32 → Int32 → Int32 → gS → Option (Int32 × gS)} (hk12 : ∀ {l1 : Int32} {l2 : Int32} {l3 : Int32} {st : gS} {H : Heap} {locs : List Loc} {ls : Array Slot}, k12 l1 l2 l3 st = some (r, st') → gP0 0 D cA ad st H → va_S (gA 0 ad) s.heap H locs → lv_has ls 4 [(0, .ref (ad 0)), (1, .int l1), (2, .int l2), (3, .int l3)] → W p l e (gRm 2) s m args below meth c H locs 0 0 (MQ below (gQc 0 D cA ad st' (some (.int r))) args s 0 0 (gA 0 ad)) (F0 m 12 ls [])) {l1 : Int32} {l2 : Int32} {l3 : Int32} {st : gS} {H : Heap} {locs : List Loc} {ls : Array Slot} (hf : fX10_ends_12 k12 l1 l2 l3 st = some (r, st')) (hH : gP0 0 D cA ad st H) (hS : va_S (gA 0 ad) s.heap H locs) (hl : lv_has ls 4 [(0, .ref (ad 0)), (1, .int l1), (2, .int l2), (3, .int l3)]) : W p l e (gRm 2) s m args below meth c H locs 0 0 (MQ below (gQc 0 D cA ad st' (some (.int r))) args s 0 0 (gA 0 ad)) (F0 m 12 ls []) := by
  obtain ⟨hx, hb, hml, hown, hts⟩ := id hC
  unfold fX10_ends_12 at hf
  refine lv_iload_n (pc := 12) hx hb dX10_ends_12 rfl (lv_at hl 3 rfl) ?_
  refine lv_aload_n (pc := 13) hx hb dX10_ends_13 rfl (lv_at hl 0 rfl) ?_
  refine g_get (pc := 14) (v := .ref (ad (st.2.2 0 9))) hC hU hH gk0_0 g_cl10 9 (by decide) kf_X10_71 rfl dX10_ends_14 ?_
  obtain ⟨h12_1, hf⟩ := gc_s hf
  refine g_get (pc := 17) (v := .int (st.1 (st.2.2 0 9) 12)) hC hU hH h12_1 g_cl8 12 (by decide) kf_X10_120 rfl dX10_ends_17 ?_
  refine lv_icmp_ge (tgt := 48) (pc := 20) hx hb dX10_ends_20 (by decide) (fun hc => ?_) (fun hc => ?_)
  · have hf := gif_p hc hf
    refine lv_iload_n (pc := 48) hx hb dX10_ends_48 rfl (lv_at hl 2 rfl) ?_
    exact g_iret (pc := 49) hC hret hlk hH hS hf dX10_ends_49
  · have hf := gif_n hc hf
    refine lv_iload_n (pc := 23) hx hb dX10_ends_23 rfl (lv_at hl 1 rfl) ?_
    refine lv_aload_n (pc := 24) hx hb dX10_ends_24 rfl (lv_at hl 0 rfl) ?_
    refine g_get (pc := 25) (v := .ref (ad (st.2.2 0 9))) hC hU hH gk0_0 g_cl10 9 (by decide) kf_X10_71 rfl dX10_ends_25 ?_
    refine lv_iload_n (pc := 28) hx hb dX10_ends_28 rfl (lv_at hl 3 rfl) ?_
    obtain ⟨h12_2, hf⟩ := gc_s hf
    obtain ⟨q12_1, hq12_1, hf⟩ := gbd hf
    refine g_callVi (pc := 29) (rest := [.int l1]) hC hU hH hS hl.1 h12_2 rfl (by decide) (mX8_movesFrom h12_2 hq12_1) ky_X8_movesFrom km_X10_158 ⟨Nat.le_of_ble_eq_true rfl, Nat.le_of_ble_eq_true rfl⟩ ⟨Nat.zero_le _, Nat.zero_le _⟩ rfl (Nat.le_of_ble_eq_true rfl) dX10_ends_29 rfl (fun H locs hH hS => ?_)
    refine lv_iand (pc := 32) hx hb dX10_ends_32 ?_
    refine lv_if_ne (tgt := 42) (pc := 33) hx hb dX10_ends_33 (by decide) (fun hc => ?_) (fun hc => ?_)
    · have hf := gif_n hc hf
      refine lv_iinc (v := l3 + 1) (lv' := [(3, .int (l3 + 1)), (0, .ref (ad 0)), (1, .int l1), (2, .int l2)]) (k := 3) (pc := 42) hx hb dX10_ends_42 hl rfl rfl (by decide) rfl (fun ls hl => ?_)
      refine lv_goto (tgt := 12) (pc := 45) hx hb dX10_ends_45 (by decide) ?_
      exact hk12 hf hH hS (lv_sub hl [1, 2, 3, 0] rfl)
    · have hf := gif_p hc hf
      refine lv_iload_n (pc := 36) hx hb dX10_ends_36 rfl (lv_at hl 2 rfl) ?_
      refine lv_iconst (v := 1) (pc := 37) hx hb dX10_ends_37 (by decide) ?_
      refine lv_iload_n (pc := 38) hx hb dX10_ends_38 rfl (lv_at hl 3 rfl) ?_
      refine lv_ishl (pc := 39) hx hb dX10_ends_39 ?_
      refine lv_ior (pc := 40) hx hb dX10_ends_40 ?_
      refine lv_topi (pc := 41) (fun x41 ex41 => ?_)
      have hf := gl_s ex41 hf
      refine lv_istore_n (lv' := [(2, .int x41), (0, .ref (ad 0)), (1, .int l1), (3, .int l3)]) (pc := 41) hx hb dX10_ends_41 rfl hl (by decide) rfl (fun ls hl => ?_)
      refine lv_iinc (v := l3 + 1) (lv' := [(3, .int (l3 + 1)), (2, .int x41), (0, .ref (ad 0)), (1, .int l1)]) (k := 3) (pc := 42) hx hb dX10_ends_42 hl rfl rfl (by decide) rfl (fun ls hl => ?_)
      refine lv_goto (tgt := 12) (pc := 45) hx hb dX10_ends_45 (by decide) ?_
      exact hk12 hf hH hS (lv_sub hl [2, 3, 1, 0] rfl)
def hX10_ends_12   : Nat → Int32 → Int32 → Int32 → gS → Option (Int32 × gS)
  | 0 => fun _ _ _ _ => none
  | n + 1 => fun l1 l2 l3 st => fX10_ends_12 (hX10_ends_12  n) l1 l2 l3 st
set_option maxRecDepth 100000 in
set_option maxHeartbeats 4000000 in
theorem wX10_ends_12  (hC : CallFix p m c cX10_ends 4 s args lw_good RX10) (hret : meth.sig.returnType = (some .int)) (hlk : meth.locks = false) (hU : gU 0 D cA ad s)  {r : Int32} {st' : gS}  : ∀ (n : Nat) {l1 : Int32} {l2 : Int32} {l3 : Int32} {st : gS} {H : Heap} {locs : List Loc} {ls : Array Slot}, hX10_ends_12  n l1 l2 l3 st = some (r, st') → gP0 0 D cA ad st H → va_S (gA 0 ad) s.heap H locs → lv_has ls 4 [(0, .ref (ad 0)), (1, .int l1), (2, .int l2), (3, .int l3)] → W p l e (gRm 2) s m args below meth c H locs 0 0 (MQ below (gQc 0 D cA ad st' (some (.int r))) args s 0 0 (gA 0 ad)) (F0 m 12 ls []) := by
  intro n
  induction n with
  | zero => intro l1 l2 l3 st H locs ls hf hH hS hl; cases hf
  | succ n ih =>
    intro l1 l2 l3 st H locs ls hf hH hS hl
    exact bX10_ends_12  hC hret hlk hU (fun hf hH hS hl => ih hf hH hS hl) hf hH hS hl
def fX10_ends    (st : gS) : Option (Int32 × gS) :=
  gc (gK 0 (st.2.2 0 9) = 8) ((fX8_ableAny (st.2.2 0 9) st).bind fun q0_1 => (hX10_ends_12 FU q0_1.1 0 0 q0_1.2))
set_option maxRecDepth 100000 in
set_option maxHeartbeats 4000000 in
theorem bX10_ends_0  (hC : CallFix p m c cX10_ends 4 s args lw_good RX10) (hret : meth.sig.returnType = (some .int)) (hlk : meth.locks = false) (hU : gU 0 D cA ad s)  {r : Int32} {st' : gS}   {st : gS} {H : Heap} {locs : List Loc} {ls : Array Slot} (hf : fX10_ends st = some (r, st')) (hH : gP0 0 D cA ad st H) (hS : va_S (gA 0 ad) s.heap H locs) (hl : lv_has ls 4 [(0, .ref (ad 0))]) : W p l e (gRm 2) s m args below meth c H locs 0 0 (MQ below (gQc 0 D cA ad st' (some (.int r))) args s 0 0 (gA 0 ad)) (F0 m 0 ls []) := by
  obtain ⟨hx, hb, hml, hown, hts⟩ := id hC
  unfold fX10_ends at hf
  refine lv_aload_n (pc := 0) hx hb dX10_ends_0 rfl (lv_at hl 0 rfl) ?_
  refine g_get (pc := 1) (v := .ref (ad (st.2.2 0 9))) hC hU hH gk0_0 g_cl10 9 (by decide) kf_X10_71 rfl dX10_ends_1 ?_
  obtain ⟨h0_1, hf⟩ := gc_s hf
  obtain ⟨q0_1, hq0_1, hf⟩ := gbd hf
  refine g_callVi (pc := 4) (rest := []) hC hU hH hS hl.1 h0_1 rfl (by decide) (mX8_ableAny h0_1 hq0_1) ky_X8_ableAny km_X10_271 ⟨Nat.le_of_ble_eq_true rfl, Nat.le_of_ble_eq_true rfl⟩ ⟨Nat.zero_le _, Nat.zero_le _⟩ rfl (Nat.le_of_ble_eq_true rfl) dX10_ends_4 rfl (fun H locs hH hS => ?_)
  refine lv_istore_n (lv' := [(1, .int q0_1.1), (0, .ref (ad 0))]) (pc := 7) hx hb dX10_ends_7 rfl hl (by decide) rfl (fun ls hl => ?_)
  refine lv_iconst (v := 0) (pc := 8) hx hb dX10_ends_8 (by decide) ?_
  refine lv_istore_n (lv' := [(2, .int 0), (1, .int q0_1.1), (0, .ref (ad 0))]) (pc := 9) hx hb dX10_ends_9 rfl hl (by decide) rfl (fun ls hl => ?_)
  refine lv_iconst (v := 0) (pc := 10) hx hb dX10_ends_10 (by decide) ?_
  refine lv_istore_n (lv' := [(3, .int 0), (2, .int 0), (1, .int q0_1.1), (0, .ref (ad 0))]) (pc := 11) hx hb dX10_ends_11 rfl hl (by decide) rfl (fun ls hl => ?_)
  exact wX10_ends_12 hC hret hlk hU FU hf hH hS (lv_sub hl [3, 2, 1, 0] rfl)
set_option maxRecDepth 100000 in
set_option maxHeartbeats 4000000 in
theorem mX10_ends {l : Launch} {D : va_G} {cA : Nat → ClassId} {ad : Nat → Nat}   {r : Int32} {st st' : gS} (hf : fX10_ends  st = some (r, st')) : gM l yX10_ends cX10_ends 4 (some .int) 2 0 D cA ad st [.ref (ad 0)] (some (.int r)) st' := by
  refine g_met (by decide) (Nat.le_of_ble_eq_true rfl) ?_
  intro p e s m args below meth c ls hC hret hlk hU hH hl
  exact bX10_ends_0 hC hret hlk hU hf hH va_S.rf hl
def fX8_othersLedTo_40 (t : Nat) (a1 : Int32)  (l2 : Int32) (st : gS) : Option (Int32 × gS) :=
  gc (gI a1 16) (some (l2 &&& ((1 <<< ((st.1 (t + 1 + 6) a1.toNatClampNeg) &&& 31)) ^^^ (-1)), st))
set_option maxRecDepth 100000 in
set_option maxHeartbeats 4000000 in
theorem bX8_othersLedTo_40 {t : Nat} {a1 : Int32} (hC : CallFix p m c cX8_othersLedTo 3 s args lw_good RX8) (hret : meth.sig.returnType = (some .int)) (hlk : meth.locks = false) (hU : gU 0 D cA ad s) (ht : gK 0 t = 8) {r : Int32} {st' : gS}  {l2 : Int32} {st : gS} {H : Heap} {locs : List Loc} {ls : Array Slot} (hf : fX8_othersLedTo_40 t a1 l2 st = some (r, st')) (hH : gP0 0 D cA ad st H) (hS : va_S (gA 0 ad) s.heap H locs) (hl : lv_has ls 3 [(0, .ref (ad t)), (1, .int a1), (2, .int l2)]) : W p l e (gRm 2) s m args below meth c H locs 0 0 (MQ below (gQc 0 D cA ad st' (some (.int r))) args s 0 0 (gA 0 ad)) (F0 m 40 ls []) := by
  obtain ⟨hx, hb, hml, hown, hts⟩ := id hC
  unfold fX8_othersLedTo_40 at hf
  refine lv_iload_n (pc := 40) hx hb dX8_othersLedTo_40 rfl (lv_at hl 2 rfl) ?_
  refine lv_iconst (v := 1) (pc := 41) hx hb dX8_othersLedTo_41 (by decide) ?_
  refine lv_aload_n (pc := 42) hx hb dX8_othersLedTo_42 rfl (lv_at hl 0 rfl) ?_
  refine g_get (pc := 43) (v := .ref (ad (t + 1 + 6))) hC hU hH ht g_cl8 6 (by decide) kf_X8_31 rfl dX8_othersLedTo_43 ?_
  refine lv_iload_n (pc := 46) hx hb dX8_othersLedTo_46 rfl (lv_at hl 1 rfl) ?_
  obtain ⟨h40_1, hf⟩ := gc_s hf
  refine g_iald (pc := 47) hC hU hH (gk_8_6 ht) (gn_8_6 ht) h40_1 dX8_othersLedTo_47 ?_
  refine lv_ishl (pc := 48) hx hb dX8_othersLedTo_48 ?_
  refine lv_iconst (v := (-1)) (pc := 49) hx hb dX8_othersLedTo_49 (by decide) ?_
  refine lv_ixor (pc := 50) hx hb dX8_othersLedTo_50 ?_
  refine lv_iand (pc := 51) hx hb dX8_othersLedTo_51 ?_
  exact g_iret (pc := 52) hC hret hlk hH hS hf dX8_othersLedTo_52
def fX8_othersLedTo (t : Nat) (a1 : Int32)   (st : gS) : Option (Int32 × gS) :=
  (fX8_hasMove t a1 st).bind fun q0_1 => (if q0_1.1 = 0 then (some (0, q0_1.2)) else (gc (gI a1 16) (gl (1 <<< ((q0_1.2.1 (t + 1 + 7) a1.toNatClampNeg) &&& 31)) fun x18 => (gc (gI a1 16) (if (q0_1.2.1 (t + 1 + 10) a1.toNatClampNeg) = (-1) then (fX8_othersLedTo_40 t a1 x18 q0_1.2) else (gc (gI a1 16) (gl (x18 ||| (1 <<< ((q0_1.2.1 (t + 1 + 10) a1.toNatClampNeg) &&& 31))) fun x39 => (fX8_othersLedTo_40 t a1 x39 q0_1.2))))))))
set_option maxRecDepth 100000 in
set_option maxHeartbeats 4000000 in
theorem bX8_othersLedTo_0 {t : Nat} {a1 : Int32} (hC : CallFix p m c cX8_othersLedTo 3 s args lw_good RX8) (hret : meth.sig.returnType = (some .int)) (hlk : meth.locks = false) (hU : gU 0 D cA ad s) (ht : gK 0 t = 8) {r : Int32} {st' : gS}   {st : gS} {H : Heap} {locs : List Loc} {ls : Array Slot} (hf : fX8_othersLedTo t a1 st = some (r, st')) (hH : gP0 0 D cA ad st H) (hS : va_S (gA 0 ad) s.heap H locs) (hl : lv_has ls 3 [(0, .ref (ad t)), (1, .int a1)]) : W p l e (gRm 2) s m args below meth c H locs 0 0 (MQ below (gQc 0 D cA ad st' (some (.int r))) args s 0 0 (gA 0 ad)) (F0 m 0 ls []) := by
  obtain ⟨hx, hb, hml, hown, hts⟩ := id hC
  unfold fX8_othersLedTo at hf
  refine lv_aload_n (pc := 0) hx hb dX8_othersLedTo_0 rfl (lv_at hl 0 rfl) ?_
  refine lv_iload_n (pc := 1) hx hb dX8_othersLedTo_1 rfl (lv_at hl 1 rfl) ?_
  obtain ⟨q0_1, hq0_1, hf⟩ := gbd hf
  refine g_callVi (pc := 2) (rest := []) hC hU hH hS hl.1 ht rfl (by decide) (mX8_hasMove ht hq0_1) ky_X8_hasMove km_X8_115 ⟨Nat.le_of_ble_eq_true rfl, Nat.le_of_ble_eq_true rfl⟩ ⟨Nat.zero_le _, Nat.zero_le _⟩ rfl (Nat.le_of_ble_eq_true rfl) dX8_othersLedTo_2 rfl (fun H locs hH hS => ?_)
  refine lv_if_ne (tgt := 10) (pc := 5) hx hb dX8_othersLedTo_5 (by decide) (fun hc => ?_) (fun hc => ?_)
  · have hf := gif_n hc hf
    refine lv_iconst (v := 1) (pc := 10) hx hb dX8_othersLedTo_10 (by decide) ?_
    refine lv_aload_n (pc := 11) hx hb dX8_othersLedTo_11 rfl (lv_at hl 0 rfl) ?_
    refine g_get (pc := 12) (v := .ref (ad (t + 1 + 7))) hC hU hH ht g_cl8 7 (by decide) kf_X8_34 rfl dX8_othersLedTo_12 ?_
    refine lv_iload_n (pc := 15) hx hb dX8_othersLedTo_15 rfl (lv_at hl 1 rfl) ?_
    obtain ⟨h0_1, hf⟩ := gc_s hf
    refine g_iald (pc := 16) hC hU hH (gk_8_7 ht) (gn_8_7 ht) h0_1 dX8_othersLedTo_16 ?_
    refine lv_ishl (pc := 17) hx hb dX8_othersLedTo_17 ?_
    refine lv_topi (pc := 18) (fun x18 ex18 => ?_)
    have hf := gl_s ex18 hf
    refine lv_istore_n (lv' := [(2, .int x18), (0, .ref (ad t)), (1, .int a1)]) (pc := 18) hx hb dX8_othersLedTo_18 rfl hl (by decide) rfl (fun ls hl => ?_)
    refine lv_aload_n (pc := 19) hx hb dX8_othersLedTo_19 rfl (lv_at hl 1 rfl) ?_
    refine g_get (pc := 20) (v := .ref (ad (t + 1 + 10))) hC hU hH ht g_cl8 10 (by decide) kf_X8_43 rfl dX8_othersLedTo_20 ?_
    refine lv_iload_n (pc := 23) hx hb dX8_othersLedTo_23 rfl (lv_at hl 2 rfl) ?_
    obtain ⟨h0_2, hf⟩ := gc_s hf
    refine g_iald (pc := 24) hC hU hH (gk_8_10 ht) (gn_8_10 ht) h0_2 dX8_othersLedTo_24 ?_
    refine lv_iconst (v := (-1)) (pc := 25) hx hb dX8_othersLedTo_25 (by decide) ?_
    refine lv_icmp_eq (tgt := 40) (pc := 26) hx hb dX8_othersLedTo_26 (by decide) (fun hc => ?_) (fun hc => ?_)
    · have hf := gif_p hc hf
      exact bX8_othersLedTo_40 hC hret hlk hU ht hf hH hS (lv_sub hl [1, 2, 0] rfl)
    · have hf := gif_n hc hf
      refine lv_iload_n (pc := 29) hx hb dX8_othersLedTo_29 rfl (lv_at hl 0 rfl) ?_
      refine lv_iconst (v := 1) (pc := 30) hx hb dX8_othersLedTo_30 (by decide) ?_
      refine lv_aload_n (pc := 31) hx hb dX8_othersLedTo_31 rfl (lv_at hl 1 rfl) ?_
      refine g_get (pc := 32) (v := .ref (ad (t + 1 + 10))) hC hU hH ht g_cl8 10 (by decide) kf_X8_43 rfl dX8_othersLedTo_32 ?_
      refine lv_iload_n (pc := 35) hx hb dX8_othersLedTo_35 rfl (lv_at hl 2 rfl) ?_
      obtain ⟨h0_3, hf⟩ := gc_s hf
      refine g_iald (pc := 36) hC hU hH (gk_8_10 ht) (gn_8_10 ht) h0_3 dX8_othersLedTo_36 ?_
      refine lv_ishl (pc := 37) hx hb dX8_othersLedTo_37 ?_
      refine lv_ior (pc := 38) hx hb dX8_othersLedTo_38 ?_
      refine lv_topi (pc := 39) (fun x39 ex39 => ?_)
      have hf := gl_s ex39 hf
      refine lv_istore_n (lv' := [(2, .int x39), (0, .ref (ad t)), (1, .int a1)]) (pc := 39) hx hb dX8_othersLedTo_39 rfl hl (by decide) rfl (fun ls hl => ?_)
      exact bX8_othersLedTo_40 hC hret hlk hU ht hf hH hS (lv_sub hl [1, 2, 0] rfl)
  · have hf := gif_p hc hf
    refine lv_iconst (v := 0) (pc := 8) hx hb dX8_othersLedTo_8 (by decide) ?_
    exact g_iret (pc := 9) hC hret hlk hH hS hf dX8_othersLedTo_9
set_option maxRecDepth 100000 in
set_option maxHeartbeats 4000000 in
theorem mX8_othersLedTo {l : Launch} {D : va_G} {cA : Nat → ClassId} {ad : Nat → Nat} {t : Nat} {a1 : Int32} (ht : gK 0 t = 8) {r : Int32} {st st' : gS} (hf : fX8_othersLedTo t a1 st = some (r, st')) : gM l yX8_othersLedTo cX8_othersLedTo 3 (some .int) 2 0 D cA ad st [.ref (ad t), .int a1] (some (.int r)) st' := by
  refine g_met (by decide) (Nat.le_of_ble_eq_true rfl) ?_
  intro p e s m args below meth c ls hC hret hlk hU hH hl
  exact bX8_othersLedTo_0 hC hret hlk hU ht hf hH va_S.rf hl
def fX10_sources_14  (k14 : Int32 → Int32 → gS → Option (Int32 × gS)) (l1 : Int32) (l2 : Int32) (st : gS) : Option (Int32 × gS) :=
  gc (gK 0 (st.2.2 0 9) = 8) (if (st.1 (st.2.2 0 9) 14) ≤ l2 then (some (l1, st)) else (gc (gK 0 (st.2.2 0 9) = 8) ((fX8_othersLedTo (st.2.2 0 9) l2 st).bind fun q14_1 => (gl (l1 &&& (q14_1.1 ^^^ (-1))) fun x37 => (k14 x37 (l2 + 1) q14_1.2)))))
set_option maxRecDepth 100000 in
set_option maxHeartbeats 4000000 in
theorem bX10_sources_14  (hC : CallFix p m c cX10_sources 3 s args lw_good RX10) (hret : meth.sig.returnType = (some .int)) (hlk : meth.locks = false) (hU : gU 0 D cA ad s)  {r : Int32} {st' : gS} {k14 : Int32 → Int32 → gS → Option (Int32 × gS)} (hk14 : ∀ {l1 : Int32} {l2 : Int32} {st : gS} {H : Heap} {locs : List Loc} {ls : Array Slot}, k14 l1 l2 st = some (r, st') → gP0 0 D cA ad st H → va_S (gA 0 ad) s.heap H locs → lv_has ls 3 [(0, .ref (ad 0)), (1, .int l1), (2, .int l2)] → W p l e (gRm 3) s m args below meth c H locs 0 0 (MQ below (gQc 0 D cA ad st' (some (.int r))) args s 0 0 (gA 0 ad)) (F0 m 14 ls [])) {l1 : Int32} {l2 : Int32} {st : gS} {H : Heap} {locs : List Loc} {ls : Array Slot} (hf : fX10_sources_14 k14 l1 l2 st = some (r, st')) (hH : gP0 0 D cA ad st H) (hS : va_S (gA 0 ad) s.heap H locs) (hl : lv_has ls 3 [(0, .ref (ad 0)), (1, .int l1), (2, .int l2)]) : W p l e (gRm 3) s m args below meth c H locs 0 0 (MQ below (gQc 0 D cA ad st' (some (.int r))) args s 0 0 (gA 0 ad)) (F0 m 14 ls []) := by
  obtain ⟨hx, hb, hml, hown, hts⟩ := id hC
  unfold fX10_sources_14 at hf
  refine lv_iload_n (pc := 14) hx hb dX10_sources_14 rfl (lv_at hl 2 rfl) ?_
  refine lv_aload_n (pc := 15) hx hb dX10_sources_15 rfl (lv_at hl 0 rfl) ?_
  refine g_get (pc := 16) (v := .ref (ad (st.2.2 0 9))) hC hU hH gk0_0 g_cl10 9 (by decide) kf_X10_71 rfl dX10_sources_16 ?_
  obtain ⟨h14_1, hf⟩ := gc_s hf
  refine g_get (pc := 19) (v := .int (st.1 (st.2.2 0 9) 14)) hC hU hH h14_1 g_cl8 14 (by decide) kf_X10_280 rfl dX10_sources_19 ?_
  refine lv_icmp_ge (tgt := 44) (pc := 22) hx hb dX10_sources_22 (by decide) (fun hc => ?_) (fun hc => ?_)
  · have hf := gif_p hc hf
    refine lv_iload_n (pc := 44) hx hb dX10_sources_44 rfl (lv_at hl 1 rfl) ?_
    exact g_iret (pc := 45) hC hret hlk hH hS hf dX10_sources_45
  · have hf := gif_n hc hf
    refine lv_iload_n (pc := 25) hx hb dX10_sources_25 rfl (lv_at hl 1 rfl) ?_
    refine lv_aload_n (pc := 26) hx hb dX10_sources_26 rfl (lv_at hl 0 rfl) ?_
    refine g_get (pc := 27) (v := .ref (ad (st.2.2 0 9))) hC hU hH gk0_0 g_cl10 9 (by decide) kf_X10_71 rfl dX10_sources_27 ?_
    refine lv_iload_n (pc := 30) hx hb dX10_sources_30 rfl (lv_at hl 2 rfl) ?_
    obtain ⟨h14_2, hf⟩ := gc_s hf
    obtain ⟨q14_1, hq14_1, hf⟩ := gbd hf
    refine g_callVi (pc := 31) (rest := [.int l1]) hC hU hH hS hl.1 h14_2 rfl (by decide) (mX8_othersLedTo h14_2 hq14_1) ky_X8_othersLedTo km_X10_283 ⟨Nat.le_of_ble_eq_true rfl, Nat.le_of_ble_eq_true rfl⟩ ⟨Nat.zero_le _, Nat.zero_le _⟩ rfl (Nat.le_of_ble_eq_true rfl) dX10_sources_31 rfl (fun H locs hH hS => ?_)
    refine lv_iconst (v := (-1)) (pc := 34) hx hb dX10_sources_34 (by decide) ?_
    refine lv_ixor (pc := 35) hx hb dX10_sources_35 ?_
    refine lv_iand (pc := 36) hx hb dX10_sources_36 ?_
    refine lv_topi (pc := 37) (fun x37 ex37 => ?_)
    have hf := gl_s ex37 hf
    refine lv_istore_n (lv' := [(1, .int x37), (0, .ref (ad 0)), (2, .int l2)]) (pc := 37) hx hb dX10_sources_37 rfl hl (by decide) rfl (fun ls hl => ?_)
    refine lv_iinc (v := l2 + 1) (lv' := [(2, .int (l2 + 1)), (1, .int x37), (0, .ref (ad 0))]) (k := 2) (pc := 38) hx hb dX10_sources_38 hl rfl rfl (by decide) rfl (fun ls hl => ?_)
    refine lv_goto (tgt := 14) (pc := 41) hx hb dX10_sources_41 (by decide) ?_
    exact hk14 hf hH hS (lv_sub hl [2, 1, 0] rfl)
def hX10_sources_14   : Nat → Int32 → Int32 → gS → Option (Int32 × gS)
  | 0 => fun _ _ _ => none
  | n + 1 => fun l1 l2 st => fX10_sources_14 (hX10_sources_14  n) l1 l2 st
set_option maxRecDepth 100000 in
set_option maxHeartbeats 4000000 in
theorem wX10_sources_14  (hC : CallFix p m c cX10_sources 3 s args lw_good RX10) (hret : meth.sig.returnType = (some .int)) (hlk : meth.locks = false) (hU : gU 0 D cA ad s)  {r : Int32} {st' : gS}  : ∀ (n : Nat) {l1 : Int32} {l2 : Int32} {st : gS} {H : Heap} {locs : List Loc} {ls : Array Slot}, hX10_sources_14  n l1 l2 st = some (r, st') → gP0 0 D cA ad st H → va_S (gA 0 ad) s.heap H locs → lv_has ls 3 [(0, .ref (ad 0)), (1, .int l1), (2, .int l2)] → W p l e (gRm 3) s m args below meth c H locs 0 0 (MQ below (gQc 0 D cA ad st' (some (.int r))) args s 0 0 (gA 0 ad)) (F0 m 14 ls []) := by
  intro n
  induction n with
  | zero => intro l1 l2 st H locs ls hf hH hS hl; cases hf
  | succ n ih =>
    intro l1 l2 st H locs ls hf hH hS hl
    exact bX10_sources_14  hC hret hlk hU (fun hf hH hS hl => ih hf hH hS hl) hf hH hS hl
def fX10_sources    (st : gS) : Option (Int32 × gS) :=
  gc (gK 0 (st.2.2 0 9) = 8) (gl ((1 <<< ((st.1 (st.2.2 0 9) 12) &&& 31)) - 1) fun x11 => (hX10_sources_14 FU x11 0 st))
set_option maxRecDepth 100000 in
set_option maxHeartbeats 4000000 in
theorem bX10_sources_0  (hC : CallFix p m c cX10_sources 3 s args lw_good RX10) (hret : meth.sig.returnType = (some .int)) (hlk : meth.locks = false) (hU : gU 0 D cA ad s)  {r : Int32} {st' : gS}   {st : gS} {H : Heap} {locs : List Loc} {ls : Array Slot} (hf : fX10_sources st = some (r, st')) (hH : gP0 0 D cA ad st H) (hS : va_S (gA 0 ad) s.heap H locs) (hl : lv_has ls 3 [(0, .ref (ad 0))]) : W p l e (gRm 3) s m args below meth c H locs 0 0 (MQ below (gQc 0 D cA ad st' (some (.int r))) args s 0 0 (gA 0 ad)) (F0 m 0 ls []) := by
  obtain ⟨hx, hb, hml, hown, hts⟩ := id hC
  unfold fX10_sources at hf
  refine lv_iconst (v := 1) (pc := 0) hx hb dX10_sources_0 (by decide) ?_
  refine lv_aload_n (pc := 1) hx hb dX10_sources_1 rfl (lv_at hl 0 rfl) ?_
  refine g_get (pc := 2) (v := .ref (ad (st.2.2 0 9))) hC hU hH gk0_0 g_cl10 9 (by decide) kf_X10_71 rfl dX10_sources_2 ?_
  obtain ⟨h0_1, hf⟩ := gc_s hf
  refine g_get (pc := 5) (v := .int (st.1 (st.2.2 0 9) 12)) hC hU hH h0_1 g_cl8 12 (by decide) kf_X10_120 rfl dX10_sources_5 ?_
  refine lv_ishl (pc := 8) hx hb dX10_sources_8 ?_
  refine lv_iconst (v := 1) (pc := 9) hx hb dX10_sources_9 (by decide) ?_
  refine lv_isub (pc := 10) hx hb dX10_sources_10 ?_
  refine lv_topi (pc := 11) (fun x11 ex11 => ?_)
  have hf := gl_s ex11 hf
  refine lv_istore_n (lv' := [(1, .int x11), (0, .ref (ad 0))]) (pc := 11) hx hb dX10_sources_11 rfl hl (by decide) rfl (fun ls hl => ?_)
  refine lv_iconst (v := 0) (pc := 12) hx hb dX10_sources_12 (by decide) ?_
  refine lv_istore_n (lv' := [(2, .int 0), (1, .int x11), (0, .ref (ad 0))]) (pc := 13) hx hb dX10_sources_13 rfl hl (by decide) rfl (fun ls hl => ?_)
  exact wX10_sources_14 hC hret hlk hU FU hf hH hS (lv_sub hl [2, 1, 0] rfl)
set_option maxRecDepth 100000 in
set_option maxHeartbeats 4000000 in
theorem mX10_sources {l : Launch} {D : va_G} {cA : Nat → ClassId} {ad : Nat → Nat}   {r : Int32} {st st' : gS} (hf : fX10_sources  st = some (r, st')) : gM l yX10_sources cX10_sources 3 (some .int) 3 0 D cA ad st [.ref (ad 0)] (some (.int r)) st' := by
  refine g_met (by decide) (Nat.le_of_ble_eq_true rfl) ?_
  intro p e s m args below meth c ls hC hret hlk hU hH hl
  exact bX10_sources_0 hC hret hlk hU hf hH va_S.rf hl
def fX5_hasBehind_33 (t : Nat) (r1 : Nat) (a2 : Int32) (a3 : Int32) (k33 : Int32 → Int32 → Int32 → Int32 → gS → Option (Int32 × gS)) (l4 : Int32) (l5 : Int32) (l6 : Int32) (l7 : Int32) (st : gS) : Option (Int32 × gS) :=
  if a3 ≤ l7 then (some (l4, st)) else ((fX8_worthOf r1 a2 l5 st).bind fun q33_1 => (if (l6 + 1) < (q33_1.2.1 r1 16) then (k33 (l4 + q33_1.1) l5 (l6 + 1) (l7 + 1) q33_1.2) else (k33 (l4 + q33_1.1) 0 0 (l7 + 1) q33_1.2)))
set_option maxRecDepth 100000 in
set_option maxHeartbeats 4000000 in
theorem bX5_hasBehind_33 {t : Nat} {r1 : Nat} {a2 : Int32} {a3 : Int32} (hC : CallFix p m c cX5_hasBehind 8 s args lw_good RX5) (hret : meth.sig.returnType = (some .int)) (hlk : meth.locks = false) (hU : gU 0 D cA ad s) (ht : gK 0 t = 5) (hr1 : gK 0 r1 = 8) {r : Int32} {st' : gS} {k33 : Int32 → Int32 → Int32 → Int32 → gS → Option (Int32 × gS)} (hk33 : ∀ {l4 : Int32} {l5 : Int32} {l6 : Int32} {l7 : Int32} {st : gS} {H : Heap} {locs : List Loc} {ls : Array Slot}, k33 l4 l5 l6 l7 st = some (r, st') → gP0 0 D cA ad st H → va_S (gA 0 ad) s.heap H locs → lv_has ls 8 [(1, .ref (ad r1)), (2, .int a2), (3, .int a3), (4, .int l4), (5, .int l5), (6, .int l6), (7, .int l7)] → W p l e (gRm 4) s m args below meth c H locs 0 0 (MQ below (gQc 0 D cA ad st' (some (.int r))) args s 0 0 (gA 0 ad)) (F0 m 33 ls [])) {l4 : Int32} {l5 : Int32} {l6 : Int32} {l7 : Int32} {st : gS} {H : Heap} {locs : List Loc} {ls : Array Slot} (hf : fX5_hasBehind_33 t r1 a2 a3 k33 l4 l5 l6 l7 st = some (r, st')) (hH : gP0 0 D cA ad st H) (hS : va_S (gA 0 ad) s.heap H locs) (hl : lv_has ls 8 [(1, .ref (ad r1)), (2, .int a2), (3, .int a3), (4, .int l4), (5, .int l5), (6, .int l6), (7, .int l7)]) : W p l e (gRm 4) s m args below meth c H locs 0 0 (MQ below (gQc 0 D cA ad st' (some (.int r))) args s 0 0 (gA 0 ad)) (F0 m 33 ls []) := by
  obtain ⟨hx, hb, hml, hown, hts⟩ := id hC
  unfold fX5_hasBehind_33 at hf
  refine lv_iload (pc := 33) hx hb dX5_hasBehind_33 (lv_at hl 6 rfl) ?_
  refine lv_iload_n (pc := 35) hx hb dX5_hasBehind_35 rfl (lv_at hl 2 rfl) ?_
  refine lv_icmp_ge (tgt := 75) (pc := 36) hx hb dX5_hasBehind_36 (by decide) (fun hc => ?_) (fun hc => ?_)
  · have hf := gif_p hc hf
    refine lv_iload (pc := 75) hx hb dX5_hasBehind_75 (lv_at hl 3 rfl) ?_
    exact g_iret (pc := 77) hC hret hlk hH hS hf dX5_hasBehind_77
  · have hf := gif_n hc hf
    refine lv_iload (pc := 39) hx hb dX5_hasBehind_39 (lv_at hl 3 rfl) ?_
    refine lv_aload_n (pc := 41) hx hb dX5_hasBehind_41 rfl (lv_at hl 0 rfl) ?_
    refine lv_iload_n (pc := 42) hx hb dX5_hasBehind_42 rfl (lv_at hl 1 rfl) ?_
    refine lv_iload (pc := 43) hx hb dX5_hasBehind_43 (lv_at hl 4 rfl) ?_
    obtain ⟨q33_1, hq33_1, hf⟩ := gbd hf
    refine g_callVi (pc := 45) (rest := [.int l4]) hC hU hH hS hl.1 hr1 rfl (by decide) (mX8_worthOf hr1 hq33_1) ky_X8_worthOf km_X5_84 ⟨Nat.le_of_ble_eq_true rfl, Nat.le_of_ble_eq_true rfl⟩ ⟨Nat.zero_le _, Nat.zero_le _⟩ rfl (Nat.le_of_ble_eq_true rfl) dX5_hasBehind_45 rfl (fun H locs hH hS => ?_)
    refine lv_iadd (pc := 48) hx hb dX5_hasBehind_48 ?_
    refine lv_istore (lv' := [(4, .int (l4 + q33_1.1)), (1, .ref (ad r1)), (2, .int a2), (3, .int a3), (5, .int l5), (6, .int l6), (7, .int l7)]) (pc := 49) hx hb dX5_hasBehind_49 hl (by decide) rfl (fun ls hl => ?_)
    refine lv_iinc (v := l6 + 1) (lv' := [(6, .int (l6 + 1)), (4, .int (l4 + q33_1.1)), (1, .ref (ad r1)), (2, .int a2), (3, .int a3), (5, .int l5), (7, .int l7)]) (k := 5) (pc := 51) hx hb dX5_hasBehind_51 hl rfl rfl (by decide) rfl (fun ls hl => ?_)
    refine lv_iload (pc := 54) hx hb dX5_hasBehind_54 (lv_at hl 0 rfl) ?_
    refine lv_aload_n (pc := 56) hx hb dX5_hasBehind_56 rfl (lv_at hl 2 rfl) ?_
    refine g_get (pc := 57) (v := .int (q33_1.2.1 r1 16)) hC hU hH hr1 g_cl8 16 (by decide) kf_X5_91 rfl dX5_hasBehind_57 ?_
    refine lv_icmp_lt (tgt := 69) (pc := 60) hx hb dX5_hasBehind_60 (by decide) (fun hc => ?_) (fun hc => ?_)
    · have hf := gif_p hc hf
      refine lv_iinc (v := l7 + 1) (lv' := [(7, .int (l7 + 1)), (6, .int (l6 + 1)), (4, .int (l4 + q33_1.1)), (1, .ref (ad r1)), (2, .int a2), (3, .int a3), (5, .int l5)]) (k := 6) (pc := 69) hx hb dX5_hasBehind_69 hl rfl rfl (by decide) rfl (fun ls hl => ?_)
      refine lv_goto (tgt := 33) (pc := 72) hx hb dX5_hasBehind_72 (by decide) ?_
      exact hk33 hf hH hS (lv_sub hl [3, 4, 5, 2, 6, 1, 0] rfl)
    · have hf := gif_n hc hf
      refine lv_iconst (v := 0) (pc := 63) hx hb dX5_hasBehind_63 (by decide) ?_
      refine lv_istore (lv' := [(5, .int 0), (6, .int (l6 + 1)), (4, .int (l4 + q33_1.1)), (1, .ref (ad r1)), (2, .int a2), (3, .int a3), (7, .int l7)]) (pc := 64) hx hb dX5_hasBehind_64 hl (by decide) rfl (fun ls hl => ?_)
      refine lv_iconst (v := 0) (pc := 66) hx hb dX5_hasBehind_66 (by decide) ?_
      refine lv_istore (lv' := [(6, .int 0), (5, .int 0), (4, .int (l4 + q33_1.1)), (1, .ref (ad r1)), (2, .int a2), (3, .int a3), (7, .int l7)]) (pc := 67) hx hb dX5_hasBehind_67 hl (by decide) rfl (fun ls hl => ?_)
      refine lv_iinc (v := l7 + 1) (lv' := [(7, .int (l7 + 1)), (6, .int 0), (5, .int 0), (4, .int (l4 + q33_1.1)), (1, .ref (ad r1)), (2, .int a2), (3, .int a3)]) (k := 6) (pc := 69) hx hb dX5_hasBehind_69 hl rfl rfl (by decide) rfl (fun ls hl => ?_)
      refine lv_goto (tgt := 33) (pc := 72) hx hb dX5_hasBehind_72 (by decide) ?_
      exact hk33 hf hH hS (lv_sub hl [4, 5, 6, 3, 2, 1, 0] rfl)
def hX5_hasBehind_33 (t : Nat) (r1 : Nat) (a2 : Int32) (a3 : Int32)  : Nat → Int32 → Int32 → Int32 → Int32 → gS → Option (Int32 × gS)
  | 0 => fun _ _ _ _ _ => none
  | n + 1 => fun l4 l5 l6 l7 st => fX5_hasBehind_33 t r1 a2 a3 (hX5_hasBehind_33 t r1 a2 a3 n) l4 l5 l6 l7 st
set_option maxRecDepth 100000 in
set_option maxHeartbeats 4000000 in
theorem wX5_hasBehind_33 {t : Nat} {r1 : Nat} {a2 : Int32} {a3 : Int32} (hC : CallFix p m c cX5_hasBehind 8 s args lw_good RX5) (hret : meth.sig.returnType = (some .int)) (hlk : meth.locks = false) (hU : gU 0 D cA ad s) (ht : gK 0 t = 5) (hr1 : gK 0 r1 = 8) {r : Int32} {st' : gS}  : ∀ (n : Nat) {l4 : Int32} {l5 : Int32} {l6 : Int32} {l7 : Int32} {st : gS} {H : Heap} {locs : List Loc} {ls : Array Slot}, hX5_hasBehind_33 t r1 a2 a3 n l4 l5 l6 l7 st = some (r, st') → gP0 0 D cA ad st H → va_S (gA 0 ad) s.heap H locs → lv_has ls 8 [(1, .ref (ad r1)), (2, .int a2), (3, .int a3), (4, .int l4), (5, .int l5), (6, .int l6), (7, .int l7)] → W p l e (gRm 4) s m args below meth c H locs 0 0 (MQ below (gQc 0 D cA ad st' (some (.int r))) args s 0 0 (gA 0 ad)) (F0 m 33 ls []) := by
  intro n
  induction n with
  | zero => intro l4 l5 l6 l7 st H locs ls hf hH hS hl; cases hf
  | succ n ih =>
    intro l4 l5 l6 l7 st H locs ls hf hH hS hl
    exact bX5_hasBehind_33 (t := t) (r1 := r1) (a2 := a2) (a3 := a3) hC hret hlk hU ht hr1 (fun hf hH hS hl => ih hf hH hS hl) hf hH hS hl
def fX5_hasBehind (t : Nat) (r1 : Nat) (a2 : Int32) (a3 : Int32)   (st : gS) : Option (Int32 × gS) :=
  (fX8_hasTribe r1 a2 st).bind fun q0_1 => (if q0_1.1 = 0 then (some ((-1), q0_1.2)) else (gc (gI a2 5) (gl (q0_1.2.1 (t + 1 + 0) a2.toNatClampNeg) fun x16 => (hX5_hasBehind_33 t r1 a2 a3 FU x16 (q0_1.2.1 t 2) (q0_1.2.1 t 4) 0 q0_1.2))))
set_option maxRecDepth 100000 in
set_option maxHeartbeats 4000000 in
theorem bX5_hasBehind_0 {t : Nat} {r1 : Nat} {a2 : Int32} {a3 : Int32} (hC : CallFix p m c cX5_hasBehind 8 s args lw_good RX5) (hret : meth.sig.returnType = (some .int)) (hlk : meth.locks = false) (hU : gU 0 D cA ad s) (ht : gK 0 t = 5) (hr1 : gK 0 r1 = 8) {r : Int32} {st' : gS}   {st : gS} {H : Heap} {locs : List Loc} {ls : Array Slot} (hf : fX5_hasBehind t r1 a2 a3 st = some (r, st')) (hH : gP0 0 D cA ad st H) (hS : va_S (gA 0 ad) s.heap H locs) (hl : lv_has ls 8 [(0, .ref (ad t)), (1, .ref (ad r1)), (2, .int a2), (3, .int a3)]) : W p l e (gRm 4) s m args below meth c H locs 0 0 (MQ below (gQc 0 D cA ad st' (some (.int r))) args s 0 0 (gA 0 ad)) (F0 m 0 ls []) := by
  obtain ⟨hx, hb, hml, hown, hts⟩ := id hC
  unfold fX5_hasBehind at hf
  refine lv_aload_n (pc := 0) hx hb dX5_hasBehind_0 rfl (lv_at hl 1 rfl) ?_
  refine lv_iload_n (pc := 1) hx hb dX5_hasBehind_1 rfl (lv_at hl 2 rfl) ?_
  obtain ⟨q0_1, hq0_1, hf⟩ := gbd hf
  refine g_callVi (pc := 2) (rest := []) hC hU hH hS hl.1 hr1 rfl (by decide) (mX8_hasTribe hr1 hq0_1) ky_X8_hasTribe km_X5_88 ⟨Nat.le_of_ble_eq_true rfl, Nat.le_of_ble_eq_true rfl⟩ ⟨Nat.zero_le _, Nat.zero_le _⟩ rfl (Nat.le_of_ble_eq_true rfl) dX5_hasBehind_2 rfl (fun H locs hH hS => ?_)
  refine lv_if_ne (tgt := 10) (pc := 5) hx hb dX5_hasBehind_5 (by decide) (fun hc => ?_) (fun hc => ?_)
  · have hf := gif_n hc hf
    refine lv_aload_n (pc := 10) hx hb dX5_hasBehind_10 rfl (lv_at hl 0 rfl) ?_
    refine g_get (pc := 11) (v := .ref (ad (t + 1 + 0))) hC hU hH ht g_cl5 0 (by decide) kf_X5_9 rfl dX5_hasBehind_11 ?_
    refine lv_iload_n (pc := 14) hx hb dX5_hasBehind_14 rfl (lv_at hl 2 rfl) ?_
    obtain ⟨h0_1, hf⟩ := gc_s hf
    refine g_iald (pc := 15) hC hU hH (gk_5_0 ht) (gn_5_0 ht) h0_1 dX5_hasBehind_15 ?_
    refine lv_topi (pc := 16) (fun x16 ex16 => ?_)
    have hf := gl_s ex16 hf
    refine lv_istore (lv' := [(4, .int x16), (0, .ref (ad t)), (1, .ref (ad r1)), (2, .int a2), (3, .int a3)]) (pc := 16) hx hb dX5_hasBehind_16 hl (by decide) rfl (fun ls hl => ?_)
    refine lv_aload_n (pc := 18) hx hb dX5_hasBehind_18 rfl (lv_at hl 1 rfl) ?_
    refine g_get (pc := 19) (v := .int (q0_1.2.1 t 2)) hC hU hH ht g_cl5 2 (by decide) kf_X5_18 rfl dX5_hasBehind_19 ?_
    refine lv_istore (lv' := [(5, .int (q0_1.2.1 t 2)), (4, .int x16), (0, .ref (ad t)), (1, .ref (ad r1)), (2, .int a2), (3, .int a3)]) (pc := 22) hx hb dX5_hasBehind_22 hl (by decide) rfl (fun ls hl => ?_)
    refine lv_aload_n (pc := 24) hx hb dX5_hasBehind_24 rfl (lv_at hl 2 rfl) ?_
    refine g_get (pc := 25) (v := .int (q0_1.2.1 t 4)) hC hU hH ht g_cl5 4 (by decide) kf_X5_25 rfl dX5_hasBehind_25 ?_
    refine lv_istore (lv' := [(6, .int (q0_1.2.1 t 4)), (5, .int (q0_1.2.1 t 2)), (4, .int x16), (0, .ref (ad t)), (1, .ref (ad r1)), (2, .int a2), (3, .int a3)]) (pc := 28) hx hb dX5_hasBehind_28 hl (by decide) rfl (fun ls hl => ?_)
    refine lv_iconst (v := 0) (pc := 30) hx hb dX5_hasBehind_30 (by decide) ?_
    refine lv_istore (lv' := [(7, .int 0), (6, .int (q0_1.2.1 t 4)), (5, .int (q0_1.2.1 t 2)), (4, .int x16), (0, .ref (ad t)), (1, .ref (ad r1)), (2, .int a2), (3, .int a3)]) (pc := 31) hx hb dX5_hasBehind_31 hl (by decide) rfl (fun ls hl => ?_)
    exact wX5_hasBehind_33 hC hret hlk hU ht hr1 FU hf hH hS (lv_sub hl [5, 6, 7, 3, 2, 1, 0] rfl)
  · have hf := gif_p hc hf
    refine lv_iconst (v := (-1)) (pc := 8) hx hb dX5_hasBehind_8 (by decide) ?_
    exact g_iret (pc := 9) hC hret hlk hH hS hf dX5_hasBehind_9
set_option maxRecDepth 100000 in
set_option maxHeartbeats 4000000 in
theorem mX5_hasBehind {l : Launch} {D : va_G} {cA : Nat → ClassId} {ad : Nat → Nat} {t : Nat} {r1 : Nat} {a2 : Int32} {a3 : Int32} (ht : gK 0 t = 5) (hr1 : gK 0 r1 = 8) {r : Int32} {st st' : gS} (hf : fX5_hasBehind t r1 a2 a3 st = some (r, st')) : gM l yX5_hasBehind cX5_hasBehind 8 (some .int) 4 0 D cA ad st [.ref (ad t), .ref (ad r1), .int a2, .int a3] (some (.int r)) st' := by
  refine g_met (by decide) (Nat.le_of_ble_eq_true rfl) ?_
  intro p e s m args below meth c ls hC hret hlk hU hH hl
  exact bX5_hasBehind_0 hC hret hlk hU ht hr1 hf hH va_S.rf hl
def fX10_will (a1 : Int32) (a2 : Int32)   (st : gS) : Option (Int32 × gS) :=
  gc (gK 0 (st.2.2 0 9) = 8) ((fX8_hasTribe (st.2.2 0 9) a1 st).bind fun q0_1 => (if q0_1.1 = 0 then (some ((-1), q0_1.2)) else (if a2 < 0 then (some ((-1), q0_1.2)) else (if a2 ≤ 60 then (gc (gK 0 (q0_1.2.2.2 0 9) = 8) ((fX5_hasBehind 20 (q0_1.2.2.2 0 9) a1 a2 q0_1.2).bind fun q0_2 => (some (q0_2.1, q0_2.2)))) else (some ((-1), q0_1.2))))))
set_option maxRecDepth 100000 in
set_option maxHeartbeats 4000000 in
theorem bX10_will_0 {a1 : Int32} {a2 : Int32} (hC : CallFix p m c cX10_will 3 s args lw_good RX10) (hret : meth.sig.returnType = (some .int)) (hlk : meth.locks = false) (hU : gU 0 D cA ad s)  {r : Int32} {st' : gS}   {st : gS} {H : Heap} {locs : List Loc} {ls : Array Slot} (hf : fX10_will a1 a2 st = some (r, st')) (hH : gP0 0 D cA ad st H) (hS : va_S (gA 0 ad) s.heap H locs) (hl : lv_has ls 3 [(0, .ref (ad 0)), (1, .int a1), (2, .int a2)]) : W p l e (gRm 5) s m args below meth c H locs 0 0 (MQ below (gQc 0 D cA ad st' (some (.int r))) args s 0 0 (gA 0 ad)) (F0 m 0 ls []) := by
  obtain ⟨hx, hb, hml, hown, hts⟩ := id hC
  unfold fX10_will at hf
  refine lv_aload_n (pc := 0) hx hb dX10_will_0 rfl (lv_at hl 0 rfl) ?_
  refine g_get (pc := 1) (v := .ref (ad (st.2.2 0 9))) hC hU hH gk0_0 g_cl10 9 (by decide) kf_X10_71 rfl dX10_will_1 ?_
  refine lv_iload_n (pc := 4) hx hb dX10_will_4 rfl (lv_at hl 1 rfl) ?_
  obtain ⟨h0_1, hf⟩ := gc_s hf
  obtain ⟨q0_1, hq0_1, hf⟩ := gbd hf
  refine g_callVi (pc := 5) (rest := []) hC hU hH hS hl.1 h0_1 rfl (by decide) (mX8_hasTribe h0_1 hq0_1) ky_X8_hasTribe km_X10_130 ⟨Nat.le_of_ble_eq_true rfl, Nat.le_of_ble_eq_true rfl⟩ ⟨Nat.zero_le _, Nat.zero_le _⟩ rfl (Nat.le_of_ble_eq_true rfl) dX10_will_5 rfl (fun H locs hH hS => ?_)
  refine lv_if_eq (tgt := 21) (pc := 8) hx hb dX10_will_8 (by decide) (fun hc => ?_) (fun hc => ?_)
  · have hf := gif_p hc hf
    refine lv_iconst (v := (-1)) (pc := 21) hx hb dX10_will_21 (by decide) ?_
    exact g_iret (pc := 22) hC hret hlk hH hS hf dX10_will_22
  · have hf := gif_n hc hf
    refine lv_iload_n (pc := 11) hx hb dX10_will_11 rfl (lv_at hl 2 rfl) ?_
    refine lv_if_lt (tgt := 21) (pc := 12) hx hb dX10_will_12 (by decide) (fun hc => ?_) (fun hc => ?_)
    · have hf := gif_p hc hf
      refine lv_iconst (v := (-1)) (pc := 21) hx hb dX10_will_21 (by decide) ?_
      exact g_iret (pc := 22) hC hret hlk hH hS hf dX10_will_22
    · have hf := gif_n hc hf
      refine lv_iload_n (pc := 15) hx hb dX10_will_15 rfl (lv_at hl 2 rfl) ?_
      refine lv_bipush (v := 60) (pc := 16) hx hb dX10_will_16 (by decide) ?_
      refine lv_icmp_le (tgt := 23) (pc := 18) hx hb dX10_will_18 (by decide) (fun hc => ?_) (fun hc => ?_)
      · have hf := gif_p hc hf
        refine lv_aload_n (pc := 23) hx hb dX10_will_23 rfl (lv_at hl 0 rfl) ?_
        refine g_get (pc := 24) (v := .ref (ad 20)) hC hU hH gk0_0 g_cl10 2 (by decide) kf_X10_28 rfl dX10_will_24 ?_
        refine lv_aload_n (pc := 27) hx hb dX10_will_27 rfl (lv_at hl 0 rfl) ?_
        refine g_get (pc := 28) (v := .ref (ad (q0_1.2.2.2 0 9))) hC hU hH gk0_0 g_cl10 9 (by decide) kf_X10_71 rfl dX10_will_28 ?_
        refine lv_iload_n (pc := 31) hx hb dX10_will_31 rfl (lv_at hl 1 rfl) ?_
        refine lv_iload_n (pc := 32) hx hb dX10_will_32 rfl (lv_at hl 2 rfl) ?_
        obtain ⟨h0_2, hf⟩ := gc_s hf
        obtain ⟨q0_2, hq0_2, hf⟩ := gbd hf
        refine g_callVi (pc := 33) (rest := []) hC hU hH hS hl.1 gk0_20 rfl (by decide) (mX5_hasBehind gk0_20 h0_2 hq0_2) ky_X5_hasBehind km_X10_286 ⟨Nat.le_of_ble_eq_true rfl, Nat.le_of_ble_eq_true rfl⟩ ⟨Nat.zero_le _, Nat.zero_le _⟩ rfl (Nat.le_of_ble_eq_true rfl) dX10_will_33 rfl (fun H locs hH hS => ?_)
        exact g_iret (pc := 36) hC hret hlk hH hS hf dX10_will_36
      · have hf := gif_n hc hf
        refine lv_iconst (v := (-1)) (pc := 21) hx hb dX10_will_21 (by decide) ?_
        exact g_iret (pc := 22) hC hret hlk hH hS hf dX10_will_22
set_option maxRecDepth 100000 in
set_option maxHeartbeats 4000000 in
theorem mX10_will {l : Launch} {D : va_G} {cA : Nat → ClassId} {ad : Nat → Nat} {a1 : Int32} {a2 : Int32}  {r : Int32} {st st' : gS} (hf : fX10_will a1 a2 st = some (r, st')) : gM l yX10_will cX10_will 3 (some .int) 5 0 D cA ad st [.ref (ad 0), .int a1, .int a2] (some (.int r)) st' := by
  refine g_met (by decide) (Nat.le_of_ble_eq_true rfl) ?_
  intro p e s m args below meth c ls hC hret hlk hU hH hl
  exact bX10_will_0 hC hret hlk hU hf hH va_S.rf hl
def fX10_mirror_48 (a1 : Int32)  (s0 : Int32) (s1 : Int32) (s2 : Nat) (st : gS) : Option (Int32 × gS) :=
  gc (gK 0 s2 = 8) ((fX8_ableIf s2 s1 s0 st).bind fun q48_1 => ((fJ6_bitCount_0f7a4 q48_1.1 q48_1.2).bind fun q48_2 => (gc (gK 0 (q48_2.2.2.2 0 9) = 8) (gc (gI a1 5) ((fJ6_bitCount_0f7a4 (q48_2.2.1 ((q48_2.2.2.2 0 9) + 1 + 4) a1.toNatClampNeg) q48_2.2).bind fun q48_3 => (some (q48_2.1 - q48_3.1, q48_3.2)))))))
set_option maxRecDepth 100000 in
set_option maxHeartbeats 4000000 in
theorem bX10_mirror_48 {a1 : Int32} (hC : CallFix p m c cX10_mirror 3 s args lw_good RX10) (hret : meth.sig.returnType = (some .int)) (hlk : meth.locks = false) (hU : gU 0 D cA ad s)  {r : Int32} {st' : gS}  {s0 : Int32} {s1 : Int32} {s2 : Nat} {st : gS} {H : Heap} {locs : List Loc} {ls : Array Slot} (hf : fX10_mirror_48 a1 s0 s1 s2 st = some (r, st')) (hH : gP0 0 D cA ad st H) (hS : va_S (gA 0 ad) s.heap H locs) (hl : lv_has ls 3 [(0, .ref (ad 0)), (1, .int a1)]) : W p l e (gRm 3) s m args below meth c H locs 0 0 (MQ below (gQc 0 D cA ad st' (some (.int r))) args s 0 0 (gA 0 ad)) (F0 m 48 ls [.int s0, .int s1, .ref (ad s2)]) := by
  obtain ⟨hx, hb, hml, hown, hts⟩ := id hC
  unfold fX10_mirror_48 at hf
  obtain ⟨h48_1, hf⟩ := gc_s hf
  obtain ⟨q48_1, hq48_1, hf⟩ := gbd hf
  refine g_callVi (pc := 48) (rest := []) hC hU hH hS hl.1 h48_1 rfl (by decide) (mX8_ableIf h48_1 hq48_1) ky_X8_ableIf km_X10_290 ⟨Nat.le_of_ble_eq_true rfl, Nat.le_of_ble_eq_true rfl⟩ ⟨Nat.zero_le _, Nat.zero_le _⟩ rfl (Nat.le_of_ble_eq_true rfl) dX10_mirror_48 rfl (fun H locs hH hS => ?_)
  obtain ⟨q48_2, hq48_2, hf⟩ := gbd hf
  refine g_callSi (pc := 51) (rest := []) hC hU hH hS hl.1 (mJ6_bitCount_0f7a4  hq48_2) ky_J6_bitCount_0f7a4 km_X10_257 ⟨Nat.le_of_ble_eq_true rfl, Nat.le_of_ble_eq_true rfl⟩ ⟨Nat.zero_le _, Nat.zero_le _⟩ rfl (Nat.le_of_ble_eq_true rfl) dX10_mirror_51 rfl (fun H locs hH hS => ?_)
  refine lv_aload_n (pc := 54) hx hb dX10_mirror_54 rfl (lv_at hl 0 rfl) ?_
  refine g_get (pc := 55) (v := .ref (ad (q48_2.2.2.2 0 9))) hC hU hH gk0_0 g_cl10 9 (by decide) kf_X10_71 rfl dX10_mirror_55 ?_
  obtain ⟨h48_2, hf⟩ := gc_s hf
  refine g_get (pc := 58) (v := .ref (ad ((q48_2.2.2.2 0 9) + 1 + 4))) hC hU hH h48_2 g_cl8 4 (by decide) kf_X10_149 rfl dX10_mirror_58 ?_
  refine lv_iload_n (pc := 61) hx hb dX10_mirror_61 rfl (lv_at hl 1 rfl) ?_
  obtain ⟨h48_3, hf⟩ := gc_s hf
  refine g_iald (pc := 62) hC hU hH (gk_8_4 h48_2) (gn_8_4 h48_2) h48_3 dX10_mirror_62 ?_
  obtain ⟨q48_3, hq48_3, hf⟩ := gbd hf
  refine g_callSi (pc := 63) (rest := [.int q48_2.1]) hC hU hH hS hl.1 (mJ6_bitCount_0f7a4  hq48_3) ky_J6_bitCount_0f7a4 km_X10_257 ⟨Nat.le_of_ble_eq_true rfl, Nat.le_of_ble_eq_true rfl⟩ ⟨Nat.zero_le _, Nat.zero_le _⟩ rfl (Nat.le_of_ble_eq_true rfl) dX10_mirror_63 rfl (fun H locs hH hS => ?_)
  refine lv_isub (pc := 66) hx hb dX10_mirror_66 ?_
  exact g_iret (pc := 67) hC hret hlk hH hS hf dX10_mirror_67
def fX10_mirror_33 (a1 : Int32)  (s0 : Int32) (st : gS) : Option (Int32 × gS) :=
  if s0 = 0 then (fX10_mirror_48 a1 1 a1 (st.2.2 0 9) st) else (fX10_mirror_48 a1 0 a1 (st.2.2 0 9) st)
set_option maxRecDepth 100000 in
set_option maxHeartbeats 4000000 in
theorem bX10_mirror_33 {a1 : Int32} (hC : CallFix p m c cX10_mirror 3 s args lw_good RX10) (hret : meth.sig.returnType = (some .int)) (hlk : meth.locks = false) (hU : gU 0 D cA ad s)  {r : Int32} {st' : gS}  {s0 : Int32} {st : gS} {H : Heap} {locs : List Loc} {ls : Array Slot} (hf : fX10_mirror_33 a1 s0 st = some (r, st')) (hH : gP0 0 D cA ad st H) (hS : va_S (gA 0 ad) s.heap H locs) (hl : lv_has ls 3 [(0, .ref (ad 0)), (1, .int a1)]) : W p l e (gRm 3) s m args below meth c H locs 0 0 (MQ below (gQc 0 D cA ad st' (some (.int r))) args s 0 0 (gA 0 ad)) (F0 m 33 ls [.int s0]) := by
  obtain ⟨hx, hb, hml, hown, hts⟩ := id hC
  unfold fX10_mirror_33 at hf
  refine lv_istore_n (lv' := [(2, .int s0), (0, .ref (ad 0)), (1, .int a1)]) (pc := 33) hx hb dX10_mirror_33 rfl hl (by decide) rfl (fun ls hl => ?_)
  refine lv_aload_n (pc := 34) hx hb dX10_mirror_34 rfl (lv_at hl 1 rfl) ?_
  refine g_get (pc := 35) (v := .ref (ad (st.2.2 0 9))) hC hU hH gk0_0 g_cl10 9 (by decide) kf_X10_71 rfl dX10_mirror_35 ?_
  refine lv_iload_n (pc := 38) hx hb dX10_mirror_38 rfl (lv_at hl 2 rfl) ?_
  refine lv_iload_n (pc := 39) hx hb dX10_mirror_39 rfl (lv_at hl 0 rfl) ?_
  refine lv_if_ne (tgt := 47) (pc := 40) hx hb dX10_mirror_40 (by decide) (fun hc => ?_) (fun hc => ?_)
  · have hf := gif_n hc hf
    refine lv_iconst (v := 0) (pc := 47) hx hb dX10_mirror_47 (by decide) ?_
    exact bX10_mirror_48 hC hret hlk hU hf hH hS (lv_sub hl [1, 2] rfl)
  · have hf := gif_p hc hf
    refine lv_iconst (v := 1) (pc := 43) hx hb dX10_mirror_43 (by decide) ?_
    refine lv_goto (tgt := 48) (pc := 44) hx hb dX10_mirror_44 (by decide) ?_
    exact bX10_mirror_48 hC hret hlk hU hf hH hS (lv_sub hl [1, 2] rfl)
def fX10_mirror (a1 : Int32)   (st : gS) : Option (Int32 × gS) :=
  gc (gK 0 (st.2.2 0 9) = 8) ((fX8_hasTribe (st.2.2 0 9) a1 st).bind fun q0_1 => (if q0_1.1 = 0 then (some ((-100), q0_1.2)) else (gc (gK 0 (q0_1.2.2.2 0 9) = 8) (if (((q0_1.2.1 (q0_1.2.2.2 0 9) 15) >>> (a1 &&& 31)) &&& 1) = 0 then (fX10_mirror_33 a1 0 q0_1.2) else (fX10_mirror_33 a1 1 q0_1.2)))))
set_option maxRecDepth 100000 in
set_option maxHeartbeats 4000000 in
theorem bX10_mirror_0 {a1 : Int32} (hC : CallFix p m c cX10_mirror 3 s args lw_good RX10) (hret : meth.sig.returnType = (some .int)) (hlk : meth.locks = false) (hU : gU 0 D cA ad s)  {r : Int32} {st' : gS}   {st : gS} {H : Heap} {locs : List Loc} {ls : Array Slot} (hf : fX10_mirror a1 st = some (r, st')) (hH : gP0 0 D cA ad st H) (hS : va_S (gA 0 ad) s.heap H locs) (hl : lv_has ls 3 [(0, .ref (ad 0)), (1, .int a1)]) : W p l e (gRm 3) s m args below meth c H locs 0 0 (MQ below (gQc 0 D cA ad st' (some (.int r))) args s 0 0 (gA 0 ad)) (F0 m 0 ls []) := by
  obtain ⟨hx, hb, hml, hown, hts⟩ := id hC
  unfold fX10_mirror at hf
  refine lv_aload_n (pc := 0) hx hb dX10_mirror_0 rfl (lv_at hl 0 rfl) ?_
  refine g_get (pc := 1) (v := .ref (ad (st.2.2 0 9))) hC hU hH gk0_0 g_cl10 9 (by decide) kf_X10_71 rfl dX10_mirror_1 ?_
  refine lv_iload_n (pc := 4) hx hb dX10_mirror_4 rfl (lv_at hl 1 rfl) ?_
  obtain ⟨h0_1, hf⟩ := gc_s hf
  obtain ⟨q0_1, hq0_1, hf⟩ := gbd hf
  refine g_callVi (pc := 5) (rest := []) hC hU hH hS hl.1 h0_1 rfl (by decide) (mX8_hasTribe h0_1 hq0_1) ky_X8_hasTribe km_X10_130 ⟨Nat.le_of_ble_eq_true rfl, Nat.le_of_ble_eq_true rfl⟩ ⟨Nat.zero_le _, Nat.zero_le _⟩ rfl (Nat.le_of_ble_eq_true rfl) dX10_mirror_5 rfl (fun H locs hH hS => ?_)
  refine lv_if_ne (tgt := 14) (pc := 8) hx hb dX10_mirror_8 (by decide) (fun hc => ?_) (fun hc => ?_)
  · have hf := gif_n hc hf
    refine lv_aload_n (pc := 14) hx hb dX10_mirror_14 rfl (lv_at hl 0 rfl) ?_
    refine g_get (pc := 15) (v := .ref (ad (q0_1.2.2.2 0 9))) hC hU hH gk0_0 g_cl10 9 (by decide) kf_X10_71 rfl dX10_mirror_15 ?_
    obtain ⟨h0_2, hf⟩ := gc_s hf
    refine g_get (pc := 18) (v := .int (q0_1.2.1 (q0_1.2.2.2 0 9) 15)) hC hU hH h0_2 g_cl8 15 (by decide) kf_X10_140 rfl dX10_mirror_18 ?_
    refine lv_iload_n (pc := 21) hx hb dX10_mirror_21 rfl (lv_at hl 1 rfl) ?_
    refine lv_ishr (pc := 22) hx hb dX10_mirror_22 ?_
    refine lv_iconst (v := 1) (pc := 23) hx hb dX10_mirror_23 (by decide) ?_
    refine lv_iand (pc := 24) hx hb dX10_mirror_24 ?_
    refine lv_if_eq (tgt := 32) (pc := 25) hx hb dX10_mirror_25 (by decide) (fun hc => ?_) (fun hc => ?_)
    · have hf := gif_p hc hf
      refine lv_iconst (v := 0) (pc := 32) hx hb dX10_mirror_32 (by decide) ?_
      exact bX10_mirror_33 hC hret hlk hU hf hH hS (lv_sub hl [0, 1] rfl)
    · have hf := gif_n hc hf
      refine lv_iconst (v := 1) (pc := 28) hx hb dX10_mirror_28 (by decide) ?_
      refine lv_goto (tgt := 33) (pc := 29) hx hb dX10_mirror_29 (by decide) ?_
      exact bX10_mirror_33 hC hret hlk hU hf hH hS (lv_sub hl [0, 1] rfl)
  · have hf := gif_p hc hf
    refine lv_bipush (v := (-100)) (pc := 11) hx hb dX10_mirror_11 (by decide) ?_
    exact g_iret (pc := 13) hC hret hlk hH hS hf dX10_mirror_13
set_option maxRecDepth 100000 in
set_option maxHeartbeats 4000000 in
theorem mX10_mirror {l : Launch} {D : va_G} {cA : Nat → ClassId} {ad : Nat → Nat} {a1 : Int32}  {r : Int32} {st st' : gS} (hf : fX10_mirror a1 st = some (r, st')) : gM l yX10_mirror cX10_mirror 3 (some .int) 3 0 D cA ad st [.ref (ad 0), .int a1] (some (.int r)) st' := by
  refine g_met (by decide) (Nat.le_of_ble_eq_true rfl) ?_
  intro p e s m args below meth c ls hC hret hlk hU hH hl
  exact bX10_mirror_0 hC hret hlk hU hf hH va_S.rf hl
def fX9_lyingAt (a1 : Int32)   (st : gS) : Option (Int32 × gS) :=
  if a1 < 0 then (some ((-1), st)) else (if (st.1 150 7) ≤ a1 then (some ((-1), st)) else (if 16 ≤ a1 then (some ((-1), st)) else (gc (gI a1 16) (some (st.1 152 a1.toNatClampNeg, st)))))
set_option maxRecDepth 100000 in
set_option maxHeartbeats 4000000 in
theorem bX9_lyingAt_0 {a1 : Int32} (hC : CallFix p m c cX9_lyingAt 2 s args lw_good RX9) (hret : meth.sig.returnType = (some .int)) (hlk : meth.locks = false) (hU : gU 0 D cA ad s)  {r : Int32} {st' : gS}   {st : gS} {H : Heap} {locs : List Loc} {ls : Array Slot} (hf : fX9_lyingAt a1 st = some (r, st')) (hH : gP0 0 D cA ad st H) (hS : va_S (gA 0 ad) s.heap H locs) (hl : lv_has ls 2 [(0, .ref (ad 150)), (1, .int a1)]) : W p l e (gRm 1) s m args below meth c H locs 0 0 (MQ below (gQc 0 D cA ad st' (some (.int r))) args s 0 0 (gA 0 ad)) (F0 m 0 ls []) := by
  obtain ⟨hx, hb, hml, hown, hts⟩ := id hC
  unfold fX9_lyingAt at hf
  refine lv_iload_n (pc := 0) hx hb dX9_lyingAt_0 rfl (lv_at hl 1 rfl) ?_
  refine lv_if_lt (tgt := 27) (pc := 1) hx hb dX9_lyingAt_1 (by decide) (fun hc => ?_) (fun hc => ?_)
  · have hf := gif_p hc hf
    refine lv_iconst (v := (-1)) (pc := 27) hx hb dX9_lyingAt_27 (by decide) ?_
    exact g_iret (pc := 28) hC hret hlk hH hS hf dX9_lyingAt_28
  · have hf := gif_n hc hf
    refine lv_iload_n (pc := 4) hx hb dX9_lyingAt_4 rfl (lv_at hl 1 rfl) ?_
    refine lv_aload_n (pc := 5) hx hb dX9_lyingAt_5 rfl (lv_at hl 0 rfl) ?_
    refine g_get (pc := 6) (v := .int (st.1 150 7)) hC hU hH gk0_150 g_cl9 7 (by decide) kf_X9_35 rfl dX9_lyingAt_6 ?_
    refine lv_icmp_ge (tgt := 27) (pc := 9) hx hb dX9_lyingAt_9 (by decide) (fun hc => ?_) (fun hc => ?_)
    · have hf := gif_p hc hf
      refine lv_iconst (v := (-1)) (pc := 27) hx hb dX9_lyingAt_27 (by decide) ?_
      exact g_iret (pc := 28) hC hret hlk hH hS hf dX9_lyingAt_28
    · have hf := gif_n hc hf
      refine lv_iload_n (pc := 12) hx hb dX9_lyingAt_12 rfl (lv_at hl 1 rfl) ?_
      refine lv_bipush (v := 16) (pc := 13) hx hb dX9_lyingAt_13 (by decide) ?_
      refine lv_icmp_ge (tgt := 27) (pc := 15) hx hb dX9_lyingAt_15 (by decide) (fun hc => ?_) (fun hc => ?_)
      · have hf := gif_p hc hf
        refine lv_iconst (v := (-1)) (pc := 27) hx hb dX9_lyingAt_27 (by decide) ?_
        exact g_iret (pc := 28) hC hret hlk hH hS hf dX9_lyingAt_28
      · have hf := gif_n hc hf
        refine lv_aload_n (pc := 18) hx hb dX9_lyingAt_18 rfl (lv_at hl 0 rfl) ?_
        refine g_get (pc := 19) (v := .ref (ad 152)) hC hU hH gk0_150 g_cl9 1 (by decide) kf_X9_15 rfl dX9_lyingAt_19 ?_
        refine lv_iload_n (pc := 22) hx hb dX9_lyingAt_22 rfl (lv_at hl 1 rfl) ?_
        obtain ⟨h0_1, hf⟩ := gc_s hf
        refine g_iald (pc := 23) hC hU hH gk0_152 gn0_152 h0_1 dX9_lyingAt_23 ?_
        refine lv_goto (tgt := 28) (pc := 24) hx hb dX9_lyingAt_24 (by decide) ?_
        exact g_iret (pc := 28) hC hret hlk hH hS hf dX9_lyingAt_28
set_option maxRecDepth 100000 in
set_option maxHeartbeats 4000000 in
theorem mX9_lyingAt {l : Launch} {D : va_G} {cA : Nat → ClassId} {ad : Nat → Nat} {a1 : Int32}  {r : Int32} {st st' : gS} (hf : fX9_lyingAt a1 st = some (r, st')) : gM l yX9_lyingAt cX9_lyingAt 2 (some .int) 1 0 D cA ad st [.ref (ad 150), .int a1] (some (.int r)) st' := by
  refine g_met (by decide) (Nat.le_of_ble_eq_true rfl) ?_
  intro p e s m args below meth c ls hC hret hlk hU hH hl
  exact bX9_lyingAt_0 hC hret hlk hU hf hH va_S.rf hl
def fX10_lies (a1 : Int32)   (st : gS) : Option (Int32 × gS) :=
  (fX9_lyingAt a1 st).bind fun q0_1 => (some (q0_1.1, q0_1.2))
set_option maxRecDepth 100000 in
set_option maxHeartbeats 4000000 in
theorem bX10_lies_0 {a1 : Int32} (hC : CallFix p m c cX10_lies 2 s args lw_good RX10) (hret : meth.sig.returnType = (some .int)) (hlk : meth.locks = false) (hU : gU 0 D cA ad s)  {r : Int32} {st' : gS}   {st : gS} {H : Heap} {locs : List Loc} {ls : Array Slot} (hf : fX10_lies a1 st = some (r, st')) (hH : gP0 0 D cA ad st H) (hS : va_S (gA 0 ad) s.heap H locs) (hl : lv_has ls 2 [(0, .ref (ad 0)), (1, .int a1)]) : W p l e (gRm 2) s m args below meth c H locs 0 0 (MQ below (gQc 0 D cA ad st' (some (.int r))) args s 0 0 (gA 0 ad)) (F0 m 0 ls []) := by
  obtain ⟨hx, hb, hml, hown, hts⟩ := id hC
  unfold fX10_lies at hf
  refine lv_aload_n (pc := 0) hx hb dX10_lies_0 rfl (lv_at hl 0 rfl) ?_
  refine g_get (pc := 1) (v := .ref (ad 150)) hC hU hH gk0_0 g_cl10 6 (by decide) kf_X10_50 rfl dX10_lies_1 ?_
  refine lv_iload_n (pc := 4) hx hb dX10_lies_4 rfl (lv_at hl 1 rfl) ?_
  obtain ⟨q0_1, hq0_1, hf⟩ := gbd hf
  refine g_callVi (pc := 5) (rest := []) hC hU hH hS hl.1 gk0_150 rfl (by decide) (mX9_lyingAt  hq0_1) ky_X9_lyingAt km_X10_294 ⟨Nat.le_of_ble_eq_true rfl, Nat.le_of_ble_eq_true rfl⟩ ⟨Nat.zero_le _, Nat.zero_le _⟩ rfl (Nat.le_of_ble_eq_true rfl) dX10_lies_5 rfl (fun H locs hH hS => ?_)
  exact g_iret (pc := 8) hC hret hlk hH hS hf dX10_lies_8
set_option maxRecDepth 100000 in
set_option maxHeartbeats 4000000 in
theorem mX10_lies {l : Launch} {D : va_G} {cA : Nat → ClassId} {ad : Nat → Nat} {a1 : Int32}  {r : Int32} {st st' : gS} (hf : fX10_lies a1 st = some (r, st')) : gM l yX10_lies cX10_lies 2 (some .int) 2 0 D cA ad st [.ref (ad 0), .int a1] (some (.int r)) st' := by
  refine g_met (by decide) (Nat.le_of_ble_eq_true rfl) ?_
  intro p e s m args below meth c ls hC hret hlk hU hH hl
  exact bX10_lies_0 hC hret hlk hU hf hH va_S.rf hl
def fX2_hasNumber (a0 : Int32)   (st : gS) : Option (Int32 × gS) :=
  if a0 < 0 then (some (0, st)) else (if 6 < a0 then (some (0, st)) else (some (1, st)))
set_option maxRecDepth 100000 in
set_option maxHeartbeats 4000000 in
theorem bX2_hasNumber_0 {a0 : Int32} (hC : CallFix p m c cX2_hasNumber 1 s args lw_good RX2) (hret : meth.sig.returnType = (some .boolean)) (hlk : meth.locks = false) (hU : gU 0 D cA ad s)  {r : Int32} {st' : gS}   {st : gS} {H : Heap} {locs : List Loc} {ls : Array Slot} (hf : fX2_hasNumber a0 st = some (r, st')) (hH : gP0 0 D cA ad st H) (hS : va_S (gA 0 ad) s.heap H locs) (hl : lv_has ls 1 [(0, .int a0)]) : W p l e (gRm 1) s m args below meth c H locs 0 0 (MQ below (gQc 0 D cA ad st' (some (.int r))) args s 0 0 (gA 0 ad)) (F0 m 0 ls []) := by
  obtain ⟨hx, hb, hml, hown, hts⟩ := id hC
  unfold fX2_hasNumber at hf
  refine lv_iload_n (pc := 0) hx hb dX2_hasNumber_0 rfl (lv_at hl 0 rfl) ?_
  refine lv_if_lt (tgt := 14) (pc := 1) hx hb dX2_hasNumber_1 (by decide) (fun hc => ?_) (fun hc => ?_)
  · have hf := gif_p hc hf
    refine lv_iconst (v := 0) (pc := 14) hx hb dX2_hasNumber_14 (by decide) ?_
    exact g_zret (pc := 15) hC hret hlk hH hS (by decide) hf dX2_hasNumber_15
  · have hf := gif_n hc hf
    refine lv_iload_n (pc := 4) hx hb dX2_hasNumber_4 rfl (lv_at hl 0 rfl) ?_
    refine lv_bipush (v := 6) (pc := 5) hx hb dX2_hasNumber_5 (by decide) ?_
    refine lv_icmp_gt (tgt := 14) (pc := 7) hx hb dX2_hasNumber_7 (by decide) (fun hc => ?_) (fun hc => ?_)
    · have hf := gif_p hc hf
      refine lv_iconst (v := 0) (pc := 14) hx hb dX2_hasNumber_14 (by decide) ?_
      exact g_zret (pc := 15) hC hret hlk hH hS (by decide) hf dX2_hasNumber_15
    · have hf := gif_n hc hf
      refine lv_iconst (v := 1) (pc := 10) hx hb dX2_hasNumber_10 (by decide) ?_
      refine lv_goto (tgt := 15) (pc := 11) hx hb dX2_hasNumber_11 (by decide) ?_
      exact g_zret (pc := 15) hC hret hlk hH hS (by decide) hf dX2_hasNumber_15
set_option maxRecDepth 100000 in
set_option maxHeartbeats 4000000 in
theorem mX2_hasNumber {l : Launch} {D : va_G} {cA : Nat → ClassId} {ad : Nat → Nat} {a0 : Int32}  {r : Int32} {st st' : gS} (hf : fX2_hasNumber a0 st = some (r, st')) : gM l yX2_hasNumber cX2_hasNumber 1 (some .boolean) 1 0 D cA ad st [.int a0] (some (.int r)) st' := by
  refine g_met (by decide) (Nat.le_of_ble_eq_true rfl) ?_
  intro p e s m args below meth c ls hC hret hlk hU hH hl
  exact bX2_hasNumber_0 hC hret hlk hU hf hH va_S.rf hl
def fX2_tell (a1 : Int32) (a2 : Int32) (a3 : Int32) (a4 : Int32)   (st : gS) : Option (Int32 × gS) :=
  if (st.1 169 10) < 30 then (gc (gI (st.1 169 10) 30) (gc (gI (st.1 169 10) 30) (gc (gI (st.1 169 10) 30) (gc (gI (st.1 169 10) 30) (gc (gI (st.1 169 10) 30) (gc (gI (st.1 169 10) 30) (some (st.1 169 10, wi (wi (wi (wi (wi (wi (wi st 170 (st.1 169 10).toNatClampNeg (vp_nar .boolean a1)) 172 (st.1 169 10).toNatClampNeg a2) 173 (st.1 169 10).toNatClampNeg a3) 171 (st.1 169 10).toNatClampNeg (vp_nar .boolean a4)) 174 (st.1 169 10).toNatClampNeg ((wi (wi (wi (wi st 170 (st.1 169 10).toNatClampNeg (vp_nar .boolean a1)) 172 (st.1 169 10).toNatClampNeg a2) 173 (st.1 169 10).toNatClampNeg a3) 171 (st.1 169 10).toNatClampNeg (vp_nar .boolean a4)).1 169 11)) 175 (st.1 169 10).toNatClampNeg (-1)) 169 10 (((wi (wi (wi (wi (wi (wi st 170 (st.1 169 10).toNatClampNeg (vp_nar .boolean a1)) 172 (st.1 169 10).toNatClampNeg a2) 173 (st.1 169 10).toNatClampNeg a3) 171 (st.1 169 10).toNatClampNeg (vp_nar .boolean a4)) 174 (st.1 169 10).toNatClampNeg ((wi (wi (wi (wi st 170 (st.1 169 10).toNatClampNeg (vp_nar .boolean a1)) 172 (st.1 169 10).toNatClampNeg a2) 173 (st.1 169 10).toNatClampNeg a3) 171 (st.1 169 10).toNatClampNeg (vp_nar .boolean a4)).1 169 11)) 175 (st.1 169 10).toNatClampNeg (-1)).1 169 10) + 1))))))))) else (some ((-1), st))
set_option maxRecDepth 100000 in
set_option maxHeartbeats 4000000 in
theorem bX2_tell_0 {a1 : Int32} {a2 : Int32} {a3 : Int32} {a4 : Int32} (hC : CallFix p m c cX2_tell 6 s args lw_good RX2) (hret : meth.sig.returnType = (some .int)) (hlk : meth.locks = false) (hU : gU 0 D cA ad s)  {r : Int32} {st' : gS}   {st : gS} {H : Heap} {locs : List Loc} {ls : Array Slot} (hf : fX2_tell a1 a2 a3 a4 st = some (r, st')) (hH : gP0 0 D cA ad st H) (hS : va_S (gA 0 ad) s.heap H locs) (hl : lv_has ls 6 [(0, .ref (ad 169)), (1, .int a1), (2, .int a2), (3, .int a3), (4, .int a4)]) : W p l e (gRm 1) s m args below meth c H locs 0 0 (MQ below (gQc 0 D cA ad st' (some (.int r))) args s 0 0 (gA 0 ad)) (F0 m 0 ls []) := by
  obtain ⟨hx, hb, hml, hown, hts⟩ := id hC
  unfold fX2_tell at hf
  refine lv_aload_n (pc := 0) hx hb dX2_tell_0 rfl (lv_at hl 0 rfl) ?_
  refine g_get (pc := 1) (v := .int (st.1 169 10)) hC hU hH gk0_169 g_cl2 10 (by decide) kf_X2_45 rfl dX2_tell_1 ?_
  refine lv_bipush (v := 30) (pc := 4) hx hb dX2_tell_4 (by decide) ?_
  refine lv_icmp_lt (tgt := 11) (pc := 6) hx hb dX2_tell_6 (by decide) (fun hc => ?_) (fun hc => ?_)
  · have hf := gif_p hc hf
    refine lv_aload_n (pc := 11) hx hb dX2_tell_11 rfl (lv_at hl 0 rfl) ?_
    refine g_get (pc := 12) (v := .int (st.1 169 10)) hC hU hH gk0_169 g_cl2 10 (by decide) kf_X2_45 rfl dX2_tell_12 ?_
    refine lv_istore (lv' := [(5, .int (st.1 169 10)), (0, .ref (ad 169)), (1, .int a1), (2, .int a2), (3, .int a3), (4, .int a4)]) (pc := 15) hx hb dX2_tell_15 hl (by decide) rfl (fun ls hl => ?_)
    refine lv_aload_n (pc := 17) hx hb dX2_tell_17 rfl (lv_at hl 1 rfl) ?_
    refine g_get (pc := 18) (v := .ref (ad 170)) hC hU hH gk0_169 g_cl2 0 (by decide) kf_X2_11 rfl dX2_tell_18 ?_
    refine lv_iload (pc := 21) hx hb dX2_tell_21 (lv_at hl 0 rfl) ?_
    refine lv_iload_n (pc := 23) hx hb dX2_tell_23 rfl (lv_at hl 2 rfl) ?_
    obtain ⟨h0_1, hf⟩ := gc_s hf
    refine g_zast (pc := 24) hC hU hH hS gk0_170 gn0_170 h0_1 dX2_tell_24 (fun H locs hH hS => ?_)
    refine lv_aload_n (pc := 25) hx hb dX2_tell_25 rfl (lv_at hl 1 rfl) ?_
    refine g_get (pc := 26) (v := .ref (ad 172)) hC hU hH gk0_169 g_cl2 2 (by decide) kf_X2_18 rfl dX2_tell_26 ?_
    refine lv_iload (pc := 29) hx hb dX2_tell_29 (lv_at hl 0 rfl) ?_
    refine lv_iload_n (pc := 31) hx hb dX2_tell_31 rfl (lv_at hl 3 rfl) ?_
    obtain ⟨h0_2, hf⟩ := gc_s hf
    refine g_iast (pc := 32) hC hU hH hS gk0_172 gn0_172 h0_2 dX2_tell_32 (fun H locs hH hS => ?_)
    refine lv_aload_n (pc := 33) hx hb dX2_tell_33 rfl (lv_at hl 1 rfl) ?_
    refine g_get (pc := 34) (v := .ref (ad 173)) hC hU hH gk0_169 g_cl2 3 (by decide) kf_X2_22 rfl dX2_tell_34 ?_
    refine lv_iload (pc := 37) hx hb dX2_tell_37 (lv_at hl 0 rfl) ?_
    refine lv_iload_n (pc := 39) hx hb dX2_tell_39 rfl (lv_at hl 4 rfl) ?_
    obtain ⟨h0_3, hf⟩ := gc_s hf
    refine g_iast (pc := 40) hC hU hH hS gk0_173 gn0_173 h0_3 dX2_tell_40 (fun H locs hH hS => ?_)
    refine lv_aload_n (pc := 41) hx hb dX2_tell_41 rfl (lv_at hl 1 rfl) ?_
    refine g_get (pc := 42) (v := .ref (ad 171)) hC hU hH gk0_169 g_cl2 1 (by decide) kf_X2_15 rfl dX2_tell_42 ?_
    refine lv_iload (pc := 45) hx hb dX2_tell_45 (lv_at hl 0 rfl) ?_
    refine lv_iload (pc := 47) hx hb dX2_tell_47 (lv_at hl 5 rfl) ?_
    obtain ⟨h0_4, hf⟩ := gc_s hf
    refine g_zast (pc := 49) hC hU hH hS gk0_171 gn0_171 h0_4 dX2_tell_49 (fun H locs hH hS => ?_)
    refine lv_aload_n (pc := 50) hx hb dX2_tell_50 rfl (lv_at hl 1 rfl) ?_
    refine g_get (pc := 51) (v := .ref (ad 174)) hC hU hH gk0_169 g_cl2 4 (by decide) kf_X2_25 rfl dX2_tell_51 ?_
    refine lv_iload (pc := 54) hx hb dX2_tell_54 (lv_at hl 0 rfl) ?_
    refine lv_aload_n (pc := 56) hx hb dX2_tell_56 rfl (lv_at hl 1 rfl) ?_
    refine g_get (pc := 57) (v := .int ((wi (wi (wi (wi st 170 (st.1 169 10).toNatClampNeg (vp_nar .boolean a1)) 172 (st.1 169 10).toNatClampNeg a2) 173 (st.1 169 10).toNatClampNeg a3) 171 (st.1 169 10).toNatClampNeg (vp_nar .boolean a4)).1 169 11)) hC hU hH gk0_169 g_cl2 11 (by decide) kf_X2_49 rfl dX2_tell_57 ?_
    obtain ⟨h0_5, hf⟩ := gc_s hf
    refine g_iast (pc := 60) hC hU hH hS gk0_174 gn0_174 h0_5 dX2_tell_60 (fun H locs hH hS => ?_)
    refine lv_aload_n (pc := 61) hx hb dX2_tell_61 rfl (lv_at hl 1 rfl) ?_
    refine g_get (pc := 62) (v := .ref (ad 175)) hC hU hH gk0_169 g_cl2 5 (by decide) kf_X2_28 rfl dX2_tell_62 ?_
    refine lv_iload (pc := 65) hx hb dX2_tell_65 (lv_at hl 0 rfl) ?_
    refine lv_iconst (v := (-1)) (pc := 67) hx hb dX2_tell_67 (by decide) ?_
    obtain ⟨h0_6, hf⟩ := gc_s hf
    refine g_iast (pc := 68) hC hU hH hS gk0_175 gn0_175 h0_6 dX2_tell_68 (fun H locs hH hS => ?_)
    refine lv_aload_n (pc := 69) hx hb dX2_tell_69 rfl (lv_at hl 1 rfl) ?_
    refine lv_dup (pc := 70) hx hb dX2_tell_70 rfl ?_
    refine g_get (pc := 71) (v := .int ((wi (wi (wi (wi (wi (wi st 170 (st.1 169 10).toNatClampNeg (vp_nar .boolean a1)) 172 (st.1 169 10).toNatClampNeg a2) 173 (st.1 169 10).toNatClampNeg a3) 171 (st.1 169 10).toNatClampNeg (vp_nar .boolean a4)) 174 (st.1 169 10).toNatClampNeg ((wi (wi (wi (wi st 170 (st.1 169 10).toNatClampNeg (vp_nar .boolean a1)) 172 (st.1 169 10).toNatClampNeg a2) 173 (st.1 169 10).toNatClampNeg a3) 171 (st.1 169 10).toNatClampNeg (vp_nar .boolean a4)).1 169 11)) 175 (st.1 169 10).toNatClampNeg (-1)).1 169 10)) hC hU hH gk0_169 g_cl2 10 (by decide) kf_X2_45 rfl dX2_tell_71 ?_
    refine lv_iconst (v := 1) (pc := 74) hx hb dX2_tell_74 (by decide) ?_
    refine lv_iadd (pc := 75) hx hb dX2_tell_75 ?_
    refine g_puti (pc := 76) hC hU hH hS gk0_169 g_cl2 10 (by decide) kf_X2_45 rfl rfl rfl rfl dX2_tell_76 (fun H locs hH hS => ?_)
    refine lv_iload (pc := 79) hx hb dX2_tell_79 (lv_at hl 0 rfl) ?_
    exact g_iret (pc := 81) hC hret hlk hH hS hf dX2_tell_81
  · have hf := gif_n hc hf
    refine lv_iconst (v := (-1)) (pc := 9) hx hb dX2_tell_9 (by decide) ?_
    exact g_iret (pc := 10) hC hret hlk hH hS hf dX2_tell_10
set_option maxRecDepth 100000 in
set_option maxHeartbeats 4000000 in
theorem mX2_tell {l : Launch} {D : va_G} {cA : Nat → ClassId} {ad : Nat → Nat} {a1 : Int32} {a2 : Int32} {a3 : Int32} {a4 : Int32}  {r : Int32} {st st' : gS} (hf : fX2_tell a1 a2 a3 a4 st = some (r, st')) : gM l yX2_tell cX2_tell 6 (some .int) 1 0 D cA ad st [.ref (ad 169), .int a1, .int a2, .int a3, .int a4] (some (.int r)) st' := by
  refine g_met (by decide) (Nat.le_of_ble_eq_true rfl) ?_
  intro p e s m args below meth c ls hC hret hlk hU hH hl
  exact bX2_tell_0 hC hret hlk hU hf hH va_S.rf hl
end
