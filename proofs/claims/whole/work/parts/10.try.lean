section
variable {p : Program} {l : Launch} {e : Env} {s : State} {m : MethodId} {args : Array Value} {below : List Frame} {meth : Method} {c : Code} {D : va_G} {cA : Nat → ClassId} {ad : Nat → Nat}
def fX8_behind_5 (t : Nat) (a1 : Int32) (a2 : Int32) (k5 : Int32 → Int32 → gS → Option (Int32 × gS)) (l3 : Int32) (l4 : Int32) (st : gS) : Option (Int32 × gS) :=
  if (st.1 t 14) ≤ l4 then (some (l3, st)) else (if ((a2 >>> (l4 &&& 31)) &&& 1) = 0 then (k5 l3 (l4 + 1) st) else (gc (gI l4 16) (if ((a1 >>> ((st.1 (t + 1 + 6) l4.toNatClampNeg) &&& 31)) &&& 1) = 0 then (k5 l3 (l4 + 1) st) else (gc (gI l4 16) (gl (l3 ||| (1 <<< ((st.1 (t + 1 + 7) l4.toNatClampNeg) &&& 31))) fun x48 => (k5 x48 (l4 + 1) st))))))
set_option maxRecDepth 100000 in
set_option maxHeartbeats 4000000 in
theorem bX8_behind_5 {t : Nat} {a1 : Int32} {a2 : Int32} (hC : CallFix p m c cX8_behind 5 s args lw_good RX8) (hret : meth.sig.returnType = (some .int)) (hlk : meth.locks = false) (hU : gU 0 D cA ad s) (ht : gK 0 t = 8) {r : Int32} {st' : gS} {k5 : Int32 → Int32 → gS → Option (Int32 × gS)} (hk5 : ∀ {l3 : Int32} {l4 : Int32} {st : gS} {H : Heap} {locs : List Loc} {ls : Array Slot}, k5 l3 l4 st = some (r, st') → gP0 0 D cA ad st H → va_S (gA 0 ad) s.heap H locs → lv_has ls 5 [(0, .ref (ad t)), (1, .int a1), (2, .int a2), (3, .int l3), (4, .int l4)] → W p l e (gRm 1) s m args below meth c H locs 0 0 (MQ below (gQc 0 D cA ad st' (some (.int r))) args s 0 0 (gA 0 ad)) (F0 m 5 ls [])) {l3 : Int32} {l4 : Int32} {st : gS} {H : Heap} {locs : List Loc} {ls : Array Slot} (hf : fX8_behind_5 t a1 a2 k5 l3 l4 st = some (r, st')) (hH : gP0 0 D cA ad st H) (hS : va_S (gA 0 ad) s.heap H locs) (hl : lv_has ls 5 [(0, .ref (ad t)), (1, .int a1), (2, .int a2), (3, .int l3), (4, .int l4)]) : W p l e (gRm 1) s m args below meth c H locs 0 0 (MQ below (gQc 0 D cA ad st' (some (.int r))) args s 0 0 (gA 0 ad)) (F0 m 5 ls []) := by
  obtain ⟨hx, hb, hml, hown, hts⟩ := id hC
  unfold fX8_behind_5 at hf
  refine lv_iload (pc := 5) hx hb dX8_behind_5 (lv_at hl 4 rfl) ?_
  refine lv_aload_n (pc := 7) hx hb dX8_behind_7 rfl (lv_at hl 0 rfl) ?_
  refine g_get (pc := 8) (v := .int (st.1 t 14)) hC hU hH ht g_cl8 14 (by decide) kf_X8_60 rfl dX8_behind_8 ?_
  refine lv_icmp_ge (tgt := 55) (pc := 11) hx hb dX8_behind_11 (by decide) (fun hc => ?_) (fun hc => ?_)
  · have hf := gif_p hc hf
    refine lv_iload_n (pc := 55) hx hb dX8_behind_55 rfl (lv_at hl 3 rfl) ?_
    exact g_iret (pc := 56) hC hret hlk hH hS hf dX8_behind_56
  · have hf := gif_n hc hf
    refine lv_iload_n (pc := 14) hx hb dX8_behind_14 rfl (lv_at hl 2 rfl) ?_
    refine lv_iload (pc := 15) hx hb dX8_behind_15 (lv_at hl 4 rfl) ?_
    refine lv_ishr (pc := 17) hx hb dX8_behind_17 ?_
    refine lv_iconst (v := 1) (pc := 18) hx hb dX8_behind_18 (by decide) ?_
    refine lv_iand (pc := 19) hx hb dX8_behind_19 ?_
    refine lv_if_eq (tgt := 49) (pc := 20) hx hb dX8_behind_20 (by decide) (fun hc => ?_) (fun hc => ?_)
    · have hf := gif_p hc hf
      refine lv_iinc (v := l4 + 1) (lv' := [(4, .int (l4 + 1)), (0, .ref (ad t)), (1, .int a1), (2, .int a2), (3, .int l3)]) (k := 4) (pc := 49) hx hb dX8_behind_49 hl rfl rfl (by decide) rfl (fun ls hl => ?_)
      refine lv_goto (tgt := 5) (pc := 52) hx hb dX8_behind_52 (by decide) ?_
      exact hk5 hf hH hS (lv_sub hl [1, 2, 3, 4, 0] rfl)
    · have hf := gif_n hc hf
      refine lv_iload_n (pc := 23) hx hb dX8_behind_23 rfl (lv_at hl 1 rfl) ?_
      refine lv_aload_n (pc := 24) hx hb dX8_behind_24 rfl (lv_at hl 0 rfl) ?_
      refine g_get (pc := 25) (v := .ref (ad (t + 1 + 6))) hC hU hH ht g_cl8 6 (by decide) kf_X8_31 rfl dX8_behind_25 ?_
      refine lv_iload (pc := 28) hx hb dX8_behind_28 (lv_at hl 4 rfl) ?_
      obtain ⟨h5_1, hf⟩ := gc_s hf
      refine g_iald (pc := 30) hC hU hH (gk_8_6 ht) (gn_8_6 ht) h5_1 dX8_behind_30 ?_
      refine lv_ishr (pc := 31) hx hb dX8_behind_31 ?_
      refine lv_iconst (v := 1) (pc := 32) hx hb dX8_behind_32 (by decide) ?_
      refine lv_iand (pc := 33) hx hb dX8_behind_33 ?_
      refine lv_if_eq (tgt := 49) (pc := 34) hx hb dX8_behind_34 (by decide) (fun hc => ?_) (fun hc => ?_)
      · have hf := gif_p hc hf
        refine lv_iinc (v := l4 + 1) (lv' := [(4, .int (l4 + 1)), (0, .ref (ad t)), (1, .int a1), (2, .int a2), (3, .int l3)]) (k := 4) (pc := 49) hx hb dX8_behind_49 hl rfl rfl (by decide) rfl (fun ls hl => ?_)
        refine lv_goto (tgt := 5) (pc := 52) hx hb dX8_behind_52 (by decide) ?_
        exact hk5 hf hH hS (lv_sub hl [1, 2, 3, 4, 0] rfl)
      · have hf := gif_n hc hf
        refine lv_iload_n (pc := 37) hx hb dX8_behind_37 rfl (lv_at hl 3 rfl) ?_
        refine lv_iconst (v := 1) (pc := 38) hx hb dX8_behind_38 (by decide) ?_
        refine lv_aload_n (pc := 39) hx hb dX8_behind_39 rfl (lv_at hl 0 rfl) ?_
        refine g_get (pc := 40) (v := .ref (ad (t + 1 + 7))) hC hU hH ht g_cl8 7 (by decide) kf_X8_34 rfl dX8_behind_40 ?_
        refine lv_iload (pc := 43) hx hb dX8_behind_43 (lv_at hl 4 rfl) ?_
        obtain ⟨h5_2, hf⟩ := gc_s hf
        refine g_iald (pc := 45) hC hU hH (gk_8_7 ht) (gn_8_7 ht) h5_2 dX8_behind_45 ?_
        refine lv_ishl (pc := 46) hx hb dX8_behind_46 ?_
        refine lv_ior (pc := 47) hx hb dX8_behind_47 ?_
        refine lv_topi (pc := 48) (fun x48 ex48 => ?_)
        have hf := gl_s ex48 hf
        refine lv_istore_n (lv' := [(3, .int x48), (0, .ref (ad t)), (1, .int a1), (2, .int a2), (4, .int l4)]) (pc := 48) hx hb dX8_behind_48 rfl hl (by decide) rfl (fun ls hl => ?_)
        refine lv_iinc (v := l4 + 1) (lv' := [(4, .int (l4 + 1)), (3, .int x48), (0, .ref (ad t)), (1, .int a1), (2, .int a2)]) (k := 4) (pc := 49) hx hb dX8_behind_49 hl rfl rfl (by decide) rfl (fun ls hl => ?_)
        refine lv_goto (tgt := 5) (pc := 52) hx hb dX8_behind_52 (by decide) ?_
        exact hk5 hf hH hS (lv_sub hl [2, 3, 4, 1, 0] rfl)
def hX8_behind_5 (t : Nat) (a1 : Int32) (a2 : Int32)  : Nat → Int32 → Int32 → gS → Option (Int32 × gS)
  | 0 => fun _ _ _ => none
  | n + 1 => fun l3 l4 st => fX8_behind_5 t a1 a2 (hX8_behind_5 t a1 a2 n) l3 l4 st
set_option maxRecDepth 100000 in
set_option maxHeartbeats 4000000 in
theorem wX8_behind_5 {t : Nat} {a1 : Int32} {a2 : Int32} (hC : CallFix p m c cX8_behind 5 s args lw_good RX8) (hret : meth.sig.returnType = (some .int)) (hlk : meth.locks = false) (hU : gU 0 D cA ad s) (ht : gK 0 t = 8) {r : Int32} {st' : gS}  : ∀ (n : Nat) {l3 : Int32} {l4 : Int32} {st : gS} {H : Heap} {locs : List Loc} {ls : Array Slot}, hX8_behind_5 t a1 a2 n l3 l4 st = some (r, st') → gP0 0 D cA ad st H → va_S (gA 0 ad) s.heap H locs → lv_has ls 5 [(0, .ref (ad t)), (1, .int a1), (2, .int a2), (3, .int l3), (4, .int l4)] → W p l e (gRm 1) s m args below meth c H locs 0 0 (MQ below (gQc 0 D cA ad st' (some (.int r))) args s 0 0 (gA 0 ad)) (F0 m 5 ls []) := by
  intro n
  induction n with
  | zero => intro l3 l4 st H locs ls hf hH hS hl; cases hf
  | succ n ih =>
    intro l3 l4 st H locs ls hf hH hS hl
    exact bX8_behind_5 hC hret hlk hU ht (fun hf hH hS hl => ih hf hH hS hl) hf hH hS hl
def fX8_behind (t : Nat) (a1 : Int32) (a2 : Int32)   (st : gS) : Option (Int32 × gS) :=
  hX8_behind_5 t a1 a2 FU 0 0 st
set_option maxRecDepth 100000 in
set_option maxHeartbeats 4000000 in
theorem bX8_behind_0 {t : Nat} {a1 : Int32} {a2 : Int32} (hC : CallFix p m c cX8_behind 5 s args lw_good RX8) (hret : meth.sig.returnType = (some .int)) (hlk : meth.locks = false) (hU : gU 0 D cA ad s) (ht : gK 0 t = 8) {r : Int32} {st' : gS}   {st : gS} {H : Heap} {locs : List Loc} {ls : Array Slot} (hf : fX8_behind t a1 a2 st = some (r, st')) (hH : gP0 0 D cA ad st H) (hS : va_S (gA 0 ad) s.heap H locs) (hl : lv_has ls 5 [(0, .ref (ad t)), (1, .int a1), (2, .int a2)]) : W p l e (gRm 1) s m args below meth c H locs 0 0 (MQ below (gQc 0 D cA ad st' (some (.int r))) args s 0 0 (gA 0 ad)) (F0 m 0 ls []) := by
  obtain ⟨hx, hb, hml, hown, hts⟩ := id hC
  unfold fX8_behind at hf
  refine lv_iconst (v := 0) (pc := 0) hx hb dX8_behind_0 (by decide) ?_
  refine lv_istore_n (lv' := [(3, .int 0), (0, .ref (ad t)), (1, .int a1), (2, .int a2)]) (pc := 1) hx hb dX8_behind_1 rfl hl (by decide) rfl (fun ls hl => ?_)
  refine lv_iconst (v := 0) (pc := 2) hx hb dX8_behind_2 (by decide) ?_
  refine lv_istore (lv' := [(4, .int 0), (3, .int 0), (0, .ref (ad t)), (1, .int a1), (2, .int a2)]) (pc := 3) hx hb dX8_behind_3 hl (by decide) rfl (fun ls hl => ?_)
  exact wX8_behind_5 hC hret hlk hU ht FU hf hH hS (lv_sub hl [2, 3, 4, 1, 0] rfl)
set_option maxRecDepth 100000 in
set_option maxHeartbeats 4000000 in
theorem mX8_behind {l : Launch} {D : va_G} {cA : Nat → ClassId} {ad : Nat → Nat} {t : Nat} {a1 : Int32} {a2 : Int32} (ht : gK 0 t = 8) {r : Int32} {st st' : gS} (hf : fX8_behind t a1 a2 st = some (r, st')) : gM l yX8_behind cX8_behind 5 (some .int) 1 0 D cA ad st [.ref (ad t), .int a1, .int a2] (some (.int r)) st' := by
  refine g_met (by decide) (Nat.le_of_ble_eq_true rfl) ?_
  intro p e s m args below meth c ls hC hret hlk hU hH hl
  exact bX8_behind_0 hC hret hlk hU ht hf hH va_S.rf hl
def fX8_hasFigure (t : Nat) (a1 : Int32)   (st : gS) : Option (Int32 × gS) :=
  if a1 < 0 then (some (0, st)) else (if (st.1 t 12) ≤ a1 then (some (0, st)) else (some (1, st)))
set_option maxRecDepth 100000 in
set_option maxHeartbeats 4000000 in
theorem bX8_hasFigure_0 {t : Nat} {a1 : Int32} (hC : CallFix p m c cX8_hasFigure 2 s args lw_good RX8) (hret : meth.sig.returnType = (some .boolean)) (hlk : meth.locks = false) (hU : gU 0 D cA ad s) (ht : gK 0 t = 8) {r : Int32} {st' : gS}   {st : gS} {H : Heap} {locs : List Loc} {ls : Array Slot} (hf : fX8_hasFigure t a1 st = some (r, st')) (hH : gP0 0 D cA ad st H) (hS : va_S (gA 0 ad) s.heap H locs) (hl : lv_has ls 2 [(0, .ref (ad t)), (1, .int a1)]) : W p l e (gRm 1) s m args below meth c H locs 0 0 (MQ below (gQc 0 D cA ad st' (some (.int r))) args s 0 0 (gA 0 ad)) (F0 m 0 ls []) := by
  obtain ⟨hx, hb, hml, hown, hts⟩ := id hC
  unfold fX8_hasFigure at hf
  refine lv_iload_n (pc := 0) hx hb dX8_hasFigure_0 rfl (lv_at hl 1 rfl) ?_
  refine lv_if_lt (tgt := 16) (pc := 1) hx hb dX8_hasFigure_1 (by decide) (fun hc => ?_) (fun hc => ?_)
  · have hf := gif_p hc hf
    refine lv_iconst (v := 0) (pc := 16) hx hb dX8_hasFigure_16 (by decide) ?_
    exact g_zret (pc := 17) hC hret hlk hH hS (by decide) hf dX8_hasFigure_17
  · have hf := gif_n hc hf
    refine lv_iload_n (pc := 4) hx hb dX8_hasFigure_4 rfl (lv_at hl 1 rfl) ?_
    refine lv_aload_n (pc := 5) hx hb dX8_hasFigure_5 rfl (lv_at hl 0 rfl) ?_
    refine g_get (pc := 6) (v := .int (st.1 t 12)) hC hU hH ht g_cl8 12 (by decide) kf_X8_53 rfl dX8_hasFigure_6 ?_
    refine lv_icmp_ge (tgt := 16) (pc := 9) hx hb dX8_hasFigure_9 (by decide) (fun hc => ?_) (fun hc => ?_)
    · have hf := gif_p hc hf
      refine lv_iconst (v := 0) (pc := 16) hx hb dX8_hasFigure_16 (by decide) ?_
      exact g_zret (pc := 17) hC hret hlk hH hS (by decide) hf dX8_hasFigure_17
    · have hf := gif_n hc hf
      refine lv_iconst (v := 1) (pc := 12) hx hb dX8_hasFigure_12 (by decide) ?_
      refine lv_goto (tgt := 17) (pc := 13) hx hb dX8_hasFigure_13 (by decide) ?_
      exact g_zret (pc := 17) hC hret hlk hH hS (by decide) hf dX8_hasFigure_17
set_option maxRecDepth 100000 in
set_option maxHeartbeats 4000000 in
theorem mX8_hasFigure {l : Launch} {D : va_G} {cA : Nat → ClassId} {ad : Nat → Nat} {t : Nat} {a1 : Int32} (ht : gK 0 t = 8) {r : Int32} {st st' : gS} (hf : fX8_hasFigure t a1 st = some (r, st')) : gM l yX8_hasFigure cX8_hasFigure 2 (some .boolean) 1 0 D cA ad st [.ref (ad t), .int a1] (some (.int r)) st' := by
  refine g_met (by decide) (Nat.le_of_ble_eq_true rfl) ?_
  intro p e s m args below meth c ls hC hret hlk hU hH hl
  exact bX8_hasFigure_0 hC hret hlk hU ht hf hH va_S.rf hl
def fX8_hasTribe (t : Nat) (a1 : Int32)   (st : gS) : Option (Int32 × gS) :=
  if a1 < 0 then (some (0, st)) else (if (st.1 t 13) ≤ a1 then (some (0, st)) else (some (1, st)))
set_option maxRecDepth 100000 in
set_option maxHeartbeats 4000000 in
theorem bX8_hasTribe_0 {t : Nat} {a1 : Int32} (hC : CallFix p m c cX8_hasTribe 2 s args lw_good RX8) (hret : meth.sig.returnType = (some .boolean)) (hlk : meth.locks = false) (hU : gU 0 D cA ad s) (ht : gK 0 t = 8) {r : Int32} {st' : gS}   {st : gS} {H : Heap} {locs : List Loc} {ls : Array Slot} (hf : fX8_hasTribe t a1 st = some (r, st')) (hH : gP0 0 D cA ad st H) (hS : va_S (gA 0 ad) s.heap H locs) (hl : lv_has ls 2 [(0, .ref (ad t)), (1, .int a1)]) : W p l e (gRm 1) s m args below meth c H locs 0 0 (MQ below (gQc 0 D cA ad st' (some (.int r))) args s 0 0 (gA 0 ad)) (F0 m 0 ls []) := by
  obtain ⟨hx, hb, hml, hown, hts⟩ := id hC
  unfold fX8_hasTribe at hf
  refine lv_iload_n (pc := 0) hx hb dX8_hasTribe_0 rfl (lv_at hl 1 rfl) ?_
  refine lv_if_lt (tgt := 16) (pc := 1) hx hb dX8_hasTribe_1 (by decide) (fun hc => ?_) (fun hc => ?_)
  · have hf := gif_p hc hf
    refine lv_iconst (v := 0) (pc := 16) hx hb dX8_hasTribe_16 (by decide) ?_
    exact g_zret (pc := 17) hC hret hlk hH hS (by decide) hf dX8_hasTribe_17
  · have hf := gif_n hc hf
    refine lv_iload_n (pc := 4) hx hb dX8_hasTribe_4 rfl (lv_at hl 1 rfl) ?_
    refine lv_aload_n (pc := 5) hx hb dX8_hasTribe_5 rfl (lv_at hl 0 rfl) ?_
    refine g_get (pc := 6) (v := .int (st.1 t 13)) hC hU hH ht g_cl8 13 (by decide) kf_X8_57 rfl dX8_hasTribe_6 ?_
    refine lv_icmp_ge (tgt := 16) (pc := 9) hx hb dX8_hasTribe_9 (by decide) (fun hc => ?_) (fun hc => ?_)
    · have hf := gif_p hc hf
      refine lv_iconst (v := 0) (pc := 16) hx hb dX8_hasTribe_16 (by decide) ?_
      exact g_zret (pc := 17) hC hret hlk hH hS (by decide) hf dX8_hasTribe_17
    · have hf := gif_n hc hf
      refine lv_iconst (v := 1) (pc := 12) hx hb dX8_hasTribe_12 (by decide) ?_
      refine lv_goto (tgt := 17) (pc := 13) hx hb dX8_hasTribe_13 (by decide) ?_
      exact g_zret (pc := 17) hC hret hlk hH hS (by decide) hf dX8_hasTribe_17
set_option maxRecDepth 100000 in
set_option maxHeartbeats 4000000 in
theorem mX8_hasTribe {l : Launch} {D : va_G} {cA : Nat → ClassId} {ad : Nat → Nat} {t : Nat} {a1 : Int32} (ht : gK 0 t = 8) {r : Int32} {st st' : gS} (hf : fX8_hasTribe t a1 st = some (r, st')) : gM l yX8_hasTribe cX8_hasTribe 2 (some .boolean) 1 0 D cA ad st [.ref (ad t), .int a1] (some (.int r)) st' := by
  refine g_met (by decide) (Nat.le_of_ble_eq_true rfl) ?_
  intro p e s m args below meth c ls hC hret hlk hU hH hl
  exact bX8_hasTribe_0 hC hret hlk hU ht hf hH va_S.rf hl
def fX8_isWorthTold (t : Nat) (a1 : Int32) (a2 : Int32)   (st : gS) : Option (Int32 × gS) :=
  (fX8_hasTribe t a1 st).bind fun q0_1 => (if q0_1.1 = 0 then (some (0, q0_1.2)) else ((fX8_hasFigure t a2 q0_1.2).bind fun q0_2 => (if q0_2.1 = 0 then (some (0, q0_2.2)) else (gc (gI ((a1 * 8) + a2) 40) (if (q0_2.2.1 (t + 1 + 5) ((a1 * 8) + a2).toNatClampNeg) = (-1) then (some (0, q0_2.2)) else (some (1, q0_2.2)))))))
set_option maxRecDepth 100000 in
set_option maxHeartbeats 4000000 in
theorem bX8_isWorthTold_0 {t : Nat} {a1 : Int32} {a2 : Int32} (hC : CallFix p m c cX8_isWorthTold 3 s args lw_good RX8) (hret : meth.sig.returnType = (some .boolean)) (hlk : meth.locks = false) (hU : gU 0 D cA ad s) (ht : gK 0 t = 8) {r : Int32} {st' : gS}   {st : gS} {H : Heap} {locs : List Loc} {ls : Array Slot} (hf : fX8_isWorthTold t a1 a2 st = some (r, st')) (hH : gP0 0 D cA ad st H) (hS : va_S (gA 0 ad) s.heap H locs) (hl : lv_has ls 3 [(0, .ref (ad t)), (1, .int a1), (2, .int a2)]) : W p l e (gRm 2) s m args below meth c H locs 0 0 (MQ below (gQc 0 D cA ad st' (some (.int r))) args s 0 0 (gA 0 ad)) (F0 m 0 ls []) := by
  obtain ⟨hx, hb, hml, hown, hts⟩ := id hC
  unfold fX8_isWorthTold at hf
  refine lv_aload_n (pc := 0) hx hb dX8_isWorthTold_0 rfl (lv_at hl 0 rfl) ?_
  refine lv_iload_n (pc := 1) hx hb dX8_isWorthTold_1 rfl (lv_at hl 1 rfl) ?_
  obtain ⟨q0_1, hq0_1, hf⟩ := gbd hf
  refine g_callVi (pc := 2) (rest := []) hC hU hH hS hl.1 ht rfl (by decide) (mX8_hasTribe ht hq0_1) ky_X8_hasTribe km_X8_81 ⟨Nat.le_of_ble_eq_true rfl, Nat.le_of_ble_eq_true rfl⟩ ⟨Nat.zero_le _, Nat.zero_le _⟩ rfl (Nat.le_of_ble_eq_true rfl) dX8_isWorthTold_2 rfl (fun H locs hH hS => ?_)
  refine lv_if_eq (tgt := 35) (pc := 5) hx hb dX8_isWorthTold_5 (by decide) (fun hc => ?_) (fun hc => ?_)
  · have hf := gif_p hc hf
    refine lv_iconst (v := 0) (pc := 35) hx hb dX8_isWorthTold_35 (by decide) ?_
    exact g_zret (pc := 36) hC hret hlk hH hS (by decide) hf dX8_isWorthTold_36
  · have hf := gif_n hc hf
    refine lv_aload_n (pc := 8) hx hb dX8_isWorthTold_8 rfl (lv_at hl 0 rfl) ?_
    refine lv_iload_n (pc := 9) hx hb dX8_isWorthTold_9 rfl (lv_at hl 2 rfl) ?_
    obtain ⟨q0_2, hq0_2, hf⟩ := gbd hf
    refine g_callVi (pc := 10) (rest := []) hC hU hH hS hl.1 ht rfl (by decide) (mX8_hasFigure ht hq0_2) ky_X8_hasFigure km_X8_85 ⟨Nat.le_of_ble_eq_true rfl, Nat.le_of_ble_eq_true rfl⟩ ⟨Nat.zero_le _, Nat.zero_le _⟩ rfl (Nat.le_of_ble_eq_true rfl) dX8_isWorthTold_10 rfl (fun H locs hH hS => ?_)
    refine lv_if_eq (tgt := 35) (pc := 13) hx hb dX8_isWorthTold_13 (by decide) (fun hc => ?_) (fun hc => ?_)
    · have hf := gif_p hc hf
      refine lv_iconst (v := 0) (pc := 35) hx hb dX8_isWorthTold_35 (by decide) ?_
      exact g_zret (pc := 36) hC hret hlk hH hS (by decide) hf dX8_isWorthTold_36
    · have hf := gif_n hc hf
      refine lv_aload_n (pc := 16) hx hb dX8_isWorthTold_16 rfl (lv_at hl 0 rfl) ?_
      refine g_get (pc := 17) (v := .ref (ad (t + 1 + 5))) hC hU hH ht g_cl8 5 (by decide) kf_X8_28 rfl dX8_isWorthTold_17 ?_
      refine lv_iload_n (pc := 20) hx hb dX8_isWorthTold_20 rfl (lv_at hl 1 rfl) ?_
      refine lv_bipush (v := 8) (pc := 21) hx hb dX8_isWorthTold_21 (by decide) ?_
      refine lv_imul (pc := 23) hx hb dX8_isWorthTold_23 ?_
      refine lv_iload_n (pc := 24) hx hb dX8_isWorthTold_24 rfl (lv_at hl 2 rfl) ?_
      refine lv_iadd (pc := 25) hx hb dX8_isWorthTold_25 ?_
      obtain ⟨h0_1, hf⟩ := gc_s hf
      refine g_iald (pc := 26) hC hU hH (gk_8_5 ht) (gn_8_5 ht) h0_1 dX8_isWorthTold_26 ?_
      refine lv_iconst (v := (-1)) (pc := 27) hx hb dX8_isWorthTold_27 (by decide) ?_
      refine lv_icmp_eq (tgt := 35) (pc := 28) hx hb dX8_isWorthTold_28 (by decide) (fun hc => ?_) (fun hc => ?_)
      · have hf := gif_p hc hf
        refine lv_iconst (v := 0) (pc := 35) hx hb dX8_isWorthTold_35 (by decide) ?_
        exact g_zret (pc := 36) hC hret hlk hH hS (by decide) hf dX8_isWorthTold_36
      · have hf := gif_n hc hf
        refine lv_iconst (v := 1) (pc := 31) hx hb dX8_isWorthTold_31 (by decide) ?_
        refine lv_goto (tgt := 36) (pc := 32) hx hb dX8_isWorthTold_32 (by decide) ?_
        exact g_zret (pc := 36) hC hret hlk hH hS (by decide) hf dX8_isWorthTold_36
set_option maxRecDepth 100000 in
set_option maxHeartbeats 4000000 in
theorem mX8_isWorthTold {l : Launch} {D : va_G} {cA : Nat → ClassId} {ad : Nat → Nat} {t : Nat} {a1 : Int32} {a2 : Int32} (ht : gK 0 t = 8) {r : Int32} {st st' : gS} (hf : fX8_isWorthTold t a1 a2 st = some (r, st')) : gM l yX8_isWorthTold cX8_isWorthTold 3 (some .boolean) 2 0 D cA ad st [.ref (ad t), .int a1, .int a2] (some (.int r)) st' := by
  refine g_met (by decide) (Nat.le_of_ble_eq_true rfl) ?_
  intro p e s m args below meth c ls hC hret hlk hU hH hl
  exact bX8_isWorthTold_0 hC hret hlk hU ht hf hH va_S.rf hl
def fX8_worthOf (t : Nat) (a1 : Int32) (a2 : Int32)   (st : gS) : Option (Int32 × gS) :=
  (fX8_isWorthTold t a1 a2 st).bind fun q0_1 => (if q0_1.1 = 0 then (some (0, q0_1.2)) else (gc (gI ((a1 * 8) + a2) 40) (some (q0_1.2.1 (t + 1 + 5) ((a1 * 8) + a2).toNatClampNeg, q0_1.2))))
set_option maxRecDepth 100000 in
set_option maxHeartbeats 4000000 in
theorem bX8_worthOf_0 {t : Nat} {a1 : Int32} {a2 : Int32} (hC : CallFix p m c cX8_worthOf 3 s args lw_good RX8) (hret : meth.sig.returnType = (some .int)) (hlk : meth.locks = false) (hU : gU 0 D cA ad s) (ht : gK 0 t = 8) {r : Int32} {st' : gS}   {st : gS} {H : Heap} {locs : List Loc} {ls : Array Slot} (hf : fX8_worthOf t a1 a2 st = some (r, st')) (hH : gP0 0 D cA ad st H) (hS : va_S (gA 0 ad) s.heap H locs) (hl : lv_has ls 3 [(0, .ref (ad t)), (1, .int a1), (2, .int a2)]) : W p l e (gRm 3) s m args below meth c H locs 0 0 (MQ below (gQc 0 D cA ad st' (some (.int r))) args s 0 0 (gA 0 ad)) (F0 m 0 ls []) := by
  obtain ⟨hx, hb, hml, hown, hts⟩ := id hC
  unfold fX8_worthOf at hf
  refine lv_aload_n (pc := 0) hx hb dX8_worthOf_0 rfl (lv_at hl 0 rfl) ?_
  refine lv_iload_n (pc := 1) hx hb dX8_worthOf_1 rfl (lv_at hl 1 rfl) ?_
  refine lv_iload_n (pc := 2) hx hb dX8_worthOf_2 rfl (lv_at hl 2 rfl) ?_
  obtain ⟨q0_1, hq0_1, hf⟩ := gbd hf
  refine g_callVi (pc := 3) (rest := []) hC hU hH hS hl.1 ht rfl (by decide) (mX8_isWorthTold ht hq0_1) ky_X8_isWorthTold km_X8_88 ⟨Nat.le_of_ble_eq_true rfl, Nat.le_of_ble_eq_true rfl⟩ ⟨Nat.zero_le _, Nat.zero_le _⟩ rfl (Nat.le_of_ble_eq_true rfl) dX8_worthOf_3 rfl (fun H locs hH hS => ?_)
  refine lv_if_eq (tgt := 23) (pc := 6) hx hb dX8_worthOf_6 (by decide) (fun hc => ?_) (fun hc => ?_)
  · have hf := gif_p hc hf
    refine lv_iconst (v := 0) (pc := 23) hx hb dX8_worthOf_23 (by decide) ?_
    exact g_iret (pc := 24) hC hret hlk hH hS hf dX8_worthOf_24
  · have hf := gif_n hc hf
    refine lv_aload_n (pc := 9) hx hb dX8_worthOf_9 rfl (lv_at hl 0 rfl) ?_
    refine g_get (pc := 10) (v := .ref (ad (t + 1 + 5))) hC hU hH ht g_cl8 5 (by decide) kf_X8_28 rfl dX8_worthOf_10 ?_
    refine lv_iload_n (pc := 13) hx hb dX8_worthOf_13 rfl (lv_at hl 1 rfl) ?_
    refine lv_bipush (v := 8) (pc := 14) hx hb dX8_worthOf_14 (by decide) ?_
    refine lv_imul (pc := 16) hx hb dX8_worthOf_16 ?_
    refine lv_iload_n (pc := 17) hx hb dX8_worthOf_17 rfl (lv_at hl 2 rfl) ?_
    refine lv_iadd (pc := 18) hx hb dX8_worthOf_18 ?_
    obtain ⟨h0_1, hf⟩ := gc_s hf
    refine g_iald (pc := 19) hC hU hH (gk_8_5 ht) (gn_8_5 ht) h0_1 dX8_worthOf_19 ?_
    refine lv_goto (tgt := 24) (pc := 20) hx hb dX8_worthOf_20 (by decide) ?_
    exact g_iret (pc := 24) hC hret hlk hH hS hf dX8_worthOf_24
set_option maxRecDepth 100000 in
set_option maxHeartbeats 4000000 in
theorem mX8_worthOf {l : Launch} {D : va_G} {cA : Nat → ClassId} {ad : Nat → Nat} {t : Nat} {a1 : Int32} {a2 : Int32} (ht : gK 0 t = 8) {r : Int32} {st st' : gS} (hf : fX8_worthOf t a1 a2 st = some (r, st')) : gM l yX8_worthOf cX8_worthOf 3 (some .int) 3 0 D cA ad st [.ref (ad t), .int a1, .int a2] (some (.int r)) st' := by
  refine g_met (by decide) (Nat.le_of_ble_eq_true rfl) ?_
  intro p e s m args below meth c ls hC hret hlk hU hH hl
  exact bX8_worthOf_0 hC hret hlk hU ht hf hH va_S.rf hl
def fX5_figureBit (t : Nat)   (st : gS) : Option (Int32 × gS) :=
  if (st.1 t 2) < 0 then (some (0, st)) else (some (1 <<< ((st.1 t 2) &&& 31), st))
set_option maxRecDepth 100000 in
set_option maxHeartbeats 4000000 in
theorem bX5_figureBit_0 {t : Nat} (hC : CallFix p m c cX5_figureBit 1 s args lw_good RX5) (hret : meth.sig.returnType = (some .int)) (hlk : meth.locks = false) (hU : gU 0 D cA ad s) (ht : gK 0 t = 5) {r : Int32} {st' : gS}   {st : gS} {H : Heap} {locs : List Loc} {ls : Array Slot} (hf : fX5_figureBit t st = some (r, st')) (hH : gP0 0 D cA ad st H) (hS : va_S (gA 0 ad) s.heap H locs) (hl : lv_has ls 1 [(0, .ref (ad t))]) : W p l e (gRm 1) s m args below meth c H locs 0 0 (MQ below (gQc 0 D cA ad st' (some (.int r))) args s 0 0 (gA 0 ad)) (F0 m 0 ls []) := by
  obtain ⟨hx, hb, hml, hown, hts⟩ := id hC
  unfold fX5_figureBit at hf
  refine lv_aload_n (pc := 0) hx hb dX5_figureBit_0 rfl (lv_at hl 0 rfl) ?_
  refine g_get (pc := 1) (v := .int (st.1 t 2)) hC hU hH ht g_cl5 2 (by decide) kf_X5_18 rfl dX5_figureBit_1 ?_
  refine lv_if_lt (tgt := 16) (pc := 4) hx hb dX5_figureBit_4 (by decide) (fun hc => ?_) (fun hc => ?_)
  · have hf := gif_p hc hf
    refine lv_iconst (v := 0) (pc := 16) hx hb dX5_figureBit_16 (by decide) ?_
    exact g_iret (pc := 17) hC hret hlk hH hS hf dX5_figureBit_17
  · have hf := gif_n hc hf
    refine lv_iconst (v := 1) (pc := 7) hx hb dX5_figureBit_7 (by decide) ?_
    refine lv_aload_n (pc := 8) hx hb dX5_figureBit_8 rfl (lv_at hl 0 rfl) ?_
    refine g_get (pc := 9) (v := .int (st.1 t 2)) hC hU hH ht g_cl5 2 (by decide) kf_X5_18 rfl dX5_figureBit_9 ?_
    refine lv_ishl (pc := 12) hx hb dX5_figureBit_12 ?_
    refine lv_goto (tgt := 17) (pc := 13) hx hb dX5_figureBit_13 (by decide) ?_
    exact g_iret (pc := 17) hC hret hlk hH hS hf dX5_figureBit_17
set_option maxRecDepth 100000 in
set_option maxHeartbeats 4000000 in
theorem mX5_figureBit {l : Launch} {D : va_G} {cA : Nat → ClassId} {ad : Nat → Nat} {t : Nat} (ht : gK 0 t = 5) {r : Int32} {st st' : gS} (hf : fX5_figureBit t st = some (r, st')) : gM l yX5_figureBit cX5_figureBit 1 (some .int) 1 0 D cA ad st [.ref (ad t)] (some (.int r)) st' := by
  refine g_met (by decide) (Nat.le_of_ble_eq_true rfl) ?_
  intro p e s m args below meth c ls hC hret hlk hU hH hl
  exact bX5_figureBit_0 hC hret hlk hU ht hf hH va_S.rf hl
def fX6_cut (a1 : Int32)   (st : gS) : Option (Int32 × gS) :=
  if a1 < 0 then (some (0, st)) else (if a1 ≤ (st.1 1 1) then (some (1, wi st 1 1 a1)) else (some (0, st)))
set_option maxRecDepth 100000 in
set_option maxHeartbeats 4000000 in
theorem bX6_cut_0 {a1 : Int32} (hC : CallFix p m c cX6_cut 2 s args lw_good RX6) (hret : meth.sig.returnType = (some .boolean)) (hlk : meth.locks = false) (hU : gU 0 D cA ad s)  {r : Int32} {st' : gS}   {st : gS} {H : Heap} {locs : List Loc} {ls : Array Slot} (hf : fX6_cut a1 st = some (r, st')) (hH : gP0 0 D cA ad st H) (hS : va_S (gA 0 ad) s.heap H locs) (hl : lv_has ls 2 [(0, .ref (ad 1)), (1, .int a1)]) : W p l e (gRm 1) s m args below meth c H locs 0 0 (MQ below (gQc 0 D cA ad st' (some (.int r))) args s 0 0 (gA 0 ad)) (F0 m 0 ls []) := by
  obtain ⟨hx, hb, hml, hown, hts⟩ := id hC
  unfold fX6_cut at hf
  refine lv_iload_n (pc := 0) hx hb dX6_cut_0 rfl (lv_at hl 1 rfl) ?_
  refine lv_if_lt (tgt := 12) (pc := 1) hx hb dX6_cut_1 (by decide) (fun hc => ?_) (fun hc => ?_)
  · have hf := gif_p hc hf
    refine lv_iconst (v := 0) (pc := 12) hx hb dX6_cut_12 (by decide) ?_
    exact g_zret (pc := 13) hC hret hlk hH hS (by decide) hf dX6_cut_13
  · have hf := gif_n hc hf
    refine lv_iload_n (pc := 4) hx hb dX6_cut_4 rfl (lv_at hl 1 rfl) ?_
    refine lv_aload_n (pc := 5) hx hb dX6_cut_5 rfl (lv_at hl 0 rfl) ?_
    refine g_get (pc := 6) (v := .int (st.1 1 1)) hC hU hH gk0_1 g_cl6 1 (by decide) kf_X6_15 rfl dX6_cut_6 ?_
    refine lv_icmp_le (tgt := 14) (pc := 9) hx hb dX6_cut_9 (by decide) (fun hc => ?_) (fun hc => ?_)
    · have hf := gif_p hc hf
      refine lv_aload_n (pc := 14) hx hb dX6_cut_14 rfl (lv_at hl 0 rfl) ?_
      refine lv_iload_n (pc := 15) hx hb dX6_cut_15 rfl (lv_at hl 1 rfl) ?_
      refine g_puti (pc := 16) hC hU hH hS gk0_1 g_cl6 1 (by decide) kf_X6_15 rfl rfl rfl rfl dX6_cut_16 (fun H locs hH hS => ?_)
      refine lv_iconst (v := 1) (pc := 19) hx hb dX6_cut_19 (by decide) ?_
      exact g_zret (pc := 20) hC hret hlk hH hS (by decide) hf dX6_cut_20
    · have hf := gif_n hc hf
      refine lv_iconst (v := 0) (pc := 12) hx hb dX6_cut_12 (by decide) ?_
      exact g_zret (pc := 13) hC hret hlk hH hS (by decide) hf dX6_cut_13
set_option maxRecDepth 100000 in
set_option maxHeartbeats 4000000 in
theorem mX6_cut {l : Launch} {D : va_G} {cA : Nat → ClassId} {ad : Nat → Nat} {a1 : Int32}  {r : Int32} {st st' : gS} (hf : fX6_cut a1 st = some (r, st')) : gM l yX6_cut cX6_cut 2 (some .boolean) 1 0 D cA ad st [.ref (ad 1), .int a1] (some (.int r)) st' := by
  refine g_met (by decide) (Nat.le_of_ble_eq_true rfl) ?_
  intro p e s m args below meth c ls hC hret hlk hU hH hl
  exact bX6_cut_0 hC hret hlk hU hf hH va_S.rf hl
def fX10_fault (a1 : Int32)   (st : gS) : Option (Int32 × gS) :=
  if a1 = 0 then (some (st.1 3 5, st)) else if a1 = 1 then (some (st.1 3 6, st)) else (some ((-1), st))
set_option maxRecDepth 100000 in
set_option maxHeartbeats 4000000 in
theorem bX10_fault_0 {a1 : Int32} (hC : CallFix p m c cX10_fault 2 s args lw_good RX10) (hret : meth.sig.returnType = (some .int)) (hlk : meth.locks = false) (hU : gU 0 D cA ad s)  {r : Int32} {st' : gS}   {st : gS} {H : Heap} {locs : List Loc} {ls : Array Slot} (hf : fX10_fault a1 st = some (r, st')) (hH : gP0 0 D cA ad st H) (hS : va_S (gA 0 ad) s.heap H locs) (hl : lv_has ls 2 [(0, .ref (ad 0)), (1, .int a1)]) : W p l e (gRm 1) s m args below meth c H locs 0 0 (MQ below (gQc 0 D cA ad st' (some (.int r))) args s 0 0 (gA 0 ad)) (F0 m 0 ls []) := by
  obtain ⟨hx, hb, hml, hown, hts⟩ := id hC
  unfold fX10_fault at hf
  refine lv_iload_n (pc := 0) hx hb dX10_fault_0 rfl (lv_at hl 1 rfl) ?_
  by_cases hw1_0 : a1 = 0
  · have hf := gif_p hw1_0 hf
    refine g_lswI (tgt := 28) (off := 27) (pc := 1) hx hb hw1_0 dX10_fault_1 (by decide) (by decide) (by decide) ?_
    refine lv_aload_n (pc := 28) hx hb dX10_fault_28 rfl (lv_at hl 0 rfl) ?_
    refine g_get (pc := 29) (v := .ref (ad 3)) hC hU hH gk0_0 g_cl10 1 (by decide) kf_X10_21 rfl dX10_fault_29 ?_
    refine g_get (pc := 32) (v := .int (st.1 3 5)) hC hU hH gk0_3 g_cl4 5 (by decide) kf_X10_118 rfl dX10_fault_32 ?_
    exact g_iret (pc := 35) hC hret hlk hH hS hf dX10_fault_35
  · have hf := gif_n hw1_0 hf
    by_cases hw1_1 : a1 = 1
    · have hf := gif_p hw1_1 hf
      refine g_lswI (tgt := 36) (off := 35) (pc := 1) hx hb hw1_1 dX10_fault_1 (by decide) (by decide) (by decide) ?_
      refine lv_aload_n (pc := 36) hx hb dX10_fault_36 rfl (lv_at hl 0 rfl) ?_
      refine g_get (pc := 37) (v := .ref (ad 3)) hC hU hH gk0_0 g_cl10 1 (by decide) kf_X10_21 rfl dX10_fault_37 ?_
      refine g_get (pc := 40) (v := .int (st.1 3 6)) hC hU hH gk0_3 g_cl4 6 (by decide) kf_X10_121 rfl dX10_fault_40 ?_
      exact g_iret (pc := 43) hC hret hlk hH hS hf dX10_fault_43
    · have hf := gif_n hw1_1 hf
      refine g_lswO (tgt := 44) (pc := 1) hx hb dX10_fault_1 (by decide) (by show Op.lookupswitch.offset [(0, 27), (1, 35)] (43) _ = (43); rw [lv_osw hw1_0 (by decide), lv_osw hw1_1 (by decide)]; rfl) (by decide) ?_
      refine lv_iconst (v := (-1)) (pc := 44) hx hb dX10_fault_44 (by decide) ?_
      exact g_iret (pc := 45) hC hret hlk hH hS hf dX10_fault_45
set_option maxRecDepth 100000 in
set_option maxHeartbeats 4000000 in
theorem mX10_fault {l : Launch} {D : va_G} {cA : Nat → ClassId} {ad : Nat → Nat} {a1 : Int32}  {r : Int32} {st st' : gS} (hf : fX10_fault a1 st = some (r, st')) : gM l yX10_fault cX10_fault 2 (some .int) 1 0 D cA ad st [.ref (ad 0), .int a1] (some (.int r)) st' := by
  refine g_met (by decide) (Nat.le_of_ble_eq_true rfl) ?_
  intro p e s m args below meth c ls hC hret hlk hU hH hl
  exact bX10_fault_0 hC hret hlk hU hf hH va_S.rf hl
end

