theorem gn_in {α : Type} {l : List α} {f : α → Cond} (ps : List Nat) (h : l.map f = ps.filterMap (fun i => tables_1[i]?)) : ∀ q ∈ l, f q ∈ lw_tbl := by
  intro q hq
  have h1 : f q ∈ l.map f := List.mem_map.mpr ⟨q, hq, rfl⟩
  rw [h] at h1
  obtain ⟨i, -, hi⟩ := List.mem_filterMap.mp h1
  exact List.mem_append_right _ (List.mem_of_getElem? hi)
theorem gnF_in : ∀ q ∈ gnF, Cond.fieldLinkNest q.1 q.2.1 q.2.2.1 q.2.2.2.1 q.2.2.2.2.1 q.2.2.2.2.2 ∈ lw_tbl := gn_in [66, 67, 85, 87, 89, 90, 93, 94, 95, 97, 98, 99, 100, 102, 103, 105, 107, 108, 110, 111, 113, 114, 115, 116, 117, 119, 120, 121, 122, 124, 125, 126, 127, 129, 131, 132, 134, 135, 182, 184, 186, 188, 208, 210, 233, 235, 237, 238, 240, 241, 242, 244, 245, 247, 248, 250, 252, 254, 255, 257, 290, 292, 316, 318, 320, 371, 373] (by decide +kernel)
theorem gnM_in : ∀ q ∈ gnM, Cond.methodLinkNest q.1 q.2.1 q.2.2.1 q.2.2.2 ∈ lw_tbl := gn_in [32, 52, 58, 228, 287, 302, 345, 355, 400] (by decide +kernel)
/-! ===== the law's start ===== -/
theorem lw_good_tbl {w : Cond} (h : w ∈ lw_good) : w ∈ lw_tbl := (List.mem_filter.mp h).1
theorem t_in {w : Cond} (i : Nat) (h : tables_1[i]? = some w) : w ∈ lw_tbl := List.mem_append_right _ (List.mem_of_getElem? h)
set_option maxRecDepth 100000 in
set_option maxHeartbeats 4000000 in
theorem law_statics {b : Nat} {s : State} (hts : ∀ w ∈ lw_tbl, w.before #[Value.ref b] s = true) (hgv : (Jvm.Cond.and given_1 narrow_1).before #[Value.ref b] s = true) : ∃ t0 t1 t2 : Nat,
    va_Z RX7 "WORDS" "[J" (.ref t0) (cB s.heap.size) s s.heap ∧ va_T .long t0 19 (fun j => .long (gWords.getD j 0)) (cB s.heap.size) s s.heap ∧
    vk_R RX7 gSignsIx gSigns t1 s ∧ vk_S 1 [11] [gSignsB] (fun _ => t1) (fun _ => t2) (cB s.heap.size) s s.heap ∧
    va_Z "java/lang/String" "COMPACT_STRINGS" "Z" (.int 1) (cB s.heap.size) s s.heap := by
  have hs := flat_of_before _ hgv
  have hA : ∀ a : Nat, a < s.heap.size → ¬ cB s.heap.size a := fun a h q => by
    have : s.heap.size ≤ a := q
    omega
  obtain ⟨t0, ht0, hT⟩ := va_Tof (tm := .static RX7 "WORDS" "[J") (ty := .long) (N := 19) (f := fun j => .long (gWords.getD j 0)) (A := cB s.heap.size) (by decide) (hs (.arrayOf (.static RX7 "WORDS" "[J") .long) (by decide +kernel)) (va_eqt (hs (.eq (.length (.static RX7 "WORDS" "[J")) (.int (Int32.ofNat 19))) (by decide +kernel))) (fun j hj => by
    match j, hj with
    | 0, _ => exact va_eqtl (hs (.eq (.elem (.static RX7 "WORDS" "[J") (.int 0)) (.long 112602893349477)) (by decide +kernel))
    | 1, _ => exact va_eqtl (hs (.eq (.elem (.static RX7 "WORDS" "[J") (.int 1)) (.long 500135715429)) (by decide +kernel))
    | 2, _ => exact va_eqtl (hs (.eq (.elem (.static RX7 "WORDS" "[J") (.int 2)) (.long 495723310188)) (by decide +kernel))
    | 3, _ => exact va_eqtl (hs (.eq (.elem (.static RX7 "WORDS" "[J") (.int 3)) (.long 495874303590)) (by decide +kernel))
    | 4, _ => exact va_eqtl (hs (.eq (.elem (.static RX7 "WORDS" "[J") (.int 4)) (.long 30796712728556147)) (by decide +kernel))
    | 5, _ => exact va_eqtl (hs (.eq (.elem (.static RX7 "WORDS" "[J") (.int 5)) (.long 1836021349)) (by decide +kernel))
    | 6, _ => exact va_eqtl (hs (.eq (.elem (.static RX7 "WORDS" "[J") (.int 6)) (.long 112603009869170)) (by decide +kernel))
    | 7, _ => exact va_eqtl (hs (.eq (.elem (.static RX7 "WORDS" "[J") (.int 7)) (.long 1751216740)) (by decide +kernel))
    | 8, _ => exact va_eqtl (hs (.eq (.elem (.static RX7 "WORDS" "[J") (.int 8)) (.long 513021013607)) (by decide +kernel))
    | 9, _ => exact va_eqtl (hs (.eq (.elem (.static RX7 "WORDS" "[J") (.int 9)) (.long 512970880104)) (by decide +kernel))
    | 10, _ => exact va_eqtl (hs (.eq (.elem (.static RX7 "WORDS" "[J") (.int 10)) (.long 1936484720)) (by decide +kernel))
    | 11, _ => exact va_eqtl (hs (.eq (.elem (.static RX7 "WORDS" "[J") (.int 11)) (.long 1668248164)) (by decide +kernel))
    | 12, _ => exact va_eqtl (hs (.eq (.elem (.static RX7 "WORDS" "[J") (.int 12)) (.long 1685217655)) (by decide +kernel))
    | 13, _ => exact va_eqtl (hs (.eq (.elem (.static RX7 "WORDS" "[J") (.int 13)) (.long 28530)) (by decide +kernel))
    | 14, _ => exact va_eqtl (hs (.eq (.elem (.static RX7 "WORDS" "[J") (.int 14)) (.long 6385252)) (by decide +kernel))
    | 15, _ => exact va_eqtl (hs (.eq (.elem (.static RX7 "WORDS" "[J") (.int 15)) (.long 7237492)) (by decide +kernel))
    | 16, _ => exact va_eqtl (hs (.eq (.elem (.static RX7 "WORDS" "[J") (.int 16)) (.long 2003792494)) (by decide +kernel))
    | 17, _ => exact va_eqtl (hs (.eq (.elem (.static RX7 "WORDS" "[J") (.int 17)) (.long 7824756)) (by decide +kernel))
    | 18, _ => exact va_eqtl (hs (.eq (.elem (.static RX7 "WORDS" "[J") (.int 18)) (.long 6578553)) (by decide +kernel))
    | n + 19, h => exact absurd h (by omega)) hA
  have hZ := va_Zof (A := cB s.heap.size) (hts (.laysStatic RX7 "WORDS" "[J") (t_in 531 (by decide +kernel))) (hts (.initialized RX7) (lw_good_tbl kit7)) ht0 hA
  obtain ⟨adK, adV, hV, hE⟩ := vk_Sof (N := 1) (tm := fun _ => .string RX7 57) (len := [11]) (byt := [gSignsB]) (A := cB s.heap.size) (by decide) (fun i hi => hs (.exactly (.string RX7 57) "java/lang/String") (by decide +kernel)) (fun i hi => hs (.eq (.field (.string RX7 57) "java/lang/String" "coder" "B") (.int 0)) (by decide +kernel))
    (fun i hi => hs (.arrayOf (.field (.string RX7 57) "java/lang/String" "value" "[B") .byte) (by decide +kernel)) (fun i hi => by
      have e : i = 0 := by omega
      subst e
      exact hs (.eq (.length (.field (.string RX7 57) "java/lang/String" "value" "[B")) (.int 11)) (by decide +kernel)) (fun i hi j hj => by
      have e : i = 0 := by omega
      subst e
      have hj : j < 11 := hj
      match j, hj with
      | 0, _ => exact hs (.eq (.elem (.field (.string RX7 57) "java/lang/String" "value" "[B") (.int 0)) (.int 59)) (by decide +kernel)
      | 1, _ => exact hs (.eq (.elem (.field (.string RX7 57) "java/lang/String" "value" "[B") (.int 1)) (.int 40)) (by decide +kernel)
      | 2, _ => exact hs (.eq (.elem (.field (.string RX7 57) "java/lang/String" "value" "[B") (.int 2)) (.int 41)) (by decide +kernel)
      | 3, _ => exact hs (.eq (.elem (.field (.string RX7 57) "java/lang/String" "value" "[B") (.int 3)) (.int 60)) (by decide +kernel)
      | 4, _ => exact hs (.eq (.elem (.field (.string RX7 57) "java/lang/String" "value" "[B") (.int 4)) (.int 62)) (by decide +kernel)
      | 5, _ => exact hs (.eq (.elem (.field (.string RX7 57) "java/lang/String" "value" "[B") (.int 5)) (.int 61)) (by decide +kernel)
      | 6, _ => exact hs (.eq (.elem (.field (.string RX7 57) "java/lang/String" "value" "[B") (.int 6)) (.int 43)) (by decide +kernel)
      | 7, _ => exact hs (.eq (.elem (.field (.string RX7 57) "java/lang/String" "value" "[B") (.int 7)) (.int 45)) (by decide +kernel)
      | 8, _ => exact hs (.eq (.elem (.field (.string RX7 57) "java/lang/String" "value" "[B") (.int 8)) (.int 42)) (by decide +kernel)
      | 9, _ => exact hs (.eq (.elem (.field (.string RX7 57) "java/lang/String" "value" "[B") (.int 9)) (.int 47)) (by decide +kernel)
      | 10, _ => exact hs (.eq (.elem (.field (.string RX7 57) "java/lang/String" "value" "[B") (.int 10)) (.int 37)) (by decide +kernel)
      | n + 11, h => exact absurd h (by omega)) (fun i j hi hj h => absurd (show i = j by omega) h) hA
  refine ⟨t0, adK 0, adV 0, hZ, hT, vk_R.of (A := #[Value.ref b]) (hts (.stringRef RX7 57 ";()<>=+-*/%") (t_in 539 (by decide +kernel))) (hE 0 (by decide)), ⟨fun i hi => ?_, fun i j hi hj _ => by omega⟩, va_Zof (hts (.laysStatic "java/lang/String" "COMPACT_STRINGS" "Z") (t_in 553 (by decide +kernel))) (hts (.initialized "java/lang/String") (t_in 15 (by decide +kernel))) (va_eqi (hs (.eq (.static "java/lang/String" "COMPACT_STRINGS" "Z") (.int 1)) (by decide +kernel))) hA⟩
  have e : i = 0 := by omega
  subst e
  exact hV.1 0 (by decide)
set_option maxRecDepth 100000 in
set_option maxHeartbeats 4000000 in
/-- the classes of objects and of arrays, by their numbers -/
theorem law_classes {b : Nat} {s : State} (hts : ∀ w ∈ lw_tbl, w.before #[Value.ref b] s = true) : ∃ (D : va_G) (cA : Nat → ClassId), va_K D vwCl (gty cA) s := by
  obtain ⟨c0, j0, hk0⟩ := u_known (C := RX0) (T := TX0) (N := 5) (n := 5) hts (fun w h => lw_good_tbl (g_in0 w h)) (hts (.instantiable RX0 5) (lw_good_tbl kin0))
  obtain ⟨c1, j1, hk1⟩ := u_known (C := RX1) (T := TX1) (N := 3) (n := 3) hts (fun w h => lw_good_tbl (g_in1 w h)) (hts (.instantiable RX1 3) (lw_good_tbl kin1))
  obtain ⟨c2, j2, hk2⟩ := u_known (C := RX2) (T := TX2) (N := 12) (n := 12) hts (fun w h => lw_good_tbl (g_in2 w h)) (hts (.instantiable RX2 12) (lw_good_tbl kin2))
  obtain ⟨c3, j3, hk3⟩ := u_known (C := RX3) (T := TX3) (N := 1) (n := 1) hts (fun w h => lw_good_tbl (g_in3 w h)) (hts (.instantiable RX3 1) (lw_good_tbl kin3))
  obtain ⟨c4, j4, hk4⟩ := u_known (C := RX4) (T := TX4) (N := 7) (n := 7) hts (fun w h => lw_good_tbl (g_in4 w h)) (hts (.instantiable RX4 7) (lw_good_tbl kin4))
  obtain ⟨c5, j5, hk5⟩ := u_known (C := RX5) (T := TX5) (N := 10) (n := 10) hts (fun w h => lw_good_tbl (g_in5 w h)) (hts (.instantiable RX5 10) (lw_good_tbl kin5))
  obtain ⟨c6, j6, hk6⟩ := u_known (C := RX6) (T := TX6) (N := 2) (n := 2) hts (fun w h => lw_good_tbl (g_in6 w h)) (hts (.instantiable RX6 2) (lw_good_tbl kin6))
  obtain ⟨c7, j7, hk7⟩ := u_known (C := RX7) (T := TX7) (N := 6) (n := 6) hts (fun w h => lw_good_tbl (g_in7 w h)) (hts (.instantiable RX7 6) (lw_good_tbl kin7))
  obtain ⟨c8, j8, hk8⟩ := u_known (C := RX8) (T := TX8) (N := 18) (n := 18) hts (fun w h => lw_good_tbl (g_in8 w h)) (hts (.instantiable RX8 18) (lw_good_tbl kin8))
  obtain ⟨c9, j9, hk9⟩ := u_known (C := RX9) (T := TX9) (N := 10) (n := 10) hts (fun w h => lw_good_tbl (g_in9 w h)) (hts (.instantiable RX9 10) (lw_good_tbl kin9))
  obtain ⟨c10, j10, hk10⟩ := u_known (C := RX10) (T := TX10) (N := 10) (n := 10) hts (fun w h => lw_good_tbl (g_in10 w h)) (hts (.instantiable RX10 10) (lw_good_tbl kin10))
  obtain ⟨c11, j11, hk11⟩ := u_known (C := RX11) (T := TX11) (N := 79) (n := 79) hts (fun w h => lw_good_tbl (g_in11 w h)) (hts (.instantiable RX11 79) (lw_good_tbl kin11))
  obtain ⟨i0, k0, p0, f0, g0, h0⟩ := Cond.arrayClass_spec (hts (.arrayClass .int) (lw_good_tbl kac_int))
  obtain ⟨i1, k1, p1, f1, g1, h1⟩ := Cond.arrayClass_spec (hts (.arrayClass .boolean) (lw_good_tbl kac_boolean))
  obtain ⟨i2, k2, p2, f2, g2, h2⟩ := Cond.arrayClass_spec (hts (.arrayClass .byte) (lw_good_tbl kac_byte))
  obtain ⟨i3, k3, p3, f3, g3, h3⟩ := Cond.arrayClass_spec (hts (.arrayClass .long) (lw_good_tbl kac_long))
  obtain ⟨p4, i4, k4, f4, -, g4, h4, e4⟩ := Cond.arrayOver_spec (hts (.arrayOver (.object RX5)) (t_in 286 (by decide +kernel)))
  obtain ⟨p5, i5, k5, f5, -, g5, h5, e5⟩ := arrayOverA_spec (hts (.arrayOver (.array .int)) (t_in 307 (by decide +kernel)))
  have arr : ∀ {cI : ClassId} {kI : Class} {cp : ClassId} {ty : FieldType}, s.vm.classes[cI]? = some kI → kI.kind = .array cp ty → ArrOfT s cI ty := fun {_ kI cp _} g h n z => ⟨(fun k q => by cases q), kI, g, cp, h⟩
  refine ⟨(fun k => if k = 0 then c0 else if k = 1 then c1 else if k = 2 then c2 else if k = 3 then c3 else if k = 4 then c4 else if k = 5 then c5 else if k = 6 then c6 else if k = 7 then c7 else if k = 8 then c8 else if k = 9 then c9 else if k = 10 then c10 else c11, fun k => if k = 0 then j0 else if k = 1 then j1 else if k = 2 then j2 else if k = 3 then j3 else if k = 4 then j4 else if k = 5 then j5 else if k = 6 then j6 else if k = 7 then j7 else if k = 8 then j8 else if k = 9 then j9 else if k = 10 then j10 else j11), fun k => if k = 20 then i0 else if k = 21 then i1 else if k = 22 then i2 else if k = 23 then i3 else if k = 24 then i4 else i5, ⟨fun k q hq => ?_, fun k q hq => ?_⟩⟩
  · match k, hq with
    | 0, hq => cases hq; exact hk0
    | 1, hq => cases hq; exact hk1
    | 2, hq => cases hq; exact hk2
    | 3, hq => cases hq; exact hk3
    | 4, hq => cases hq; exact hk4
    | 5, hq => cases hq; exact hk5
    | 6, hq => cases hq; exact hk6
    | 7, hq => cases hq; exact hk7
    | 8, hq => cases hq; exact hk8
    | 9, hq => cases hq; exact hk9
    | 10, hq => cases hq; exact hk10
    | 11, hq => cases hq; exact hk11
    | k + 12, hq => simp [vwCl] at hq
  · match k, hq with
    | 0, hq => cases hq; exact ⟨arr g0 h0, f0⟩
    | 1, hq => cases hq; exact ⟨arr g1 h1, f1⟩
    | 2, hq => cases hq; exact ⟨arr g2 h2, f2⟩
    | 3, hq => cases hq; exact ⟨arr g3 h3, f3⟩
    | 4, hq => cases hq; exact ⟨arr g4 h4, k4, p4, g4, h4, f4, e4⟩
    | 5, hq => cases hq; exact ⟨arr g5 h5, e5⟩
    | k + 6, hq => simp at hq
set_option maxRecDepth 100000 in
theorem csM_full : ∀ k, k < gNC 1 → gK 1 k < 20 → ∀ j, j < (gft.getD (gK 1 k) []).length → 2 ≤ gF (gK 1 k) j → (iX11 (cz cs0 0)).2 k j = false := by decide +kernel
set_option maxRecDepth 100000 in
theorem csM_rows : ∀ k, k < gNC 1 → gK 1 k = 24 → ∀ i, i < gN 1 k → (iX11 (cz cs0 0)).2 k i = false := by decide +kernel
/-- the reference's memory at first -/
def y00 : gS := (iX11 (cz cs0 0)).1
theorem dPc.blind {B : Nat} {D : va_G} {cA : Nat → ClassId} {ad : Nat → Nat} : FrameBlind (dPc B D cA ad) := by
  intro a U g mk h
  obtain ⟨h0, ⟨h1, h2, h3, h4, h5⟩, h6, h7, k1, k2, k3, k4, k5⟩ := h
  have ha : Vm.Alike U.vm (U.calling g mk a).vm := Vm.Alike.refl U.vm
  exact ⟨h0, ⟨va_K.moved ha h1, fun q hq => va_Nw.same rfl rfl (h2 q hq), fun q hq => va_Nw.same rfl rfl (h3 q hq), h4.moved ha, over_moved ha h5⟩, h6, h7, k1.moved ha, k2.moved ha, vk_R.same rfl k3, k4.moved ha, k5.moved ha⟩
section LA
variable {p : Program} {l : Launch} {e : Env} {R : Room} {s : State} {m : MethodId} {args : Array Value} {below : List Frame} {meth : Method} {c : Code} {H : Heap} {locs : List Loc} {cells slots : Nat} {Q : State → Prop}
variable {pc : Nat} {ls : Array Slot} {rest : List Value} {D : va_G} {cA : Nat → ClassId} {ad : Nat → Nat} {w n' B mc ms : Nat} {cs' : gC} {st' : gS} {A0 : Nat → Prop} {st0 : List Value} {a : Array Value}
theorem l_afterX (hr : va_Run p l e R s m args below meth c H locs cells slots mc ms (F0 m pc ls st0) rest (dQc w B D cA ad st' a) (cB B)) (hS : va_S (cB B) s.heap H locs)
    (kk : ∀ (H1 : Heap) (locs1 : List Loc), gP0 w D cA ad st' H1 → va_S (cB B) s.heap H1 locs1 → W p l e R s m args below meth c H1 locs1 (cells + mc) (slots + ms) Q (F0 m (pc + 3) ls rest)) : W p l e R s m args below meth c H locs cells slots Q (F0 m pc ls st0) := by
  intro T hT X
  obtain ⟨v, st₀, t, T', L, h0, X', hL, e1, e2, ⟨hv, hp, hz, hk⟩, stp⟩ := hr T hT X
  cases hv
  rw [h0] at hz hk
  obtain ⟨t2, a1, b1⟩ := kk T'.heap (locs ++ L) (by rw [e1]; exact hp)
    ⟨Nat.le_trans hS.1 (by rw [e1]; exact hz), fun q h1 h2 => by rw [e1, hk q (Nat.lt_of_lt_of_le h1 hS.1) h2]; exact hS.2.1 q h1 h2, fun q hq => by
      rcases List.mem_append.mp hq with h | h
      · exact hS.2.2 q h
      · exact hL q h⟩ T' rfl X'
  exact ⟨t2, stp t2 a1, b1⟩
theorem l_afterY (hr : va_Run p l e R s m args below meth c H locs cells slots mc ms (F0 m pc ls st0) rest (cQc w n' B D cA ad cs' a) (cB B)) (hS : va_S A0 s.heap H locs) (hsub : ∀ q, cB B q → A0 q)
    (kk : ∀ (H1 : Heap) (locs1 : List Loc), cP w n' D cA ad cs' H1 → (∀ q, q < H.size → ¬ cB B q → H1[q]? = H[q]?) → va_S A0 s.heap H1 locs1 → W p l e R s m args below meth c H1 locs1 (cells + mc) (slots + ms) Q (F0 m (pc + 3) ls rest)) : W p l e R s m args below meth c H locs cells slots Q (F0 m pc ls st0) := by
  intro T hT X
  obtain ⟨v, st₀, t, T', L, h0, X', hL, e1, e2, ⟨hv, hp, hz, hk⟩, stp⟩ := hr T hT X
  cases hv
  rw [h0] at hz hk
  obtain ⟨t2, a1, b1⟩ := kk T'.heap (locs ++ L) (by rw [e1]; exact hp) (fun q h1 h2 => by rw [e1]; exact hk q h1 h2)
    ⟨Nat.le_trans hS.1 (by rw [e1]; exact hz), fun q h1 h2 => by rw [e1, hk q (Nat.lt_of_lt_of_le h1 hS.1) (fun z => h2 (hsub q z))]; exact hS.2.1 q h1 h2, fun q hq => by
      rcases List.mem_append.mp hq with h | h
      · exact hS.2.2 q h
      · exact hsub _ (hL q h)⟩ T' rfl X'
  exact ⟨t2, stp t2 a1, b1⟩
end LA
set_option maxRecDepth 100000 in
set_option maxHeartbeats 4000000 in
/-- THE LAW, out of what is to be shown of the two programs as functions -/
theorem whole_open {p : Program} {e : Env} {s : State} {m : MethodId} {below : List Frame} {meth : Method} {c : Code} (l : Launch) {b L : Nat} {xs : Nat → Int32} (hL : L ≤ 3072) (C0 : lw_At p s m meth c b L xs) {I : gS → gS → Prop} {x00 : gS} (hA : StepAll I) (hx00 : fX10_beginAnew (csB 3).1 = some x00) (hI : I x00 y00) : W p l e room_1 s m #[Value.ref b] below meth c s.heap [] 0 0 (lw_Z below #[Value.ref b] s) (entryFrame m ([Value.ref b] : List Value).toArray 4) := by
  obtain ⟨hx, hb, hr, hml, hown, hts0, hX, hbl, hlocks, hgv⟩ := C0
  have hC : CallFix p m c cL_law 4 s #[Value.ref b] lw_good RL := ⟨hx, hb, hml, hown, fun w h => hts0 w (lw_good_tbl h)⟩
  obtain ⟨t0, t1, t2, hs1, hs2, hs3, hs4, hs5⟩ := law_statics hts0 hgv
  obtain ⟨D, cA, hK⟩ := law_classes hts0
  have hF : ∀ q ∈ gnF, va_Nw (.fieldLinkNest q.1 q.2.1 q.2.2.1 q.2.2.2.1 q.2.2.2.2.1 q.2.2.2.2.2) s := fun q hq => va_Nw.of rfl (hts0 _ (gnF_in q hq))
  have hU : cU D cA s := ⟨hK, hF, fun q hq => va_Nw.of rfl (hts0 _ (gnM_in q hq)), hts0 (.arrayOver (.object RX5)) (t_in 286 (by decide +kernel)), hts0 (.arrayOver (.array .int)) (t_in 307 (by decide +kernel))⟩
  obtain ⟨adx, eadx⟩ : ∃ f : Nat → Nat, f = fun k => if k < 300 then s.heap.size + k else if k = 300 then t0 else if k = 301 then t1 else t2 := ⟨_, rfl⟩
  have a300 : adx 300 = t0 := by rw [eadx]; rfl
  have a301 : adx 301 = t1 := by rw [eadx]; rfl
  have a302 : adx 302 = t2 := by rw [eadx]; rfl
  have n0 := gNC_0
  have n1 := gNC_1
  have hAx : cAd 0 s.heap.size adx := fun k hk => by rw [eadx]; exact if_pos (by omega)
  have hsX : sX s.heap.size adx s := by
    unfold sX
    rw [a300, a301, a302]
    exact ⟨hs1, hs2, hs3, hs4, hs5⟩
  have hl := lv_entry [Value.ref b] (n := 4) (Nat.le_of_ble_eq_true rfl)
  rw [lg_entry_eq]
  generalize (lg_sl [Value.ref b] ++ List.replicate (4 - (lg_sl [Value.ref b]).length) Slot.unset).toArray = ls at hl ⊢
  have hl : lv_has ls 4 [(0, .ref b)] := hl
  have hS : va_S (cB s.heap.size) s.heap s.heap [] := va_S.rf
  have hH : cP 0 0 D cA adx cs0 s.heap := ⟨fun k q h => by simp [cW] at h, by rw [hAx 0 (by omega)]; rfl⟩
  refine c_new0 (pc := 0) hC hU hAx (by omega) hH hS gk0_0 g_cl10 cdf10 kcl_L_7 kin10 kit10 (Nat.le_of_ble_eq_true rfl) (Nat.le_of_ble_eq_true rfl) dL_law_0 (fun H hH hS _ => ?_)
  refine lv_dup (pc := 3) hx hb dL_law_3 rfl ?_
  have hts : ∀ w ∈ lw_good, w.before #[Value.ref b] s = true := fun w h => hts0 w (lw_good_tbl h)
  have hG10 : GoodIn lw_good (gws yX10_init cX10_init 2 none) := lw_good_in (fun w h => by
      rcases List.mem_cons.mp h with rfl | h
      · exact kic10
      · exact h)
  have hp10 : PreS s H (dPc s.heap.size D cA adx) [.ref (adx 0)] :=
    ⟨dPc.blind, fun u hu hW => ⟨rfl, hU.call hW (over_moved hW.alike hU.2.2.2.2), by rw [hu]; exact hS.1, by rw [hu]; exact hH, by
      obtain ⟨k1, k2, k3, k4, k5⟩ := hsX
      unfold sX
      rw [hu]
      exact ⟨(k1.kept hS.2.1).moved hW.alike, (k2.kept hS.2.1).moved hW.alike, k3.warm hW, (k4.kept hS.2.1).moved hW.alike, (k5.kept hS.2.1).moved hW.alike⟩⟩⟩
  refine l_afterX (pc := 4) (rest := [.ref (adx 0)]) (va_runI (As := []) (rest := [.ref (adx 0)]) hC (nX10 hAx hx00) (cwI 0 hts hG10 rfl rfl rfl (hts _ kit10) (hts _ km_L_9) (hts _ kii10) rfl (by decide) ⟨Nat.le_of_ble_eq_true rfl, Nat.le_of_ble_eq_true rfl⟩) hp10 rfl rfl hl.1 rfl (lv_room (Nat.le_of_ble_eq_true rfl)) dL_law_4 ⟨Nat.le_of_ble_eq_true rfl, Nat.le_of_ble_eq_true rfl⟩) hS (fun H locs hx0 hS => ?_)
  refine lv_astore_n (lv' := [(1, .ref (adx 0)), (0, .ref b)]) (pc := 7) hx hb dL_law_7 rfl hl (by decide) rfl (fun ls hl => ?_)
  refine va_forget (fun q hq => hS.2.2 q hq) ?_
  obtain ⟨B2, eB2⟩ : ∃ z, z = H.size := ⟨_, rfl⟩
  obtain ⟨adm, eadm⟩ : ∃ f : Nat → Nat, f = fun k => B2 + k := ⟨_, rfl⟩
  have hAm : cAd 1 B2 adm := fun k _ => by rw [eadm]
  have hB2 : s.heap.size + 218 ≤ B2 := by
    have h217 : (217 : Nat) < gNC 0 := by omega
    have := (hx0 217 _ (gW_at h217)).lt
    have e : adx 217 = s.heap.size + 217 := hAx 217 (by omega)
    have h : adx 217 < H.size := this
    omega
  have hS2 : va_S (cB B2) s.heap H [] := ⟨hS.1, fun q h1 _ => hS.2.1 q h1 (fun z => by have : s.heap.size ≤ q := z; omega), fun _ h => by cases h⟩
  have hH2 : cP 1 0 D cA adm cs0 H := ⟨fun k q h => by simp [cW] at h, by rw [hAm 0 (by omega), eB2]; rfl⟩
  refine c_new0 (pc := 8) hC hU hAm (by omega) hH2 hS2 gk1_0 g_cl11 cdf11 kcl_L_10 kin11 kit11 (Nat.le_of_ble_eq_true rfl) (Nat.le_of_ble_eq_true rfl) dL_law_8 (fun H2 hH2 hS2 ho2 => ?_)
  refine lv_dup (pc := 11) hx hb dL_law_11 rfl ?_
  have hG11 : GoodIn lw_good (gws yX11_init cX11_init 1 none) := lw_good_in (fun w h => by
      rcases List.mem_cons.mp h with rfl | h
      · exact kic11
      · exact h)
  have hS3 : va_S (cB s.heap.size) s.heap H2 [] := ⟨hS2.1, fun q h1 h2 => (ho2 q (by have := hS.1; omega)).trans (hS.2.1 q h1 h2), fun _ h => by cases h⟩
  have hx2 : gP0 0 D cA adx x00 H2 := hx0.kept (fun k hk hlt => ho2 _ hlt)
  have hp11 : PreS s H2 (cPc 1 1 B2 D cA adm (cz cs0 0) [.ref (adm 0)]) [.ref (adm 0)] :=
    ⟨cPc.blind, fun u hu hW => ⟨rfl, hU.call hW (over_moved hW.alike hU.2.2.2.2), by rw [hu, hH2.2, hAm 1 (by omega)]; omega, by rw [hu]; exact hH2⟩⟩
  refine l_afterY (pc := 12) (rest := [.ref (adm 0)]) (va_runI (As := []) (rest := [.ref (adm 0)]) hC (nX11 hAm) (cwI 0 hts hG11 rfl rfl rfl (hts _ kit11) (hts _ km_L_12) (hts _ kii11) rfl (by decide) ⟨Nat.le_of_ble_eq_true rfl, Nat.le_of_ble_eq_true rfl⟩) hp11 rfl rfl hl.1 rfl (lv_room (Nat.le_of_ble_eq_true rfl)) dL_law_12 ⟨Nat.le_of_ble_eq_true rfl, Nat.le_of_ble_eq_true rfl⟩) hS3 (fun q h => by have h3 : B2 ≤ q := h; show s.heap.size ≤ q; omega) (fun H3 locs hH3 ho3 hS => ?_)
  have hy3 : gP0 1 D cA adm y00 H3 := cW_done csM_full (by rw [gNC_1]; exact hH3.1) csM_rows
  have hx3 : gP0 0 D cA adx x00 H3 := hx2.kept (fun k hk hlt => ho3 _ hlt (fun z => by
    have h3 : B2 ≤ adx k := z
    rw [hAx k (by omega)] at h3
    omega))
  refine lv_astore_n (lv' := [(2, .ref (adm 0)), (1, .ref (adx 0)), (0, .ref b)]) (pc := 15) hx hb dL_law_15 rfl hl (by decide) rfl (fun ls hl => ?_)
  refine lv_iconst (v := 0) (pc := 16) hx hb dL_law_16 (by decide) ?_
  refine lv_istore_n (lv' := [(3, .int 0), (2, .ref (adm 0)), (1, .ref (adx 0)), (0, .ref b)]) (pc := 17) hx hb dL_law_17 rfl hl (by decide) rfl (fun ls hl => ?_)
  refine W.widen (k := 265) (n := 8728) (Nat.le_of_ble_eq_true rfl) (Nat.le_of_ble_eq_true rfl) ?_
  exact law_loop hL hA ⟨hC, hsX, hAx, hAm, hB2, hK, hF, hX, hbl⟩ hr hlocks 513 0 (by omega) (by omega) nI_0.symm hI ⟨hx3, hy3, hS⟩ (lv_sub hl [3, 2, 1, 0] rfl)
