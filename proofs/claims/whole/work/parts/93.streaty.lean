theorem s_treaty : sOK Inv fX10_treaty fX11_treaty := by
  intro x y h
  obtain ⟨x1, y0, y1, c, e1, e2, rd, h01, hy0⟩ := read_0 h
  obtain ⟨p1, p2, p3⟩ := h.tape
  have hL : vN (y.1 0 1) < 1601 := p1.2
  obtain ⟨ht, hdt⟩ := h.dt
  generalize et : x.2.2 3 1 = t at *
  rcases l_all (L := vN (y.1 0 1)) (vN (y.1 0 1)) 0 c FU FU x1 y1 (by omega) rd (Nat.zero_le _) (FU_gt (by omega)) (FU_gt (by omega)) with ⟨x2, y2, g1, g2, g3⟩ | ⟨x2, y2, c2, g1, g2, g3⟩
  · have g1 : hX10_treaty_11 FU 1 0 x1 = fX10_treaty_46 0 x2 := g1
    have e11 : x2.1 1 1 = nI (vN (y.1 0 1)) := by rw [g3.1.2 1 1 (by omega), p2]; exact p1.1
    unfold fX11_treaty
    rw [e1, g1, e2, g2, bd]
    unfold fX10_treaty_46 fX6_cut
    rw [if_neg (show ¬ (0 : Int32) < 0 by decide), e11, if_pos (show 0 ≤ nI (vN (y.1 0 1)) from (nI_le' (a := 0) (by decide) (by omega)).mpr (by omega)), bd, if_pos rfl, if_neg g3.n0]
    refine ⟨_, _, _, rfl, rfl, Inv_fail h (by rw [et]; exact g3.1) (fun k j q => ?_) ?_ g3.2.2.1 g3.2.2.2.1⟩
    · have nr : ¬ rdY k j := fun z => q (by
        rcases z with z | z
        · exact .inl z
        · exact .inr (by omega))
      rw [g3.2.1 k j nr, hy0 k j q]
    · rw [g3.2.1 0 1 (by unfold rdY scrY; omega), h01]
  · have g1 : hX10_treaty_11 FU 1 0 x1 = fX10_treaty_46 1 x2 := g1
    obtain ⟨m1, m2, m3, m4, m5, m6, m7⟩ := g3.dr
    have e31 : x2.2.2 3 1 = t := g3.2.2.2.2.1
    have er : x2.2.2 = x.2.2 := g3.1.1
    have F9 : qF y2 < 9 := m1.1.2
    have T6 : qT y2 < 6 := m2.1.2
    have M17 : qM y2 < 17 := m4.1.2
    have h2T : 2 ^ qT y2 ≤ 2 ^ 5 := Nat.pow_le_pow_right (by decide) (by omega)
    have hμ := m2.2.2.1
    have hμ2 := hμ.2
    have e11 : x2.1 1 1 = nI (vN (y.1 0 1)) := by rw [g3.1.2 1 1 (by omega), p2]; exact p1.1
    -- slip
    obtain ⟨n, u, f1, f2, f3, f4, n1, u1, nu, hst, hd, hd1⟩ : ∃ n u, (if y2.1 0 52 = 0 then (0 : Int32) else y2.1 0 17) = nI n ∧ y2.1 0 20 = nI u ∧ x2.1 (t + 1 + 11) 2 = nI n ∧ x2.1 (t + 1 + 11) 3 = nI u ∧ n ≤ 271 ∧ u ≤ 30 ∧ (u = 0 ↔ n = 0) ∧ (∀ i, i < n → stp (x2.1 (t + 1 + 11 + 1 + 0) i) (y2.1 3 i) (y2.1 4 i)) ∧ (∀ i, i ≤ n → ∃ d, dpq (y2.1 3) i = some d ∧ d ≤ 30) ∧ (n ≠ 0 → dpq (y2.1 3) n = some 1) := by
      rcases m6 with ⟨q1, q2, q3, q4⟩ | ⟨q1, n, u, s1, s2, s3, s4, s5, s6, s7, s8, s9, s10, s11⟩
      · refine ⟨0, 0, by rw [if_pos q1]; rfl, q4, q2, q3, by decide, by decide, Iff.rfl, fun i hi => absurd hi (by omega), fun i hi => ?_, fun q => absurd rfl q⟩
        have : i = 0 := by omega
        rw [this]; exact ⟨0, rfl, by decide⟩
      · exact ⟨n, u, by rw [q1, if_neg one0]; exact s2, s4, s1, s3, s8, s6, by omega, s9, s10, fun _ => s11⟩
    -- the class
    obtain ⟨x3, a1, a2, a3⟩ := see_x (x := wi x2 1 1 0) (t := t) (T := qT y2) (M := qM y2) (μ := vN (x2.1 t 15)) (s := fun k => vN (y2.1 11 k)) (f := fun m => vN (y2.1 18 m)) (by rw [wi_n (by omega)]; exact m2.2.1.trans m2.1.1) (by omega) (by rw [wi_n (by omega)]; exact m4.2.1.trans m4.1.1) (by omega) (by rw [wi_n (by omega)]; exact hμ.1) (by omega) (fun k hk => by
      obtain ⟨-, -, -, b4, b5, -⟩ := m2.2.2.2.2 k hk
      rw [wi_n (by omega)]
      exact ⟨b4.trans b5.1, b5.2⟩) (fun m hm => by
      obtain ⟨-, -, b3, -, -, -, -, b8, -⟩ := m4.2.2 m hm
      rw [wi_n (by omega)]
      exact ⟨b3.trans b8.1, b8.2⟩)
    have eR : fX10_treaty x = fX10_treaty_46 1 x2 := by rw [e1, g1]
    have h24 := h.refs.2.2.1 0 (by decide)
    obtain ⟨q, hq41, hq⟩ := h24
    have r3 : x3.2.2 = x.2.2 := by rw [a2]; exact er
    generalize hX5 : wr (wr x3 3 1 (x.2.2 0 9)) 0 9 t = x5
    have x5i : x5.1 = x3.1 := by rw [← hX5]; rfl
    have x5r : ∀ k j, x5.2.2 k j = if k = 0 ∧ j = 9 then t else if k = 3 ∧ j = 1 then x.2.2 0 9 else x.2.2 k j := fun k j => by
      rw [← hX5, wr_2, wr_2]
      show (if k = 0 ∧ j = 9 then t else if k = 3 ∧ j = 1 then x.2.2 0 9 else x3.2.2 k j) = _
      rw [r3]
    obtain ⟨x6, b1, b2, b3⟩ := begin_spec (st := x5) (t := t) (q := q) (by rw [x5r, if_pos ⟨rfl, rfl⟩]) ht (by rw [x5r, if_neg (by omega), if_neg (by omega)]; exact hq) hq41
    have k5 : ∀ k j, ¬ (k = 1 ∧ j = 1) → ¬ (k = t + 1 + 4 ∧ j < qT y2) → x5.1 k j = x2.1 k j := fun k j z1 z2 => by rw [x5i, a3, if_neg z2, wi_1, if_neg z1]
    have x6r : ∀ k j, x6.2.2 k j = if k = 0 ∧ j = 9 then t else if k = 3 ∧ j = 1 then x.2.2 0 9 else x.2.2 k j := fun k j => by rw [b2, x5r]
    have k8o : gK 0 ((wi x2 1 1 0).2.2 0 9) = 8 := by
      show gK 0 (x2.2.2 0 9) = 8
      rw [er]; exact h.told8
    have eo : (wi x2 1 1 0).2.2 0 9 = x.2.2 0 9 := by show x2.2.2 0 9 = _; rw [er]
    have e2t : (wi x2 1 1 0).2.2 3 1 = t := e31
    have k8t : gK 0 ((wi x2 1 1 0).2.2 3 1) = 8 := g3.k8
    have e3t : x3.2.2 3 1 = t := by rw [r3, et]
    have k6 : gK 0 (x6.2.2 0 9) = 8 := by
      rw [x6r, if_pos ⟨rfl, rfl⟩]
      rcases ht with z | z <;> rw [z]
      · exact gk0_4
      · exact gk0_194
    have X : ∀ k j, ¬ (k = 149 ∧ j < 3) → ¬ (k = 169 ∧ j = 10) → ¬ (k = 150 ∧ j = 7) → ¬ (k = 23 ∧ (j = 1 ∨ j = 2)) → ¬ ((k = 20 ∨ k = 25 + 3 * q) ∧ 2 ≤ j ∧ j ≤ 9) → ¬ ((k = 21 ∨ k = 22 ∨ k = 25 + 3 * q + 1 ∨ k = 25 + 3 * q + 2) ∧ j < 5) → ¬ (k = 1 ∧ j = 1) → ¬ (k = t + 1 + 4 ∧ j < qT y2) → x6.1 k j = x2.1 k j := fun k j z1 z2 z3 z4 z5 z6 z7 z8 => by
      rw [b3, if_neg z1, if_neg z2, if_neg z3, if_neg z4, if_neg z5, if_neg z6, k5 k j z7 z8]
    have fF : x5.1 t 12 = nI (qF y2) := by rw [k5 t 12 (by omega) (by omega)]; exact m1.2.1.trans m1.1.1
    have fT : x5.1 t 13 = nI (qT y2) := by rw [k5 t 13 (by omega) (by omega)]; exact m2.2.1.trans m2.1.1
    have f17 : x5.1 t 17 = y2.1 0 47 := by rw [k5 t 17 (by omega) (by omega)]; exact m5.2.2.1
    have le_0 : ∀ {a : Nat}, a < 100 → ∀ {A B : Int32}, (if nI a ≤ 0 then A else B) = if a = 0 then A else B := fun {a} ha {A B} => by
      by_cases z : a = 0
      · rw [if_pos z, if_pos (by rw [z]; exact le0)]
      · rw [if_neg z, if_neg (show ¬ nI a ≤ 0 from fun q => by have := (nI_le' (b := 0) (by omega) (by decide)).mp q; omega)]
    have eq_0 : ∀ {a : Nat}, a < 100 → ∀ {A B : Int32}, (if nI a = 0 then A else B) = if a = 0 then A else B := fun {a} ha {A B} => ite0 (by omega)
    -- the reference
    generalize hYa : wi (wi (wi (wi (wi (wi y2 0 48 (y2.1 0 43)) 0 49 (y2.1 0 44)) 0 50 (y2.1 0 45)) 0 51 (y2.1 0 46)) 0 21 (y2.1 0 20)) 0 18 (nI n) = ya
    have ka : ∀ k j, ¬ (k = 0 ∧ (j = 18 ∨ j = 21 ∨ 48 ≤ j ∧ j ≤ 51)) → ya.1 k j = y2.1 k j := fun k j z => by rw [← hYa, wi_n (by omega), wi_n (by omega), wi_n (by omega), wi_n (by omega), wi_n (by omega), wi_n (by omega)]
    have a18 : ya.1 0 18 = nI n := by rw [← hYa, wi_s]
    have a21 : ya.1 0 21 = y2.1 0 20 := by rw [← hYa, wi_n (by omega), wi_s]
    have a51 : ya.1 0 51 = y2.1 0 46 := by rw [← hYa, wi_n (by omega), wi_n (by omega), wi_s]
    have a50 : ya.1 0 50 = nI (qM y2) := by rw [← hYa, wi_n (by omega), wi_n (by omega), wi_n (by omega), wi_s]; exact m4.1.1
    have a49 : ya.1 0 49 = nI (qT y2) := by rw [← hYa, wi_n (by omega), wi_n (by omega), wi_n (by omega), wi_n (by omega), wi_s]; exact m2.1.1
    have a48 : ya.1 0 48 = nI (qF y2) := by rw [← hYa, wi_n (by omega), wi_n (by omega), wi_n (by omega), wi_n (by omega), wi_n (by omega), wi_s]; exact m1.1.1
    have eY : fX11_treaty y = hX11_treaty_74 FU 0 ya := by
      unfold fX11_treaty fX11_treaty_69
      have t1 : ∀ v, (wi y2 0 48 v).1 0 44 = y2.1 0 44 := fun v => by rw [wi_n (by omega)]
      have t2 : ∀ v w, (wi (wi y2 0 48 v) 0 49 w).1 0 45 = y2.1 0 45 := fun v w => by rw [wi_n (by omega), wi_n (by omega)]
      have t3 : ∀ v w r, (wi (wi (wi y2 0 48 v) 0 49 w) 0 50 r).1 0 46 = y2.1 0 46 := fun v w r => by rw [wi_n (by omega), wi_n (by omega), wi_n (by omega)]
      have t4 : ∀ v w r s, (wi (wi (wi (wi y2 0 48 v) 0 49 w) 0 50 r) 0 51 s).1 0 20 = y2.1 0 20 := fun v w r s => by rw [wi_n (by omega), wi_n (by omega), wi_n (by omega), wi_n (by omega)]
      have t5 : ∀ v w r s z, (wi (wi (wi (wi (wi y2 0 48 v) 0 49 w) 0 50 r) 0 51 s) 0 21 z).1 0 52 = y2.1 0 52 := fun v w r s z => by rw [wi_n (by omega), wi_n (by omega), wi_n (by omega), wi_n (by omega), wi_n (by omega)]
      have t6 : ∀ v w r s z, (wi (wi (wi (wi (wi y2 0 48 v) 0 49 w) 0 50 r) 0 51 s) 0 21 z).1 0 17 = y2.1 0 17 := fun v w r s z => by rw [wi_n (by omega), wi_n (by omega), wi_n (by omega), wi_n (by omega), wi_n (by omega)]
      rw [e2, g2, bd]
      simp only [t1, t2, t3, t4, t5, t6]
      rw [g3.f0, if_pos le0, ← hYa, ← f1]
      by_cases z : y2.1 0 52 = 0
      · rw [if_pos z, if_pos z]
      · rw [if_neg z, if_neg z]
    obtain ⟨yb, c1, -, c3⟩ := T74 a18 (by omega)
    obtain ⟨yc, d1, -, d3⟩ := T114 (y := yb)
    have c49 : yc.1 0 49 = nI (qT y2) := by rw [d3, if_neg (by omega), if_neg (by omega), if_neg (by omega), c3, if_neg (by omega), if_neg (by omega), a49]
    obtain ⟨yd, i1, -, i3⟩ := T163 c49 (by omega)
    have d50 : yd.1 0 50 = nI (qM y2) := by rw [i3, if_neg (by omega), d3, if_neg (by omega), if_neg (by omega), if_neg (by omega), c3, if_neg (by omega), if_neg (by omega), a50]
    obtain ⟨ye, j1, -, j3⟩ := T207 d50 (by omega)
    obtain ⟨y6, l1, -, l3⟩ := T283 (y := ye)
    have G : ∀ k j, ¬ ((21 ≤ k ∧ k ≤ 25) ∧ j < qM y2) → ¬ (k = 15 ∧ j < 8 * qT y2) → ¬ ((k = 12 ∨ k = 13 ∨ k = 27) ∧ j < 5) → ¬ ((k = 5 ∨ k = 6) ∧ j < n) → ye.1 k j = ya.1 k j := fun k j z1 z2 z3 z4 => by
      rw [j3, if_neg z1, i3, if_neg z2, d3, if_neg (by omega), if_neg (by omega), if_neg (by omega), c3, if_neg (by omega), if_neg (by omega)]
    have G6 : ∀ k j, ¬ (k = 28 ∧ j < 18) → ¬ (k = 0 ∧ (j = 58 ∨ j = 59 ∨ j = 73 ∨ j = 62)) → ¬ (k = 45 ∧ j < 3) → y6.1 k j = ye.1 k j := fun k j z1 z2 z3 => by rw [l3, if_neg z1, if_neg z2, if_neg z3]
    have ye0 : ∀ j, ye.1 0 j = ya.1 0 j := fun j => G 0 j (by omega) (by omega) (by omega) (by omega)
    have e48 : ye.1 0 48 = nI (qF y2) := by rw [ye0, a48]
    have e49 : ye.1 0 49 = nI (qT y2) := by rw [ye0, a49]
    have e47 : ye.1 0 47 = y2.1 0 47 := by rw [ye0, ka 0 47 (by omega)]
    rw [eR, eY, c1, d1, i1, j1, l1, e48]
    unfold fX10_treaty_46 fX6_cut fX4_exchange
    rw [if_neg (show ¬ (0 : Int32) < 0 by decide), e11, if_pos (show 0 ≤ nI (vN (y.1 0 1)) from (nI_le' (a := 0) (by decide) (by omega)).mpr (by omega)), bd, if_neg one0]
    dsimp only
    rw [gc_p k8o, gc_p k8t, e2t, a1, bd, bd]
    dsimp only
    rw [eo, e3t, hX5, b1, bd, gc_p k6, x6r, if_pos ⟨rfl, rfl⟩]
    have e612 : x6.1 t 12 = nI (qF y2) := by rw [X t 12 (by omega) (by omega) (by omega) (by omega) (by omega) (by omega) (by omega) (by omega)]; exact m1.2.1.trans m1.1.1
    rw [e612]
    refine ⟨_, _, _, rfl, rfl, ?_⟩
    refine Inv_new (t := t) (L := vN (y.1 0 1)) (c := c2) (n := n) (u := u) (q := q) h g3 hy0 h01 et rfl rfl rfl hμ.1 hμ2 n1 u1 nu f3 f4 hst hd hd1 hq hq41 (by rw [x6r, if_pos ⟨rfl, rfl⟩]) (by rw [x6r, if_neg (by omega), if_pos ⟨rfl, rfl⟩]) (fun k z1 z2 => funext fun j => by rw [x6r, if_neg (by omega), if_neg (by omega)]) X (fun j hj => by rw [b3, if_pos ⟨rfl, hj⟩]) (by rw [b3, if_neg (by omega), if_pos ⟨rfl, rfl⟩]) (by rw [b3, if_neg (by omega), if_neg (by omega), if_pos ⟨rfl, rfl⟩]) (fun j hj => by rw [b3, if_neg (by omega), if_neg (by omega), if_neg (by omega), if_pos ⟨rfl, hj⟩]) ?_ (fun k hk => ?_) (fun k j hk hj => ?_) (fun j hj => ?_) ?_ ?_ ?_ ?_ ?_ ?_ (fun j hj => ⟨?_, ?_⟩) (fun j hj => ⟨?_, ?_, ?_⟩) (fun j hj => ?_) (fun k j k1 k2 hj => ?_) ⟨?_, ?_, ?_, fun j z1 z2 => ?_⟩ ⟨?_, ?_, ?_, ?_⟩ (fun j hj => ?_) ⟨?_, ?_, ?_, ?_⟩
    · rw [b3, if_neg (by omega), if_neg (by omega), if_neg (by omega), if_neg (by omega), if_neg (by omega), if_neg (by omega), x5i, a3, if_neg (by omega), wi_s]
    · have br : ∀ j, 2 ≤ j → j ≤ 9 → x6.1 k j = bgR x5 t j := fun j z1 z2 => by rw [b3, if_neg (by omega), if_neg (by omega), if_neg (by omega), if_neg (by omega), if_pos ⟨hk, z1, z2⟩]
      refine ⟨?_, ?_, ?_, fun j z1 z2 => ?_⟩
      · rw [br 2 (by omega) (by omega)]; unfold bgR; rw [if_pos rfl, fF, le_0 (by omega)]
      · rw [br 3 (by omega) (by omega)]; unfold bgR; rw [if_neg (by decide), if_pos rfl, fT, le_0 (by omega)]
      · rw [br 9 (by omega) (by omega)]; unfold bgR; rw [if_neg (by decide), if_neg (by decide), if_pos rfl, f17]
      · rw [br j (by omega) (by omega)]; unfold bgR; rw [if_neg (by omega), if_neg (by omega), if_neg (by omega)]
    · rw [b3, if_neg (by omega), if_neg (by omega), if_neg (by omega), if_neg (by omega), if_neg (by omega), if_pos ⟨hk, hj⟩]
    · rw [b3, if_neg (by omega), if_neg (by omega), if_neg (by omega), if_neg (by omega), if_neg (by omega), if_neg (by omega), x5i, a3, if_pos ⟨rfl, hj⟩]
    · rw [G6 0 48 (by omega) (by omega) (by omega), e48]
    · rw [G6 0 49 (by omega) (by omega) (by omega), e49]
    · rw [G6 0 50 (by omega) (by omega) (by omega), ye0, a50]
    · rw [G6 0 51 (by omega) (by omega) (by omega), ye0, a51]
    · rw [G6 0 21 (by omega) (by omega) (by omega), ye0, a21, f2]
    · rw [G6 0 18 (by omega) (by omega) (by omega), ye0, a18]
    · rw [G6 5 j (by omega) (by omega) (by omega), j3, if_neg (by omega), i3, if_neg (by omega), d3, if_neg (by omega), if_neg (by omega), if_neg (by omega), c3, if_pos ⟨rfl, hj⟩, ka 3 j (by omega)]
    · rw [G6 6 j (by omega) (by omega) (by omega), j3, if_neg (by omega), i3, if_neg (by omega), d3, if_neg (by omega), if_neg (by omega), if_neg (by omega), c3, if_neg (by omega), if_pos ⟨rfl, hj⟩, ka 4 j (by omega)]
    · rw [G6 12 j (by omega) (by omega) (by omega), j3, if_neg (by omega), i3, if_neg (by omega), d3, if_pos ⟨rfl, hj⟩, c3, if_neg (by omega), if_neg (by omega), ka 10 j (by omega)]
    · rw [G6 13 j (by omega) (by omega) (by omega), j3, if_neg (by omega), i3, if_neg (by omega), d3, if_neg (by omega), if_pos ⟨rfl, hj⟩, c3, if_neg (by omega), if_neg (by omega), ka 11 j (by omega)]
    · rw [G6 27 j (by omega) (by omega) (by omega), j3, if_neg (by omega), i3, if_neg (by omega), d3, if_neg (by omega), if_neg (by omega), if_pos ⟨rfl, hj⟩, c3, if_neg (by omega), if_neg (by omega), ka 26 j (by omega)]
    · have y14 : yc.1 14 j = y2.1 14 j := by rw [d3, if_neg (by omega), if_neg (by omega), if_neg (by omega), c3, if_neg (by omega), if_neg (by omega), ka 14 j (by omega)]
      rw [G6 15 j (by omega) (by omega) (by omega), j3, if_neg (by omega), i3, if_pos ⟨rfl, hj⟩, y14]
    · rw [G6 k j (by omega) (by omega) (by omega), j3, if_pos ⟨⟨k1, k2⟩, hj⟩, i3, if_neg (by omega), d3, if_neg (by omega), if_neg (by omega), if_neg (by omega), c3, if_neg (by omega), if_neg (by omega), ka _ j (by omega)]
    · rw [l3, if_pos ⟨rfl, by decide⟩]; unfold bgY; rw [if_pos rfl, e48, eq_0 (by omega)]
    · rw [l3, if_pos ⟨rfl, by decide⟩]; unfold bgY; rw [if_neg (by decide), if_pos rfl, e49, eq_0 (by omega)]
    · rw [l3, if_pos ⟨rfl, by decide⟩]; unfold bgY; rw [if_neg (by decide), if_neg (by decide), if_pos rfl, e47]
    · rw [l3, if_pos ⟨rfl, by omega⟩]; unfold bgY; rw [if_neg (by omega), if_neg (by omega), if_neg (by omega)]
    · rw [l3, if_neg (by omega), if_pos (by omega)]
    · rw [l3, if_neg (by omega), if_pos (by omega)]
    · rw [l3, if_neg (by omega), if_pos (by omega)]
    · rw [l3, if_neg (by omega), if_pos (by omega)]
    · rw [l3, if_neg (by omega), if_neg (by omega), if_pos ⟨rfl, hj⟩]
    · rw [G6 0 1 (by omega) (by omega) (by omega), ye0, ka 0 1 (by omega)]
    · rw [G6 0 2 (by omega) (by omega) (by omega), ye0, ka 0 2 (by omega)]
    · rw [G6 0 3 (by omega) (by omega) (by omega), ye0, ka 0 3 (by omega)]
    · rw [G6 0 74 (by omega) (by omega) (by omega), ye0, ka 0 74 (by omega)]
