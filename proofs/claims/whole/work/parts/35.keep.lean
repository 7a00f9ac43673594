theorem stR_cp {st st' : gS} {t r : Nat} {g : Nat → Int32} (e : ∀ k j, st'.1 k j = if k = t ∧ 2 ≤ j ∧ j ≤ 9 then st.1 r j else if k = t + 1 ∧ j < 5 then st.1 (r + 1) j else if k = t + 2 ∧ j < 5 then st.1 (r + 2) j else st.1 k j) (h : stR st r g) : stR st' t g := by
  obtain ⟨a1, a2, a3, a4, a5, a6, a7, a8, a9, a10⟩ := h
  refine ⟨?_, ?_, ?_, ?_, ?_, ?_, ?_, ?_, fun i hi => ?_, fun i hi => ?_⟩
  · rw [e, if_pos (by omega)]; exact a1
  · rw [e, if_pos (by omega)]; exact a2
  · rw [e, if_pos (by omega)]; exact a3
  · rw [e, if_pos (by omega)]; exact a4
  · rw [e, if_pos (by omega)]; exact a5
  · rw [e, if_pos (by omega)]; exact a6
  · rw [e, if_pos (by omega)]; exact a7
  · rw [e, if_pos (by omega)]; exact a8
  · rw [e, if_neg (by omega), if_pos (by omega)]; exact a9 i hi
  · rw [e, if_neg (by omega), if_neg (by omega), if_pos (by omega)]; exact a10 i hi
theorem kept5 {x : gS} (h : Irefs x) {i : Nat} (hi : i < 41) : gK 0 (x.2.2 24 i) = 5 := by
  obtain ⟨j, hj, e⟩ := h.2.2.1 i hi
  rw [e]
  exact gk_kept j hj
/-- the class keeps what is now; the reference kept what was ahead of it -/
theorem keep_act {x y x1 : gS} (h : Inv x y) (hr : x1.2.2 = x.2.2) (hx1 : ∀ k j, ¬ (scrX k j ∨ (20 ≤ k ∧ k ≤ 22)) → x1.1 k j = x.1 k j) : ∃ x2 y1, fX1_keep 20 x1 = some x2 ∧ fX11_act y = some y1 ∧ (∀ k j, 20 ≤ k ∧ k ≤ 22 → x2.1 k j = x1.1 k j) ∧ (∀ k j, ¬ ((k = 0 ∧ (j = 58 ∨ j = 59)) ∨ k = 30) → y1.1 k j = y.1 k j) ∧ ∀ y2 : gS, (∀ k j, ¬ (scrY k j ∨ k = 28) → y2.1 k j = y1.1 k j) → rowOK y (y2.1 28) → stR x1 20 (y2.1 28) → Inv x2 y2 := by
  obtain ⟨b1, b2, b3, b4, b5, b6, b7, b8⟩ := h.hist
  obtain ⟨y1, e1, ey1, e59, hc⟩ := act_spec b1
  have ha := b1.2
  have hR := h.refs
  obtain ⟨a, ea⟩ : ∃ a, a = vN (y.1 0 58) := ⟨_, rfl⟩
  rw [← ea] at hc b3 b6 b7 b8 ha
  have h58 : y.1 0 58 = nI a := by rw [ea]; exact b1.1
  have hat : x1.1 23 1 = nI a := by rw [hx1 23 1 (by unfold scrX; omega), b4, h58]
  unfold scrX at hx1
  rcases hc with ⟨c1, c2, c3, c4⟩ | ⟨c1, c2, c3, c4⟩
  · -- room for one more
    obtain ⟨j, hj, ej⟩ := hR.2.2.1 (a + 1) (by omega)
    obtain ⟨x2, f1, f2, f3⟩ := copy_spec (t := 25 + 3 * j) (r := 20) (st := wi (wi x1 23 1 (nI (a + 1))) 23 2 (nI (a + 1))) (by omega)
    have f0 : ∀ k jj, x2.1 k jj = if k = 25 + 3 * j ∧ 2 ≤ jj ∧ jj ≤ 9 then x1.1 20 jj else if k = 25 + 3 * j + 1 ∧ jj < 5 then x1.1 21 jj else if k = 25 + 3 * j + 2 ∧ jj < 5 then x1.1 22 jj else if k = 23 ∧ (jj = 1 ∨ jj = 2) then nI (a + 1) else x1.1 k jj := by
      intro k jj
      rw [f3]
      simp only [wi_1]
      repeat' split
      all_goals first | rfl | (exfalso; omega)
    have r2 : x2.2.2 = x.2.2 := by rw [f2]; exact hr
    refine ⟨x2, y1, ?_, e1, fun k jj hk => ?_, ey1, fun y2 hy2 ok st => ?_⟩
    · unfold fX1_keep
      rw [hat, if_neg (show ¬ (40 : Int32) ≤ nI a from nI_ge (b := 40) (by omega) (by decide)), nI_1]
      unfold fX1_keep_26
      have e23 : (wi x1 23 1 (nI (a + 1))).1 23 1 = nI (a + 1) := by rw [wi_1, if_pos ⟨rfl, rfl⟩]
      have e23' : (wi (wi x1 23 1 (nI (a + 1))) 23 2 (nI (a + 1))).1 23 1 = nI (a + 1) := by rw [wi_1, if_neg (by omega)]; exact e23
      have ek : (wi (wi x1 23 1 (nI (a + 1))) 23 2 (nI (a + 1))).2.2 24 (a + 1) = 25 + 3 * j := by
        show x1.2.2 24 (a + 1) = _
        rw [hr]
        exact ej
      rw [e23, e23', gc_p (gI_nI (by omega) (by decide)), nI_clamp (by omega), ek, gc_p (gk_kept j hj), f1]
      rfl
    · rw [f0, if_neg (by omega), if_neg (by omega), if_neg (by omega), if_neg (by omega)]
    · unfold scrY at hy2
      have s58 : y2.1 0 58 = nI (a + 1) := by rw [hy2 0 58 (by omega)]; exact c2
      have s59 : y2.1 0 59 = 0 := by rw [hy2 0 59 (by omega)]; exact e59
      have n58 : vN (y2.1 0 58) = a + 1 := by rw [s58]; exact vN_nI (by omega)
      have n59 : vN (y2.1 0 59) = 0 := by rw [s59]; rfl
      have y48 : y2.1 0 48 = y.1 0 48 := by rw [hy2 0 48 (by omega)]; exact ey1 0 48 (by omega)
      have y49 : y2.1 0 49 = y.1 0 49 := by rw [hy2 0 49 (by omega)]; exact ey1 0 49 (by omega)
      have rr : ∀ i, rw y2 30 i = rw y1 30 i := fun i => funext fun q => hy2 30 _ (by omega)
      have other : ∀ i, i < 41 → i ≠ a + 1 → ∀ g, stR x (x.2.2 24 i) g → stR x2 (x.2.2 24 i) g := by
        intro i hi hne g hs
        obtain ⟨q, hq, eq⟩ := hR.2.2.1 i hi
        have hqj : q ≠ j := fun e => hne (hR.2.2.2 i (a + 1) hi (by omega) (by rw [eq, ej, e]))
        rw [eq] at hs ⊢
        refine fr_st (CX := fun k jj => ¬ (25 + 3 * q ≤ k ∧ k ≤ 25 + 3 * q + 2)) (fun k jj hk => ?_) (fun c jj hc z => z hc) hs
        have hk : 25 + 3 * q ≤ k ∧ k ≤ 25 + 3 * q + 2 := Classical.byContradiction hk
        rw [f0, if_neg (by omega), if_neg (by omega), if_neg (by omega), if_neg (by omega), hx1 k jj (by omega)]
      refine Inv_hist h (fun k _ => by rw [r2]) (fun k jj hk => ?_) (fun k jj hk => ?_) (fun i hi => by rw [r2]; exact hR.2.2.1 i hi) (fun i q hi hq => by rw [r2]; exact hR.2.2.2 i q hi hq) ⟨rowOK_y y48 y49 ok, ?_⟩ ⟨?_, ?_, ?_, ?_, ?_, fun i hi => ?_, ?_, fun i h1 h2 => ?_⟩
      · unfold scrX at hk
        rw [f0, if_neg (by omega), if_neg (by omega), if_neg (by omega), if_neg (by omega), hx1 k jj (by omega)]
      · unfold scrY at hk
        rw [hy2 k jj (by omega), ey1 k jj (by omega)]
      · refine fr_st (CX := fun k jj => ¬ (20 ≤ k ∧ k ≤ 22)) (fun k jj hk => ?_) (fun c jj hc z => z hc) st
        have hk : 20 ≤ k ∧ k ≤ 22 := Classical.byContradiction hk
        rw [f0, if_neg (by omega), if_neg (by omega), if_neg (by omega), if_neg (by omega)]
      · rw [s58]; exact isN.of (by omega) (by decide)
      · rw [s59]; exact isN.of (j := 0) (by omega) (by decide)
      · omega
      · rw [f0, if_neg (by omega), if_neg (by omega), if_neg (by omega), if_pos (by omega), s58]
      · rw [f0, if_neg (by omega), if_neg (by omega), if_neg (by omega), if_pos (by omega), s58, s59, Int32.add_zero]
      · rw [n58] at hi
        rw [rr, r2]
        by_cases hia : i < a
        · exact ⟨rowOK_y y48 y49 (rowOK_E (c3 i hia).sy (b6 i hia).1), other i (by omega) (by omega) _ (stR_E (c3 i hia).sy (b6 i hia).2)⟩
        · have hia : i = a := by omega
          subst hia
          exact ⟨rowOK_y y48 y49 (rowOK_E c4.sy h.now.1), other i (by omega) (by omega) _ (stR_E c4.sy b7)⟩
      · rw [n58, r2, ej]
        refine stR_cp f3 (fr_st (CX := fun k jj => ¬ (20 ≤ k ∧ k ≤ 22)) (fun k jj hk => ?_) (fun c jj hc z => z hc) st)
        have hk : 20 ≤ k ∧ k ≤ 22 := Classical.byContradiction hk
        rw [wi_1, wi_1, if_neg (by omega), if_neg (by omega)]
      · rw [n58] at h1
        rw [n58, n59] at h2
        exact absurd h2 (by omega)
  · -- the oldest goes
    subst c1
    obtain ⟨j, hj, ej⟩ := hR.2.2.1 0 (by omega)
    obtain ⟨x3, g1, g2, g3⟩ := drop9 (n1 := 25 + 3 * j) (gk_kept j hj) 40 0 FU x1 (by decide) (FU_gt (by decide)) (fun q hq => by rw [hr]; exact kept5 hR hq)
    obtain ⟨x2, f1, f2, f3⟩ := copy_spec (t := 25 + 3 * j) (r := 20) (st := wi x3 23 2 (nI 40)) (by omega)
    have f0 : ∀ k jj, x2.1 k jj = if k = 25 + 3 * j ∧ 2 ≤ jj ∧ jj ≤ 9 then x1.1 20 jj else if k = 25 + 3 * j + 1 ∧ jj < 5 then x1.1 21 jj else if k = 25 + 3 * j + 2 ∧ jj < 5 then x1.1 22 jj else if k = 23 ∧ jj = 2 then nI 40 else x1.1 k jj := by
      intro k jj
      rw [f3]
      simp only [wi_1, g2]
      repeat' split
      all_goals first | rfl | (exfalso; omega)
    have r2 : ∀ k q, x2.2.2 k q = if k = 24 ∧ q = 40 then 25 + 3 * j else if k = 24 ∧ 0 ≤ q ∧ q < 40 then x.2.2 24 (q + 1) else x.2.2 k q := by
      intro k q
      rw [f2]
      show x3.2.2 k q = _
      rw [g3, hr]
    have r40 : x2.2.2 24 40 = 25 + 3 * j := by rw [r2, if_pos (by omega)]
    have rlt : ∀ q, q < 40 → x2.2.2 24 q = x.2.2 24 (q + 1) := fun q hq => by rw [r2, if_neg (by omega), if_pos (by omega)]
    rw [nI0] at g1
    have h23 : x3.1 23 1 = nI 40 := by rw [g2]; exact hat
    refine ⟨x2, y1, ?_, e1, fun k jj hk => ?_, ey1, fun y2 hy2 ok st => ?_⟩
    · unfold fX1_keep
      rw [hat, if_pos (by decide)]
      unfold fX1_dropOldest
      rw [gc_p (by decide)]
      have e0 : x1.2.2 24 (0 : Int32).toNatClampNeg = 25 + 3 * j := by rw [hr]; exact ej
      rw [e0, g1, bd]
      unfold fX1_keep_26
      have e23' : (wi x3 23 2 (nI 40)).1 23 1 = nI 40 := by rw [wi_1, if_neg (by omega)]; exact h23
      have ek : (wi x3 23 2 (nI 40)).2.2 24 40 = 25 + 3 * j := by
        show x3.2.2 24 40 = _
        rw [g3, if_pos (by omega)]
      rw [h23, e23', gc_p (gI_nI (by omega) (by decide)), nI_clamp (by omega), ek, gc_p (gk_kept j hj), f1]
      rfl
    · rw [f0, if_neg (by omega), if_neg (by omega), if_neg (by omega), if_neg (by omega)]
    · unfold scrY at hy2
      have s58 : y2.1 0 58 = nI 40 := by rw [hy2 0 58 (by omega)]; exact c2
      have s59 : y2.1 0 59 = 0 := by rw [hy2 0 59 (by omega)]; exact e59
      have n58 : vN (y2.1 0 58) = 40 := by rw [s58]; rfl
      have n59 : vN (y2.1 0 59) = 0 := by rw [s59]; rfl
      have y48 : y2.1 0 48 = y.1 0 48 := by rw [hy2 0 48 (by omega)]; exact ey1 0 48 (by omega)
      have y49 : y2.1 0 49 = y.1 0 49 := by rw [hy2 0 49 (by omega)]; exact ey1 0 49 (by omega)
      have rr : ∀ i, rw y2 30 i = rw y1 30 i := fun i => funext fun q => hy2 30 _ (by omega)
      have other : ∀ i, i < 41 → i ≠ 0 → ∀ g, stR x (x.2.2 24 i) g → stR x2 (x.2.2 24 i) g := by
        intro i hi hne g hs
        obtain ⟨q, hq, eq⟩ := hR.2.2.1 i hi
        have hqj : q ≠ j := fun e => hne (hR.2.2.2 i 0 hi (by omega) (by rw [eq, ej, e]))
        rw [eq] at hs ⊢
        refine fr_st (CX := fun k jj => ¬ (25 + 3 * q ≤ k ∧ k ≤ 25 + 3 * q + 2)) (fun k jj hk => ?_) (fun c jj hc z => z hc) hs
        have hk : 25 + 3 * q ≤ k ∧ k ≤ 25 + 3 * q + 2 := Classical.byContradiction hk
        rw [f0, if_neg (by omega), if_neg (by omega), if_neg (by omega), if_neg (by omega), hx1 k jj (by omega)]
      refine Inv_hist h (fun k hk => by funext q; rw [r2, if_neg (by omega), if_neg (by omega)]) (fun k jj hk => ?_) (fun k jj hk => ?_) (fun i hi => ?_) (fun i q hi hq he => ?_) ⟨rowOK_y y48 y49 ok, ?_⟩ ⟨?_, ?_, ?_, ?_, ?_, fun i hi => ?_, ?_, fun i h1 h2 => ?_⟩
      · unfold scrX at hk
        rw [f0, if_neg (by omega), if_neg (by omega), if_neg (by omega), if_neg (by omega), hx1 k jj (by omega)]
      · unfold scrY at hk
        rw [hy2 k jj (by omega), ey1 k jj (by omega)]
      · by_cases hi40 : i < 40
        · rw [rlt i hi40]; exact hR.2.2.1 (i + 1) (by omega)
        · have e : i = 40 := by omega
          subst e
          exact ⟨j, hj, r40⟩
      · by_cases hi40 : i < 40 <;> by_cases hq40 : q < 40
        · rw [rlt i hi40, rlt q hq40] at he
          have := hR.2.2.2 (i + 1) (q + 1) (by omega) (by omega) he
          omega
        · have e : q = 40 := by omega
          subst e
          rw [rlt i hi40, r40, ← ej] at he
          have := hR.2.2.2 (i + 1) 0 (by omega) (by omega) he
          omega
        · have e : i = 40 := by omega
          subst e
          rw [rlt q hq40, r40, ← ej] at he
          have := hR.2.2.2 0 (q + 1) (by omega) (by omega) he
          omega
        · omega
      · refine fr_st (CX := fun k jj => ¬ (20 ≤ k ∧ k ≤ 22)) (fun k jj hk => ?_) (fun c jj hc z => z hc) st
        have hk : 20 ≤ k ∧ k ≤ 22 := Classical.byContradiction hk
        rw [f0, if_neg (by omega), if_neg (by omega), if_neg (by omega), if_neg (by omega)]
      · rw [s58]; exact isN.of (by omega) (by decide)
      · rw [s59]; exact isN.of (j := 0) (by omega) (by decide)
      · omega
      · rw [f0, if_neg (by omega), if_neg (by omega), if_neg (by omega), if_neg (by omega), hat, s58]
      · rw [f0, if_neg (by omega), if_neg (by omega), if_neg (by omega), if_pos (by omega), s58, s59, Int32.add_zero]
      · rw [n58] at hi
        rw [rr, rlt i hi]
        by_cases hia : i < 39
        · exact ⟨rowOK_y y48 y49 (rowOK_E (c3 i hia).sy (b6 (i + 1) (by omega)).1), other (i + 1) (by omega) (by omega) _ (stR_E (c3 i hia).sy (b6 (i + 1) (by omega)).2)⟩
        · have hia : i = 39 := by omega
          subst hia
          exact ⟨rowOK_y y48 y49 (rowOK_E c4.sy h.now.1), other 40 (by omega) (by omega) _ (stR_E c4.sy b7)⟩
      · rw [n58, r40]
        refine stR_cp f3 (fr_st (CX := fun k jj => ¬ (20 ≤ k ∧ k ≤ 22)) (fun k jj hk => ?_) (fun c jj hc z => z hc) st)
        have hk : 20 ≤ k ∧ k ≤ 22 := Classical.byContradiction hk
        rw [wi_1, if_neg (by omega), g2]
      · rw [n58] at h1
        rw [n58, n59] at h2
        exact absurd h2 (by omega)
