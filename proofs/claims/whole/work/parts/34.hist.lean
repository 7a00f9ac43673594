/-! ===== acts: what the reference keeps of them (rows), what the class does (states) ===== -/
def rwE (g g' : Nat → Int32) : Prop := ∀ j, j < 18 → g j = g' j
theorem rowOK_E {y : gS} {g g' : Nat → Int32} (e : rwE g g') (h : rowOK y g) : rowOK y g' := by
  unfold rowOK at h ⊢
  rw [← e 0 (by decide), ← e 1 (by decide), ← e 3 (by decide), ← e 16 (by decide)]
  exact h
theorem stR_E {x : gS} {k : Nat} {g g' : Nat → Int32} (e : rwE g g') (h : stR x k g) : stR x k g' := by
  unfold stR at h ⊢
  rw [← e 0 (by decide), ← e 1 (by decide), ← e 2 (by decide), ← e 3 (by decide), ← e 14 (by decide), ← e 15 (by decide), ← e 16 (by decide), ← e 17 (by decide)]
  obtain ⟨a1, a2, a3, a4, a5, a6, a7, a8, a9, a10⟩ := h
  exact ⟨a1, a2, a3, a4, a5, a6, a7, a8, fun i hi => by rw [← e (4 + i) (by omega)]; exact a9 i hi, fun i hi => by rw [← e (9 + i) (by omega)]; exact a10 i hi⟩
theorem rwE.rf {g : Nat → Int32} : rwE g g := fun _ _ => rfl
theorem rwE.sy {g g' : Nat → Int32} (h : rwE g g') : rwE g' g := fun j hj => (h j hj).symm
theorem rowOK_y {y y' : gS} {g : Nat → Int32} (h1 : y'.1 0 48 = y.1 0 48) (h2 : y'.1 0 49 = y.1 0 49) (h : rowOK y g) : rowOK y' g := by
  unfold rowOK at h ⊢
  simp only [nF, nT, h1, h2]
  exact h
theorem FU_gt {n : Nat} (h : n < 70000) : n < FU := h
theorem nI0 : nI 0 = 0 := rfl
theorem act51 {a : Nat} (ha : a < 40) : ∀ (d i n : Nat) (st : gS), i + d = 18 → d < n → st.1 0 58 = nI a → ∃ st', hX11_act_51 n (nI i) st = some st' ∧ ∀ k j, st'.1 k j = if k = 0 ∧ j = 58 then nI (a + 1) else if k = 0 ∧ j = 59 then 0 else if k = 30 ∧ 18 * a + i ≤ j ∧ j < 18 * a + 18 then st.1 28 (j - 18 * a) else st.1 k j := by
  intro d
  induction d with
  | zero =>
    intro i n st hi hn h58
    obtain ⟨n, rfl⟩ : ∃ m, n = m + 1 := ⟨n - 1, by omega⟩
    have e : i = 18 := by omega
    subst e
    refine ⟨wi (wi st 0 58 ((st.1 0 58) + 1)) 0 59 0, ?_, fun k j => ?_⟩
    · show fX11_act_51 _ (nI 18) st = _
      unfold fX11_act_51
      rw [if_pos (by decide)]
    · simp only [wi_1, h58, nI_1]
      repeat' split
      all_goals first | rfl | (exfalso; omega)
  | succ d ih =>
    intro i n st hi hn h58
    obtain ⟨n, rfl⟩ : ∃ m, n = m + 1 := ⟨n - 1, by omega⟩
    have ec : (18 : Int32) * nI a + nI i = nI (18 * a + i) := by
      rw [show (18 : Int32) = nI 18 from rfl, pk_mul, nI_add]
    obtain ⟨st', e1, e2⟩ := ih (i + 1) n (wi st 30 (18 * a + i) (st.1 28 i)) (by omega) (by omega) (by rw [wi_1, if_neg (by omega)]; exact h58)
    refine ⟨st', ?_, fun k j => ?_⟩
    · show fX11_act_51 (hX11_act_51 n) (nI i) st = _
      unfold fX11_act_51
      rw [if_neg (show ¬ (18 : Int32) ≤ nI i from nI_ge (b := 18) (by omega) (by decide)), gc_p (gI_nI (by omega) (by decide)), h58, ec, gc_p (gI_nI (by omega) (by decide)), nI_clamp (by omega), nI_clamp (by omega), nI_1]
      exact e1
    · rw [e2 k j]
      simp only [wi_1]
      repeat' split
      all_goals first | rfl | (exfalso; omega) | (rw [show j - 18 * a = i by omega])
theorem act11 : ∀ (d i n : Nat) (st : gS), i + d = 702 → d < n → st.1 0 58 = nI 40 → ∃ st', hX11_act_11 n (nI i) st = some st' ∧ ∀ k j, st'.1 k j = if k = 0 ∧ j = 58 then nI 40 else if k = 0 ∧ j = 59 then 0 else if k = 30 ∧ i ≤ j ∧ j < 702 then st.1 30 (j + 18) else if k = 30 ∧ 702 ≤ j ∧ j < 720 then st.1 28 (j - 702) else st.1 k j := by
  intro d
  induction d with
  | zero =>
    intro i n st hi hn h58
    obtain ⟨n, rfl⟩ : ∃ m, n = m + 1 := ⟨n - 1, by omega⟩
    have e : i = 702 := by omega
    subst e
    obtain ⟨st', e1, e2⟩ := act51 (a := 39) (by decide) 18 0 FU (wi st 0 58 ((st.1 0 58) - 1)) (by decide) (FU_gt (by decide)) (by rw [wi_1, if_pos ⟨rfl, rfl⟩, h58]; rfl)
    refine ⟨st', ?_, fun k j => ?_⟩
    · show fX11_act_11 _ (nI 702) st = _
      unfold fX11_act_11
      rw [if_pos (by decide), ← nI0]
      exact e1
    · rw [e2 k j]
      simp only [wi_1]
      repeat' split
      all_goals first | rfl | (exfalso; omega) | (rw [show j + 18 = 18 + i by omega]) | (rw [show j - 18 * 39 = j - 702 by omega])
  | succ d ih =>
    intro i n st hi hn h58
    obtain ⟨n, rfl⟩ : ∃ m, n = m + 1 := ⟨n - 1, by omega⟩
    have ec : (18 : Int32) + nI i = nI (18 + i) := by
      rw [show (18 : Int32) = nI 18 from rfl, nI_add]
    obtain ⟨st', e1, e2⟩ := ih (i + 1) n (wi st 30 i (st.1 30 (18 + i))) (by omega) (by omega) (by rw [wi_1, if_neg (by omega)]; exact h58)
    refine ⟨st', ?_, fun k j => ?_⟩
    · show fX11_act_11 (hX11_act_11 n) (nI i) st = _
      unfold fX11_act_11
      rw [if_neg (show ¬ (702 : Int32) ≤ nI i from nI_ge (b := 702) (by omega) (by decide)), ec, gc_p (gI_nI (by omega) (by decide)), gc_p (gI_nI (by omega) (by decide)), nI_clamp (by omega), nI_clamp (by omega), nI_1]
      exact e1
    · rw [e2 k j]
      simp only [wi_1]
      repeat' split
      all_goals first | rfl | (exfalso; omega) | (rw [show j + 18 = 18 + i by omega]) | (rw [show j - 18 * 39 = j - 702 by omega])
/-- the reference keeps an act -/
theorem act_spec {y : gS} (h58 : isN (y.1 0 58) 41) : ∃ y', fX11_act y = some y' ∧ (∀ k j, ¬ ((k = 0 ∧ (j = 58 ∨ j = 59)) ∨ k = 30) → y'.1 k j = y.1 k j) ∧ y'.1 0 59 = 0 ∧
    ((vN (y.1 0 58) < 40 ∧ y'.1 0 58 = nI (vN (y.1 0 58) + 1) ∧ (∀ i, i < vN (y.1 0 58) → rwE (rw y' 30 i) (rw y 30 i)) ∧ rwE (rw y' 30 (vN (y.1 0 58))) (y.1 28)) ∨
     (vN (y.1 0 58) = 40 ∧ y'.1 0 58 = nI 40 ∧ (∀ i, i < 39 → rwE (rw y' 30 i) (rw y 30 (i + 1))) ∧ rwE (rw y' 30 39) (y.1 28))) := by
  have hl := h58.2
  unfold fX11_act
  by_cases h40 : y.1 0 58 = 40
  · rw [if_pos h40]
    obtain ⟨st', e1, e2⟩ := act11 702 0 FU y (by decide) (FU_gt (by decide)) h40
    have e40 : vN (y.1 0 58) = 40 := by rw [h40]; rfl
    rw [nI0] at e1
    refine ⟨st', e1, fun k j hk => ?_, ?_, Or.inr ⟨e40, ?_, fun i hi j hj => ?_, fun j hj => ?_⟩⟩
    · rw [e2 k j, if_neg (by omega), if_neg (by omega), if_neg (by omega), if_neg (by omega)]
    · rw [e2]; rfl
    · rw [e2]; rfl
    · unfold rw
      rw [e2, if_neg (by omega), if_neg (by omega), if_pos (by omega), show 18 * i + j + 18 = 18 * (i + 1) + j by omega]
    · unfold rw
      rw [e2, if_neg (by omega), if_neg (by omega), if_neg (by omega), if_pos (by omega), show 18 * 39 + j - 702 = j by omega]
  · rw [if_neg h40]
    have ne : vN (y.1 0 58) ≠ 40 := fun q => h40 (by rw [h58.1, q]; rfl)
    obtain ⟨st', e1, e2⟩ := act51 (a := vN (y.1 0 58)) (by omega) 18 0 FU y (by decide) (FU_gt (by decide)) h58.1
    rw [nI0] at e1
    refine ⟨st', e1, fun k j hk => ?_, ?_, Or.inl ⟨by omega, ?_, fun i hi j hj => ?_, fun j hj => ?_⟩⟩
    · rw [e2 k j, if_neg (by omega), if_neg (by omega), if_neg (by omega)]
    · rw [e2]; rfl
    · rw [e2]; rfl
    · unfold rw
      rw [e2, if_neg (by omega), if_neg (by omega), if_neg (by omega)]
    · unfold rw
      rw [e2, if_neg (by omega), if_neg (by omega), if_pos (by omega), Nat.add_sub_cancel_left]
/-- the class's oldest state goes to the end of the row -/
theorem drop9 {n1 : Nat} (h1 : gK 0 n1 = 5) : ∀ (d i n : Nat) (st : gS), i + d = 40 → d < n → (∀ q, q < 41 → gK 0 (st.2.2 24 q) = 5) → ∃ st', hX1_dropOldest_9 n n1 (nI i) st = some st' ∧ st'.1 = st.1 ∧ ∀ k j, st'.2.2 k j = if k = 24 ∧ j = 40 then n1 else if k = 24 ∧ i ≤ j ∧ j < 40 then st.2.2 24 (j + 1) else st.2.2 k j := by
  intro d
  induction d with
  | zero =>
    intro i n st hi hn hk
    obtain ⟨n, rfl⟩ : ∃ m, n = m + 1 := ⟨n - 1, by omega⟩
    have e : i = 40 := by omega
    subst e
    refine ⟨wr st 24 40 n1, ?_, rfl, fun k j => ?_⟩
    · show fX1_dropOldest_9 _ n1 (nI 40) st = _
      unfold fX1_dropOldest_9
      rw [if_pos (by decide), gc_p h1, gc_p (by decide)]
      rfl
    · simp only [wr_2]
      repeat' split
      all_goals first | rfl | (exfalso; omega)
  | succ d ih =>
    intro i n st hi hn hk
    obtain ⟨n, rfl⟩ : ∃ m, n = m + 1 := ⟨n - 1, by omega⟩
    obtain ⟨st', e1, e0, e2⟩ := ih (i + 1) n (wr st 24 i (st.2.2 24 (i + 1))) (by omega) (by omega) (fun q hq => by
      rw [wr_2]
      split
      · exact hk _ (by omega)
      · exact hk _ hq)
    refine ⟨st', ?_, e0, fun k j => ?_⟩
    · show fX1_dropOldest_9 (hX1_dropOldest_9 n) n1 (nI i) st = _
      unfold fX1_dropOldest_9
      rw [if_neg (show ¬ (40 : Int32) ≤ nI i from nI_ge (b := 40) (by omega) (by decide)), nI_1, gc_p (gI_nI (by omega) (by decide)), nI_clamp (by omega), gc_p (hk _ (by omega)), gc_p (gI_nI (by omega) (by decide)), nI_clamp (by omega)]
      exact e1
    · rw [e2 k j]
      simp only [wr_2]
      repeat' split
      all_goals first | rfl | (exfalso; omega) | (rw [show j = i by omega])
