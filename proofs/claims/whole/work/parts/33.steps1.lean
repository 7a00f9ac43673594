/-! ===== one group of cells changes, the rest stays ===== -/
theorem Inv_tape {x x' y y' : gS} (h : Inv x y) (hr : x'.2.2 = x.2.2) (hX : ∀ k j, ¬ ((k = 1 ∧ j = 1) ∨ k = 2) → x'.1 k j = x.1 k j) (hy : ∀ k j, ¬ ((k = 0 ∧ j = 1) ∨ k = 1) → y'.1 k j = y.1 k j) (hn : Itape x' y') : Inv x' y' := by
  have e : x'.2.2 0 9 = x.2.2 0 9 := by rw [hr]
  refine ⟨hn, fr_fault hX hy (by intros; omega) (by intros; omega) h.fault, fr_refs hr h.refs, fr_wf hX hy (fun _ _ h => h.elim) (by intros; omega) h.wf, ?_, ?_, fr_now hX hy (by intros; omega) (by intros; omega) h.now, fr_hist hX hy (by intros; omega) (by intros; omega) hr h.refs.2.2.1 h.hist, fr_box hX hy (by intros; omega) (by intros; omega) h.box, fr_past hX hy (by intros; omega) (by intros; omega) h.past, fr_lie hX hy (by intros; omega) (by intros; omega) h.lie⟩
  · rw [e]; exact fr_xt hX hy (by intros; omega) (by intros; omega) h.t4 h.xt
  · rw [e]; exact fr_xs hX hy (by intros; omega) (by intros; omega) h.t4 h.xs
theorem Inv_past {x x' y y' : gS} (h : Inv x y) (hr : x'.2.2 = x.2.2) (hX : ∀ k j, ¬ ((k = 169 ∧ (j = 10 ∨ j = 11)) ∨ (170 ≤ k ∧ k ≤ 175)) → x'.1 k j = x.1 k j) (hy : ∀ k j, ¬ ((k = 0 ∧ (j = 73 ∨ j = 74)) ∨ (37 ≤ k ∧ k ≤ 42)) → y'.1 k j = y.1 k j) (hn : Ipast x' y') : Inv x' y' := by
  have e : x'.2.2 0 9 = x.2.2 0 9 := by rw [hr]
  refine ⟨fr_tape hX hy (by intros; omega) (by intros; omega) h.tape, fr_fault hX hy (by intros; omega) (by intros; omega) h.fault, fr_refs hr h.refs, fr_wf hX hy (fun _ _ h => h.elim) (by intros; omega) h.wf, ?_, ?_, fr_now hX hy (by intros; omega) (by intros; omega) h.now, fr_hist hX hy (by intros; omega) (by intros; omega) hr h.refs.2.2.1 h.hist, fr_box hX hy (by intros; omega) (by intros; omega) h.box, hn, fr_lie hX hy (by intros; omega) (by intros; omega) h.lie⟩
  · rw [e]; exact fr_xt hX hy (by intros; omega) (by intros; omega) h.t4 h.xt
  · rw [e]; exact fr_xs hX hy (by intros; omega) (by intros; omega) h.t4 h.xs
theorem Inv_box {x x' y y' : gS} (h : Inv x y) (hr : x'.2.2 = x.2.2) (hX : ∀ k j, ¬ (k = 149 ∨ (209 ≤ k ∧ k ≤ 217)) → x'.1 k j = x.1 k j) (hy : ∀ k j, ¬ (k = 45 ∨ k = 46) → y'.1 k j = y.1 k j) (hn : Ibox x' y') : Inv x' y' := by
  have e : x'.2.2 0 9 = x.2.2 0 9 := by rw [hr]
  refine ⟨fr_tape hX hy (by intros; omega) (by intros; omega) h.tape, fr_fault hX hy (by intros; omega) (by intros; omega) h.fault, fr_refs hr h.refs, fr_wf hX hy (fun _ _ h => h.elim) (by intros; omega) h.wf, ?_, ?_, fr_now hX hy (by intros; omega) (by intros; omega) h.now, fr_hist hX hy (by intros; omega) (by intros; omega) hr h.refs.2.2.1 h.hist, hn, fr_past hX hy (by intros; omega) (by intros; omega) h.past, fr_lie hX hy (by intros; omega) (by intros; omega) h.lie⟩
  · rw [e]; exact fr_xt hX hy (by intros; omega) (by intros; omega) h.t4 h.xt
  · rw [e]; exact fr_xs hX hy (by intros; omega) (by intros; omega) h.t4 h.xs
/-- lying and scratch -/
theorem Inv_lie {x x' y y' : gS} (h : Inv x y) (hr : x'.2.2 = x.2.2) (hX : ∀ k j, ¬ (scrX k j ∨ (k = 150 ∧ j = 7) ∨ k = 152) → x'.1 k j = x.1 k j) (hy : ∀ k j, ¬ (scrY k j ∨ (k = 0 ∧ j = 62) ∨ k = 32) → y'.1 k j = y.1 k j) (hn : Ilie x' y') : Inv x' y' := by
  have e : x'.2.2 0 9 = x.2.2 0 9 := by rw [hr]
  unfold scrX at hX
  unfold scrY at hy
  refine ⟨fr_tape hX hy (by intros; omega) (by intros; omega) h.tape, fr_fault hX hy (by intros; omega) (by intros; omega) h.fault, fr_refs hr h.refs, fr_wf hX hy (fun _ _ h => h.elim) (by intros; omega) h.wf, ?_, ?_, fr_now hX hy (by intros; omega) (by intros; omega) h.now, fr_hist hX hy (by intros; omega) (by intros; omega) hr h.refs.2.2.1 h.hist, fr_box hX hy (by intros; omega) (by intros; omega) h.box, fr_past hX hy (by intros; omega) (by intros; omega) h.past, hn⟩
  · rw [e]; exact fr_xt hX hy (by intros; omega) (by intros; omega) h.t4 h.xt
  · rw [e]; exact fr_xs hX hy (by intros; omega) (by intros; omega) h.t4 h.xs
/-- now, what is kept of acts, and scratch -/
theorem Inv_hist {x x' y y' : gS} (h : Inv x y) (hr : ∀ k, k ≠ 24 → x'.2.2 k = x.2.2 k) (hX : ∀ k j, ¬ (scrX k j ∨ (20 ≤ k ∧ k ≤ 22) ∨ (k = 23 ∧ (j = 1 ∨ j = 2)) ∨ (25 ≤ k ∧ k ≤ 147)) → x'.1 k j = x.1 k j) (hy : ∀ k j, ¬ (scrY k j ∨ (k = 0 ∧ (j = 58 ∨ j = 59)) ∨ k = 28 ∨ k = 30) → y'.1 k j = y.1 k j)
    (hk1 : ∀ i, i < 41 → ∃ j, j < 41 ∧ x'.2.2 24 i = 25 + 3 * j) (hk2 : ∀ i j, i < 41 → j < 41 → x'.2.2 24 i = x'.2.2 24 j → i = j) (hn : Inow x' y') (hh : Ihist x' y') : Inv x' y' := by
  have e : x'.2.2 0 9 = x.2.2 0 9 := by rw [hr 0 (by decide)]
  unfold scrX at hX
  unfold scrY at hy
  refine ⟨fr_tape hX hy (by intros; omega) (by intros; omega) h.tape, fr_fault hX hy (by intros; omega) (by intros; omega) h.fault, ?_, fr_wf hX hy (fun _ _ h => h.elim) (by intros; omega) h.wf, ?_, ?_, hn, hh, fr_box hX hy (by intros; omega) (by intros; omega) h.box, fr_past hX hy (by intros; omega) (by intros; omega) h.past, fr_lie hX hy (by intros; omega) (by intros; omega) h.lie⟩
  · obtain ⟨a, b, -⟩ := h.refs
    refine ⟨by rw [hr 0 (by decide), hr 3 (by decide)]; exact a, fun i hi => by rw [hr 148 (by decide)]; exact b i hi, hk1, hk2⟩
  · rw [e]; exact fr_xt hX hy (by intros; omega) (by intros; omega) h.t4 h.xt
  · rw [e]; exact fr_xs hX hy (by intros; omega) (by intros; omega) h.t4 h.xs
theorem s_end (a : Int32) : sOK Inv (fX10_end a) (fX11_end a) := by
  intro x y h
  unfold fX10_end fX11_end fX6_cut
  obtain ⟨h1, h2, h3⟩ := h.tape
  rw [h2]
  by_cases ha : a < 0
  · rw [if_pos ha, if_pos ha]
    exact ⟨_, _, _, rfl, rfl, h⟩
  · rw [if_neg ha, if_neg ha]
    by_cases hb : a ≤ y.1 0 1
    · rw [if_pos hb, if_pos hb]
      obtain ⟨j, hj, rfl⟩ : ∃ j, j ≤ vN (y.1 0 1) ∧ a = nI j := nI_of2 (h1.toInt (by decide)) ha hb
      have hl := h1.2
      refine ⟨_, _, _, rfl, rfl, Inv_tape h rfl (fun k j hk => by rw [wi_1, if_neg (by omega)]) (fun k j hk => by rw [wi_1, if_neg (by omega)]) ⟨?_, ?_, fun i hi => ?_⟩⟩
      · rw [wi_1, if_pos ⟨rfl, rfl⟩]
        exact isN.of (by omega) (by decide)
      · rw [wi_1, wi_1, if_pos ⟨rfl, rfl⟩, if_pos ⟨rfl, rfl⟩]
      · rw [wi_1, if_pos ⟨rfl, rfl⟩, vN_nI (by omega)] at hi
        rw [wi_1, wi_1, if_neg (by omega), if_neg (by omega)]
        exact h3 i (by omega)
    · rw [if_neg hb, if_neg hb]
      exact ⟨_, _, _, rfl, rfl, h⟩
/-- a state copied over another -/
theorem copy_spec {t r : Nat} {st : gS} (h : r + 2 < t ∨ t + 2 < r) : ∃ st', fX5_copy t r st = some st' ∧ st'.2 = st.2 ∧ ∀ k j, st'.1 k j = if k = t ∧ 2 ≤ j ∧ j ≤ 9 then st.1 r j else if k = t + 1 ∧ j < 5 then st.1 (r + 1) j else if k = t + 2 ∧ j < 5 then st.1 (r + 2) j else st.1 k j := by
  unfold fX5_copy
  refine ⟨_, rfl, rfl, fun k j => ?_⟩
  simp only [wi_1, wa_1, va_cpy, show ¬ r = t by omega, show ¬ r = t + 1 + 0 by omega, show ¬ r = t + 1 + 1 by omega, show ¬ r + 1 + 1 = t + 1 + 0 by omega, show ¬ r + 1 + 0 = t + 1 + 1 by omega, false_and, if_false]
  by_cases h0 : k = t
  · subst h0
    match j with
    | 0 => simp; intro q; omega
    | 1 => simp; intro q; omega
    | 2 => simp
    | 3 => simp
    | 4 => simp
    | 5 => simp
    | 6 => simp
    | 7 => simp
    | 8 => simp
    | 9 => simp
    | n + 10 => simp; intro q; omega
  · by_cases h1 : k = t + 1
    · subst h1
      by_cases hj : j < 5 <;> simp [hj]
    · by_cases h2 : k = t + 2
      · subst h2
        by_cases hj : j < 5 <;> simp [hj]
      · simp [h0, h1, h2]
