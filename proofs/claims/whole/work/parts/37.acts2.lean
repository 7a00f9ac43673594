theorem s_redo : sOK Inv fX10_redo fX11_redo := by
  intro x y h
  unfold fX10_redo fX11_redo fX1_stepOn
  obtain ⟨b1, b2, b3, b4, b5, b6, b7, b8⟩ := h.hist
  have hR := h.refs
  have ha := b1.2
  have hu := b2.2
  obtain ⟨a, ea⟩ : ∃ a, a = vN (y.1 0 58) := ⟨_, rfl⟩
  obtain ⟨u, eu⟩ : ∃ a, a = vN (y.1 0 59) := ⟨_, rfl⟩
  have h58 : y.1 0 58 = nI a := by rw [ea]; exact b1.1
  have h59 : y.1 0 59 = nI u := by rw [eu]; exact b2.1
  rw [← ea] at b3 b6 b7 b8 ha
  rw [← eu] at b3 b8 hu
  have h23 : x.1 23 1 = nI a := by rw [b4, h58]
  have h24 : x.1 23 2 = nI (a + u) := by rw [b5, h58, h59, nI_add]
  rw [h23, h24, h58, h59]
  by_cases h0 : u = 0
  · subst h0
    rw [if_pos (nI_le (by omega) (by omega)), if_pos nI0]
    exact ⟨_, _, _, rfl, rfl, h⟩
  · obtain ⟨v, rfl⟩ : ∃ q, u = q + 1 := ⟨u - 1, by omega⟩
    rw [if_neg (nI_ge (by omega) (by omega)), if_neg (nI_ne0 (by omega) (by omega)), if_pos (show nI a < 40 from nI_lt (b := 40) (by omega) (by decide)), nI_1]
    have e23 : (wi x 23 1 (nI (a + 1))).1 23 1 = nI (a + 1) := by rw [wi_1, if_pos (by omega)]
    obtain ⟨j, hj, ej⟩ := hR.2.2.1 (a + 1) (by omega)
    have ek : (wi x 23 1 (nI (a + 1))).2.2 24 (a + 1) = 25 + 3 * j := ej
    rw [e23, gc_p (gI_nI (by omega) (by decide)), nI_clamp (by omega), ek, gc_p (gk_kept j hj)]
    obtain ⟨x2, f1, f2, f3⟩ := copy_spec (t := 20) (r := 25 + 3 * j) (st := wi x 23 1 (nI (a + 1))) (by omega)
    rw [f1, bd, bd]
    dsimp only
    rw [gc_p (by decide), show (18 : Int32) = nI 18 from rfl, pk_mul]
    obtain ⟨y3, k1, k2⟩ := exch (q := a) (by omega) 18 0 FU y (by decide) (FU_gt (by decide))
    unfold fX11_exchange
    rw [nI0] at k1
    rw [k1, bd]
    have t58 : y3.1 0 58 = nI a := by rw [k2, if_neg (by omega), if_neg (by omega)]; exact h58
    have t59 : (wi y3 0 58 (nI (a + 1))).1 0 59 = nI (v + 1) := by rw [wi_1, if_neg (by omega), k2, if_neg (by omega), if_neg (by omega)]; exact h59
    rw [t58, nI_1, t59, nI_pred]
    obtain ⟨y2, ey2⟩ : ∃ z, z = wi (wi y3 0 58 (nI (a + 1))) 0 59 (nI v) := ⟨_, rfl⟩
    rw [← ey2]
    have k0 : ∀ k jj, y2.1 k jj = if k = 30 ∧ 18 * a ≤ jj ∧ jj < 18 * a + 18 then y.1 28 (jj - 18 * a) else if k = 28 ∧ jj < 18 then y.1 30 (18 * a + jj) else if k = 0 ∧ jj = 58 then nI (a + 1) else if k = 0 ∧ jj = 59 then nI v else y.1 k jj := by
      intro k jj
      rw [ey2]
      simp only [wi_1, k2]
      repeat' split
      all_goals first | rfl | (exfalso; omega)
    have f0 : ∀ k jj, x2.1 k jj = if k = 20 ∧ 2 ≤ jj ∧ jj ≤ 9 then x.1 (25 + 3 * j) jj else if k = 21 ∧ jj < 5 then x.1 (25 + 3 * j + 1) jj else if k = 22 ∧ jj < 5 then x.1 (25 + 3 * j + 2) jj else if k = 23 ∧ jj = 1 then nI (a + 1) else x.1 k jj := by
      intro k jj
      rw [f3]
      simp only [wi_1]
      repeat' split
      all_goals first | rfl | (exfalso; omega)
    have r2 : x2.2.2 = x.2.2 := by rw [f2]; rfl
    have y48 : y2.1 0 48 = y.1 0 48 := by rw [k0, if_neg (by omega), if_neg (by omega), if_neg (by omega), if_neg (by omega)]
    have y49 : y2.1 0 49 = y.1 0 49 := by rw [k0, if_neg (by omega), if_neg (by omega), if_neg (by omega), if_neg (by omega)]
    have s58 : y2.1 0 58 = nI (a + 1) := by rw [k0, if_neg (by omega), if_neg (by omega), if_pos (by omega)]
    have s59 : y2.1 0 59 = nI v := by rw [k0, if_neg (by omega), if_neg (by omega), if_neg (by omega), if_pos (by omega)]
    have n58 : vN (y2.1 0 58) = a + 1 := by rw [s58]; exact vN_nI (by omega)
    have n59 : vN (y2.1 0 59) = v := by rw [s59]; exact vN_nI (by omega)
    have ro : ∀ i, i ≠ a → i < 40 → rwE (rw y2 30 i) (rw y 30 i) := fun i hi h40 jj hjj => by
      unfold rw
      rw [k0, if_neg (by omega), if_neg (by omega), if_neg (by omega), if_neg (by omega)]
    have rq : rwE (rw y2 30 a) (y.1 28) := fun jj hjj => by
      unfold rw
      rw [k0, if_pos (by omega), Nat.add_sub_cancel_left]
    have r28 : rwE (y2.1 28) (rw y 30 a) := fun jj hjj => by
      unfold rw
      rw [k0, if_neg (by omega), if_pos (by omega)]
    have kst : ∀ i, i < 41 → ∀ g, stR x (x.2.2 24 i) g → stR x2 (x.2.2 24 i) g := by
      intro i hi g hs
      obtain ⟨q2, hq2, eq2⟩ := hR.2.2.1 i hi
      rw [eq2] at hs ⊢
      refine fr_st (CX := fun k jj => ¬ (25 + 3 * q2 ≤ k ∧ k ≤ 25 + 3 * q2 + 2)) (fun k jj hk => ?_) (fun c jj hc z => z hc) hs
      have hk : 25 + 3 * q2 ≤ k ∧ k ≤ 25 + 3 * q2 + 2 := Classical.byContradiction hk
      rw [f0, if_neg (by omega), if_neg (by omega), if_neg (by omega), if_neg (by omega)]
    have bq := b8 a (by omega) (by omega)
    refine ⟨_, _, _, rfl, rfl, Inv_hist h (fun k _ => by rw [r2]) (fun k jj hk => ?_) (fun k jj hk => ?_) (fun i hi => by rw [r2]; exact hR.2.2.1 i hi) (fun i q hi hq => by rw [r2]; exact hR.2.2.2 i q hi hq) ⟨rowOK_y y48 y49 (rowOK_E r28.sy bq.1), ?_⟩ ⟨?_, ?_, ?_, ?_, ?_, fun i hi => ?_, ?_, fun i h1 h2 => ?_⟩⟩
    · unfold scrX at hk
      rw [f0, if_neg (by omega), if_neg (by omega), if_neg (by omega), if_neg (by omega)]
    · unfold scrY at hk
      rw [k0, if_neg (by omega), if_neg (by omega), if_neg (by omega), if_neg (by omega)]
    · refine stR_cp f3 ?_
      rw [ej] at bq
      refine stR_E r28.sy (fr_st (CX := fun k jj => ¬ (25 + 3 * j ≤ k ∧ k ≤ 25 + 3 * j + 2)) (fun k jj hk => ?_) (fun c jj hc z => z hc) bq.2)
      have hk : 25 + 3 * j ≤ k ∧ k ≤ 25 + 3 * j + 2 := Classical.byContradiction hk
      rw [wi_1, if_neg (by omega)]
    · rw [s58]; exact isN.of (by omega) (by decide)
    · rw [s59]; exact isN.of (by omega) (by decide)
    · omega
    · rw [f0, if_neg (by omega), if_neg (by omega), if_neg (by omega), if_pos (by omega), s58]
    · rw [f0, if_neg (by omega), if_neg (by omega), if_neg (by omega), if_neg (by omega), h24, s58, s59, nI_add, show a + 1 + v = a + (v + 1) by omega]
    · rw [n58] at hi
      rw [r2]
      by_cases hia : i = a
      · subst hia
        exact ⟨rowOK_y y48 y49 (rowOK_E rq.sy h.now.1), stR_E rq.sy (kst i (by omega) _ b7)⟩
      · exact ⟨rowOK_y y48 y49 (rowOK_E (ro i (by omega) (by omega)).sy (b6 i (by omega)).1), kst i (by omega) _ (stR_E (ro i (by omega) (by omega)).sy (b6 i (by omega)).2)⟩
    · rw [n58, r2]
      exact stR_E r28.sy (kst (a + 1) (by omega) _ bq.2)
    · rw [n58] at h1
      rw [n58, n59] at h2
      rw [r2]
      obtain ⟨c1, c2⟩ := b8 i (by omega) (by omega)
      exact ⟨rowOK_y y48 y49 (rowOK_E (ro i (by omega) (by omega)).sy c1), stR_E (ro i (by omega) (by omega)).sy (kst (i + 1) (by omega) _ c2)⟩
theorem img18 {q : Nat} (hq : q < 3) : ∀ (d i n : Nat) (st : gS), i + d = 18 → d < n → ∃ st', hX11_image_18 (nI q) n (nI i) st = some (st.1 28 16, st') ∧ ∀ k j, st'.1 k j = if k = 46 ∧ 18 * q + i ≤ j ∧ j < 18 * q + 18 then st.1 28 (j - 18 * q) else st.1 k j := by
  intro d
  induction d with
  | zero =>
    intro i n st hi hn
    obtain ⟨n, rfl⟩ : ∃ m, n = m + 1 := ⟨n - 1, by omega⟩
    have e : i = 18 := by omega
    subst e
    refine ⟨st, ?_, fun k j => ?_⟩
    · show fX11_image_18 _ _ (nI 18) st = _
      unfold fX11_image_18
      rw [if_pos (by decide), gc_p (by decide)]
      rfl
    · rw [if_neg (by omega)]
  | succ d ih =>
    intro i n st hi hn
    obtain ⟨n, rfl⟩ : ∃ m, n = m + 1 := ⟨n - 1, by omega⟩
    obtain ⟨st', e1, e2⟩ := ih (i + 1) n (wi st 46 (18 * q + i) (st.1 28 i)) (by omega) (by omega)
    have ec : (18 : Int32) * nI q + nI i = nI (18 * q + i) := by
      rw [show (18 : Int32) = nI 18 from rfl, pk_mul, nI_add]
    have e28 : (wi st 46 (18 * q + i) (st.1 28 i)).1 28 16 = st.1 28 16 := by rw [wi_1, if_neg (by omega)]
    rw [e28] at e1
    refine ⟨st', ?_, fun k j => ?_⟩
    · show fX11_image_18 _ (hX11_image_18 (nI q) n) (nI i) st = _
      unfold fX11_image_18
      rw [if_neg (show ¬ (18 : Int32) ≤ nI i from nI_ge (b := 18) (by omega) (by decide)), ec, gc_p (gI_nI (by omega) (by decide)), gc_p (gI_nI (by omega) (by decide)), nI_clamp (by omega), nI_clamp (by omega), nI_1]
      exact e1
    · rw [e2 k j]
      simp only [wi_1]
      repeat' split
      all_goals first | rfl | (exfalso; omega) | (rw [show j - 18 * q = i by omega])
theorem bak20 {q : Nat} (hq : q < 3) : ∀ (d i n : Nat) (st : gS), i + d = 18 → d < n → ∃ st', hX11_back_20 (nI q) n (nI i) st = some (st'.1 28 16, st') ∧ ∀ k j, st'.1 k j = if k = 28 ∧ i ≤ j ∧ j < 18 then st.1 46 (18 * q + j) else if k = 0 ∧ (j = 58 ∨ j = 59) then 0 else st.1 k j := by
  intro d
  induction d with
  | zero =>
    intro i n st hi hn
    obtain ⟨n, rfl⟩ : ∃ m, n = m + 1 := ⟨n - 1, by omega⟩
    have e : i = 18 := by omega
    subst e
    refine ⟨wi (wi st 0 58 0) 0 59 0, ?_, fun k j => ?_⟩
    · show fX11_back_20 _ _ (nI 18) st = _
      unfold fX11_back_20
      rw [if_pos (by decide), gc_p (by decide)]
      rfl
    · simp only [wi_1]
      repeat' split
      all_goals first | rfl | (exfalso; omega)
  | succ d ih =>
    intro i n st hi hn
    obtain ⟨n, rfl⟩ : ∃ m, n = m + 1 := ⟨n - 1, by omega⟩
    obtain ⟨st', e1, e2⟩ := ih (i + 1) n (wi st 28 i (st.1 46 (18 * q + i))) (by omega) (by omega)
    have ec : (18 : Int32) * nI q + nI i = nI (18 * q + i) := by
      rw [show (18 : Int32) = nI 18 from rfl, pk_mul, nI_add]
    refine ⟨st', ?_, fun k j => ?_⟩
    · show fX11_back_20 _ (hX11_back_20 (nI q) n) (nI i) st = _
      unfold fX11_back_20
      rw [if_neg (show ¬ (18 : Int32) ≤ nI i from nI_ge (b := 18) (by omega) (by decide)), ec, gc_p (gI_nI (by omega) (by decide)), gc_p (gI_nI (by omega) (by decide)), nI_clamp (by omega), nI_clamp (by omega), nI_1]
      exact e1
    · rw [e2 k j]
      simp only [wi_1]
      repeat' split
      all_goals first | rfl | (exfalso; omega) | (rw [show j = i by omega])
theorem box3 (a : Int32) : a < 0 ∨ (3 : Int32) ≤ a ∨ ∃ q, q < 3 ∧ a = nI q := pk_ix a (n := 3) (by decide)
theorem nar1 : vp_nar .boolean 1 = 1 := rfl
theorem nar0 : vp_nar .boolean 0 = 0 := rfl
theorem narB {v : Int32} (h : gB v) : vp_nar .boolean v = v := by
  rcases h with rfl | rfl <;> rfl
theorem s_image (a : Int32) : sOK Inv (fX10_image a) (fX11_image a) := by
  intro x y h
  unfold fX10_image fX11_image fX11_isBox
  rcases box3 a with q | q | ⟨q, hq, rfl⟩
  · rw [if_pos q, if_pos q]
    exact ⟨_, _, _, rfl, rfl, h⟩
  · have q0 : ¬ a < 0 := fun z => by
      have h1 := Int32.lt_iff_toInt_lt.mp z
      have h2 : (3 : Int) ≤ a.toInt := Int32.le_iff_toInt_le.mp q
      have h3 : a.toInt < 0 := h1
      omega
    rw [if_neg q0, if_neg q0, if_pos q, if_neg (fun z => absurd q (Int32.not_le.mpr z))]
    exact ⟨_, _, _, rfl, rfl, h⟩
  · have q0 : ¬ nI q < 0 := nI_pos (by omega)
    have q3 : ¬ (3 : Int32) ≤ nI q := nI_ge (b := 3) (by omega) (by decide)
    rw [if_neg q0, if_neg q0, if_neg q3, if_pos (Int32.not_le.mp q3), bd]
    dsimp only
    have eb := h.refs.2.1 q hq
    rw [if_neg one0, gc_p (gI_nI (by omega) (by decide)), nI_clamp (by omega), eb, gc_p (gk_boxes q hq), nar1]
    obtain ⟨x2, f1, f2, f3⟩ := copy_spec (t := 209 + 3 * q) (r := 20) (st := x) (by omega)
    rw [f1, bd, gc_p (gI_nI (by omega) (by decide))]
    obtain ⟨y2, k1, k2⟩ := img18 hq 18 0 FU (wi y 45 q 1) (by decide) (FU_gt (by decide))
    rw [nI0] at k1
    rw [gc_p (gI_nI (by omega) (by decide)), k1]
    have hn := h.now
    have e1 : (wi y 45 q 1).1 28 16 = y.1 28 16 := by rw [wi_1, if_neg (by omega)]
    have e2 : (wi x2 149 q 1).1 20 8 = y.1 28 16 := by rw [wi_1, if_neg (by omega), f3, if_neg (by omega), if_neg (by omega), if_neg (by omega)]; exact hn.2.2.2.2.2.2.2.1
    rw [e1, e2]
    refine ⟨_, _, _, rfl, rfl, Inv_box h (by show x2.2.2 = _; rw [f2]) (fun k j hk => ?_) (fun k j hk => ?_) (fun b hb => ?_)⟩
    · rw [wi_1, if_neg (by omega), f3, if_neg (by omega), if_neg (by omega), if_neg (by omega)]
    · rw [k2, if_neg (by omega), wi_1, if_neg (by omega)]
    · have y48 : y2.1 0 48 = y.1 0 48 := by rw [k2, if_neg (by omega), wi_1, if_neg (by omega)]
      have y49 : y2.1 0 49 = y.1 0 49 := by rw [k2, if_neg (by omega), wi_1, if_neg (by omega)]
      by_cases hbq : b = q
      · subst hbq
        have r46 : rwE (y.1 28) (rw y2 46 b) := fun jj hjj => by
          unfold rw
          rw [k2, if_pos (by omega), wi_1, if_neg (by omega), Nat.add_sub_cancel_left]
        refine ⟨?_, ?_, fun _ => ⟨rowOK_y y48 y49 (rowOK_E r46 hn.1), ?_⟩⟩
        · rw [k2, if_neg (by omega), wi_1, if_pos ⟨rfl, rfl⟩]; exact Or.inr rfl
        · rw [wi_1, if_pos ⟨rfl, rfl⟩, k2, if_neg (by omega), wi_1, if_pos ⟨rfl, rfl⟩]
        · refine fr_st (x := x2) (CX := fun k jj => k = 149) (fun k jj hk => by rw [wi_1, if_neg (by omega)]) (fun c jj hc => by omega) (stR_cp f3 (stR_E r46 hn.2))
      · obtain ⟨c1, c2, c3⟩ := h.box b hb
        have e45 : y2.1 45 b = y.1 45 b := by rw [k2, if_neg (by omega), wi_1, if_neg (by omega)]
        have r46 : rwE (rw y 46 b) (rw y2 46 b) := fun jj hjj => by
          unfold rw
          rw [k2, if_neg (by omega), wi_1, if_neg (by omega)]
        rw [e45]
        refine ⟨c1, ?_, fun h1 => ⟨rowOK_y y48 y49 (rowOK_E r46 (c3 h1).1), ?_⟩⟩
        · rw [wi_1, if_neg (by omega), f3, if_neg (by omega), if_neg (by omega), if_neg (by omega)]; exact c2
        · refine fr_st (x := x) (CX := fun k jj => ¬ (209 + 3 * b ≤ k ∧ k ≤ 209 + 3 * b + 2)) (fun k jj hk => ?_) (fun c jj hc z => z hc) (stR_E r46 (c3 h1).2)
          have hk : 209 + 3 * b ≤ k ∧ k ≤ 209 + 3 * b + 2 := Classical.byContradiction hk
          rw [wi_1, if_neg (by omega), f3, if_neg (by omega), if_neg (by omega), if_neg (by omega)]
