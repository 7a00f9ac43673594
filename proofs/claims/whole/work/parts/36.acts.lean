theorem s_rain : sOK Inv fX10_rain fX11_rain := by
  intro x y h
  unfold fX10_rain fX11_rain
  obtain ⟨ok, r0, r1, r2, r3, r4, r5, r6, r7, r8, r9⟩ := h.now
  rw [gc_p (by decide), show (3 : Int32).toNatClampNeg = 3 from rfl, show (2 : Int32).toNatClampNeg = 2 from rfl, r3]
  rcases ok.2.2.1 with w | w
  · rw [w, if_pos rfl, if_neg (by decide)]
    obtain ⟨x2, y1, e1, e2, e3, e4, e5⟩ := keep_act (x1 := wi x 20 5 1) h rfl (fun k j hk => by rw [wi_1, if_neg (by unfold scrX at hk; omega)])
    have hI := e5 (wi y1 28 3 1) (fun k j hk => by rw [wi_1, if_neg (by omega)]) (by
        obtain ⟨o1, o2, o3, o4⟩ := ok
        refine ⟨?_, ?_, ?_, ?_⟩
        · rw [wi_1, if_neg (by omega), e4 28 0 (by omega)]; exact o1
        · rw [wi_1, if_neg (by omega), e4 28 1 (by omega)]; exact o2
        · rw [wi_1, if_pos (by omega)]; exact Or.inr rfl
        · rw [wi_1, if_neg (by omega), e4 28 16 (by omega)]; exact o4) (by
        refine ⟨?_, ?_, ?_, ?_, ?_, ?_, ?_, ?_, fun i hi => ?_, fun i hi => ?_⟩
        · rw [wi_1, if_neg (by omega), wi_1, if_neg (by omega), e4 28 0 (by omega)]; exact r0
        · rw [wi_1, if_neg (by omega), wi_1, if_neg (by omega), e4 28 1 (by omega)]; exact r1
        · rw [wi_1, if_neg (by omega), wi_1, if_neg (by omega), e4 28 2 (by omega)]; exact r2
        · rw [wi_1, if_pos (by omega), wi_1, if_pos (by omega)]
        · rw [wi_1, if_neg (by omega), wi_1, if_neg (by omega), e4 28 14 (by omega)]; exact r4
        · rw [wi_1, if_neg (by omega), wi_1, if_neg (by omega), e4 28 15 (by omega)]; exact r5
        · rw [wi_1, if_neg (by omega), wi_1, if_neg (by omega), e4 28 16 (by omega)]; exact r6
        · rw [wi_1, if_neg (by omega), wi_1, if_neg (by omega), e4 28 17 (by omega)]; exact r7
        · rw [wi_1, if_neg (by omega), wi_1, if_neg (by omega), e4 28 _ (by omega)]; exact r8 i hi
        · rw [wi_1, if_neg (by omega), wi_1, if_neg (by omega), e4 28 _ (by omega)]; exact r9 i hi)
    rw [e1, e2, bd, bd, gc_p (by decide), gc_p (by decide)]
    refine ⟨_, _, _, rfl, ?_, hI⟩
    rw [wi_1, if_neg (by omega), e4 28 2 (by omega), e3 20 4 (by omega), wi_1, if_neg (by omega), r2]
  · rw [w, if_neg one0, if_pos rfl]
    exact ⟨_, _, _, rfl, rfl, h⟩
theorem s_give (a : Int32) : sOK Inv (fX10_give a) (fX11_give a) := by
  intro x y h
  unfold fX10_give fX11_give
  obtain ⟨ok, r0, r1, r2, r3, r4, r5, r6, r7, r8, r9⟩ := h.now
  rw [gc_p h.told8]
  have eT : x.1 (x.2.2 0 9) 13 = y.1 0 49 := h.xt.1.2.1
  rcases inR_dec a (y.1 0 49) with q | q
  · rw [(hasTri x _ a).1 (by rw [eT]; exact q), (isTri h.wf a).1 q, bd, bd]
    dsimp only
    rw [if_neg one0, if_neg one0, gc_p (by decide), show (1 : Int32).toNatClampNeg = 1 from rfl, r1]
    by_cases hh : a = y.1 28 1
    · rw [if_pos hh, if_pos hh]
      exact ⟨_, _, _, rfl, rfl, h⟩
    · rw [if_neg hh, if_neg hh]
      have hN := inR_N h.wf.1.2.1 (by decide) q
      obtain ⟨x2, y1, e1, e2, e3, e4, e5⟩ := keep_act (x1 := wi x 20 3 a) h rfl (fun k j hk => by rw [wi_1, if_neg (by unfold scrX at hk; omega)])
      have hI := e5 (wi y1 28 1 a) (fun k j hk => by rw [wi_1, if_neg (by omega)]) (by
          obtain ⟨o1, o2, o3, o4⟩ := ok
          refine ⟨?_, ?_, ?_, ?_⟩
          · rw [wi_1, if_neg (by omega), e4 28 0 (by omega)]; exact o1
          · rw [wi_1, if_pos (by omega)]; exact Or.inr hN
          · rw [wi_1, if_neg (by omega), e4 28 3 (by omega)]; exact o3
          · rw [wi_1, if_neg (by omega), e4 28 16 (by omega)]; exact o4) (by
          refine ⟨?_, ?_, ?_, ?_, ?_, ?_, ?_, ?_, fun i hi => ?_, fun i hi => ?_⟩
          · rw [wi_1, if_neg (by omega), wi_1, if_neg (by omega), e4 28 0 (by omega)]; exact r0
          · rw [wi_1, if_pos (by omega), wi_1, if_pos (by omega)]
          · rw [wi_1, if_neg (by omega), wi_1, if_neg (by omega), e4 28 2 (by omega)]; exact r2
          · rw [wi_1, if_neg (by omega), wi_1, if_neg (by omega), e4 28 3 (by omega)]; exact r3
          · rw [wi_1, if_neg (by omega), wi_1, if_neg (by omega), e4 28 14 (by omega)]; exact r4
          · rw [wi_1, if_neg (by omega), wi_1, if_neg (by omega), e4 28 15 (by omega)]; exact r5
          · rw [wi_1, if_neg (by omega), wi_1, if_neg (by omega), e4 28 16 (by omega)]; exact r6
          · rw [wi_1, if_neg (by omega), wi_1, if_neg (by omega), e4 28 17 (by omega)]; exact r7
          · rw [wi_1, if_neg (by omega), wi_1, if_neg (by omega), e4 28 _ (by omega)]; exact r8 i hi
          · rw [wi_1, if_neg (by omega), wi_1, if_neg (by omega), e4 28 _ (by omega)]; exact r9 i hi)
      rw [e1, e2, bd, bd, gc_p (by decide)]
      unfold gl
      dsimp only
      rw [gc_p (by decide)]
      refine ⟨_, _, _, rfl, ?_, hI⟩
      rw [e4 28 1 (by omega)]
  · rw [(hasTri x _ a).2 (by rw [eT]; exact q), (isTri h.wf a).2 q, bd, bd]
    dsimp only
    rw [if_pos rfl, if_pos rfl]
    exact ⟨_, _, _, rfl, rfl, h⟩
theorem exch {q : Nat} (hq : q < 40) : ∀ (d i n : Nat) (st : gS), i + d = 18 → d < n → ∃ st', hX11_exchange_2 (nI (18 * q)) n (nI i) st = some st' ∧ ∀ k j, st'.1 k j = if k = 30 ∧ 18 * q + i ≤ j ∧ j < 18 * q + 18 then st.1 28 (j - 18 * q) else if k = 28 ∧ i ≤ j ∧ j < 18 then st.1 30 (18 * q + j) else st.1 k j := by
  intro d
  induction d with
  | zero =>
    intro i n st hi hn
    obtain ⟨n, rfl⟩ : ∃ m, n = m + 1 := ⟨n - 1, by omega⟩
    have e : i = 18 := by omega
    subst e
    refine ⟨st, ?_, fun k j => ?_⟩
    · show fX11_exchange_2 _ _ (nI 18) st = _
      unfold fX11_exchange_2
      rw [if_pos (by decide)]
    · rw [if_neg (by omega), if_neg (by omega)]
  | succ d ih =>
    intro i n st hi hn
    obtain ⟨n, rfl⟩ : ∃ m, n = m + 1 := ⟨n - 1, by omega⟩
    obtain ⟨st', e1, e2⟩ := ih (i + 1) n (wi (wi st 30 (18 * q + i) (st.1 28 i)) 28 i (st.1 30 (18 * q + i))) (by omega) (by omega)
    refine ⟨st', ?_, fun k j => ?_⟩
    · show fX11_exchange_2 _ (hX11_exchange_2 (nI (18 * q)) n) (nI i) st = _
      unfold fX11_exchange_2 gl
      dsimp only
      rw [if_neg (show ¬ (18 : Int32) ≤ nI i from nI_ge (b := 18) (by omega) (by decide)), nI_add, gc_p (gI_nI (by omega) (by decide)), gc_p (gI_nI (by omega) (by decide)), gc_p (gI_nI (by omega) (by decide)), gc_p (gI_nI (by omega) (by decide)), nI_clamp (by omega), nI_clamp (by omega), nI_1]
      exact e1
    · rw [e2 k j]
      simp only [wi_1]
      repeat' split
      all_goals first | rfl | (exfalso; omega) | (rw [show j - 18 * q = i by omega]) | (rw [show j = i by omega])
theorem s_undo : sOK Inv fX10_undo fX11_undo := by
  intro x y h
  unfold fX10_undo fX11_undo fX1_stepBack
  obtain ⟨b1, b2, b3, b4, b5, b6, b7, b8⟩ := h.hist
  have hR := h.refs
  have ha := b1.2
  have hu := b2.2
  obtain ⟨a, ea⟩ : ∃ a, a = vN (y.1 0 58) := ⟨_, rfl⟩
  obtain ⟨u, eu⟩ : ∃ a, a = vN (y.1 0 59) := ⟨_, rfl⟩
  have h58 : y.1 0 58 = nI a := by rw [ea]; exact b1.1
  have h59 : y.1 0 59 = nI u := by rw [eu]; exact b2.1
  rw [← ea] at b3 b6 b7 b8 ha
  rw [← eu] at b3 b8 hu
  have h23 : x.1 23 1 = nI a := by rw [b4, h58]
  have h24 : x.1 23 2 = nI (a + u) := by rw [b5, h58, h59, nI_add]
  rw [h23, h58]
  by_cases h0 : a = 0
  · subst h0
    rw [if_neg (by decide), if_pos nI0]
    exact ⟨_, _, _, rfl, rfl, h⟩
  · obtain ⟨q, rfl⟩ : ∃ q, a = q + 1 := ⟨a - 1, by omega⟩
    rw [if_pos (show (0 : Int32) < nI (q + 1) from nI_lt (a := 0) (by omega) (by omega)), if_neg (nI_ne0 (by omega) (by omega)), nI_pred]
    have e23 : (wi x 23 1 (nI q)).1 23 1 = nI q := by rw [wi_1, if_pos (by omega)]
    obtain ⟨j, hj, ej⟩ := hR.2.2.1 q (by omega)
    have ek : (wi x 23 1 (nI q)).2.2 24 q = 25 + 3 * j := ej
    rw [e23, gc_p (gI_nI (by omega) (by decide)), nI_clamp (by omega), ek, gc_p (gk_kept j hj)]
    obtain ⟨x2, f1, f2, f3⟩ := copy_spec (t := 20) (r := 25 + 3 * j) (st := wi x 23 1 (nI q)) (by omega)
    rw [f1, bd, bd]
    dsimp only
    rw [gc_p (by decide)]
    have g59 : (wi y 0 58 (nI q)).1 0 59 = nI u := by rw [wi_1, if_neg (by omega)]; exact h59
    have g58 : (wi (wi y 0 58 (nI q)) 0 59 (nI (u + 1))).1 0 58 = nI q := by rw [wi_1, if_neg (by omega), wi_1, if_pos (by omega)]
    rw [g59, nI_1, g58, show (18 : Int32) = nI 18 from rfl, pk_mul]
    obtain ⟨y2, k1, k2⟩ := exch (q := q) (by omega) 18 0 FU (wi (wi y 0 58 (nI q)) 0 59 (nI (u + 1))) (by decide) (FU_gt (by decide))
    unfold fX11_exchange
    rw [nI0] at k1
    rw [k1, bd]
    have k0 : ∀ k jj, y2.1 k jj = if k = 30 ∧ 18 * q ≤ jj ∧ jj < 18 * q + 18 then y.1 28 (jj - 18 * q) else if k = 28 ∧ jj < 18 then y.1 30 (18 * q + jj) else if k = 0 ∧ jj = 58 then nI q else if k = 0 ∧ jj = 59 then nI (u + 1) else y.1 k jj := by
      intro k jj
      rw [k2]
      simp only [wi_1]
      repeat' split
      all_goals first | rfl | (exfalso; omega)
    have f0 : ∀ k jj, x2.1 k jj = if k = 20 ∧ 2 ≤ jj ∧ jj ≤ 9 then x.1 (25 + 3 * j) jj else if k = 21 ∧ jj < 5 then x.1 (25 + 3 * j + 1) jj else if k = 22 ∧ jj < 5 then x.1 (25 + 3 * j + 2) jj else if k = 23 ∧ jj = 1 then nI q else x.1 k jj := by
      intro k jj
      rw [f3]
      simp only [wi_1]
      repeat' split
      all_goals first | rfl | (exfalso; omega)
    have r2 : x2.2.2 = x.2.2 := by rw [f2]; rfl
    have y48 : y2.1 0 48 = y.1 0 48 := by rw [k0, if_neg (by omega), if_neg (by omega), if_neg (by omega), if_neg (by omega)]
    have y49 : y2.1 0 49 = y.1 0 49 := by rw [k0, if_neg (by omega), if_neg (by omega), if_neg (by omega), if_neg (by omega)]
    have s58 : y2.1 0 58 = nI q := by rw [k0, if_neg (by omega), if_neg (by omega), if_pos (by omega)]
    have s59 : y2.1 0 59 = nI (u + 1) := by rw [k0, if_neg (by omega), if_neg (by omega), if_neg (by omega), if_pos (by omega)]
    have n58 : vN (y2.1 0 58) = q := by rw [s58]; exact vN_nI (by omega)
    have n59 : vN (y2.1 0 59) = u + 1 := by rw [s59]; exact vN_nI (by omega)
    have ro : ∀ i, i ≠ q → i < 40 → rwE (rw y2 30 i) (rw y 30 i) := fun i hi h40 jj hjj => by
      unfold rw
      rw [k0, if_neg (by omega), if_neg (by omega), if_neg (by omega), if_neg (by omega)]
    have rq : rwE (rw y2 30 q) (y.1 28) := fun jj hjj => by
      unfold rw
      rw [k0, if_pos (by omega), Nat.add_sub_cancel_left]
    have r28 : rwE (y2.1 28) (rw y 30 q) := fun jj hjj => by
      unfold rw
      rw [k0, if_neg (by omega), if_pos (by omega)]
    have kst : ∀ i, i < 41 → ∀ g, stR x (x.2.2 24 i) g → stR x2 (x.2.2 24 i) g := by
      intro i hi g hs
      obtain ⟨q2, hq2, eq2⟩ := hR.2.2.1 i hi
      rw [eq2] at hs ⊢
      refine fr_st (CX := fun k jj => ¬ (25 + 3 * q2 ≤ k ∧ k ≤ 25 + 3 * q2 + 2)) (fun k jj hk => ?_) (fun c jj hc z => z hc) hs
      have hk : 25 + 3 * q2 ≤ k ∧ k ≤ 25 + 3 * q2 + 2 := Classical.byContradiction hk
      rw [f0, if_neg (by omega), if_neg (by omega), if_neg (by omega), if_neg (by omega)]
    have bq := b6 q (by omega)
    refine ⟨_, _, _, rfl, rfl, Inv_hist h (fun k _ => by rw [r2]) (fun k jj hk => ?_) (fun k jj hk => ?_) (fun i hi => by rw [r2]; exact hR.2.2.1 i hi) (fun i q hi hq => by rw [r2]; exact hR.2.2.2 i q hi hq) ⟨rowOK_y y48 y49 (rowOK_E r28.sy bq.1), ?_⟩ ⟨?_, ?_, ?_, ?_, ?_, fun i hi => ?_, ?_, fun i h1 h2 => ?_⟩⟩
    · unfold scrX at hk
      rw [f0, if_neg (by omega), if_neg (by omega), if_neg (by omega), if_neg (by omega)]
    · unfold scrY at hk
      rw [k0, if_neg (by omega), if_neg (by omega), if_neg (by omega), if_neg (by omega)]
    · refine stR_cp f3 ?_
      rw [ej] at bq
      refine stR_E r28.sy (fr_st (CX := fun k jj => ¬ (25 + 3 * j ≤ k ∧ k ≤ 25 + 3 * j + 2)) (fun k jj hk => ?_) (fun c jj hc z => z hc) bq.2)
      have hk : 25 + 3 * j ≤ k ∧ k ≤ 25 + 3 * j + 2 := Classical.byContradiction hk
      rw [wi_1, if_neg (by omega)]
    · rw [s58]; exact isN.of (by omega) (by decide)
    · rw [s59]; exact isN.of (by omega) (by decide)
    · omega
    · rw [f0, if_neg (by omega), if_neg (by omega), if_neg (by omega), if_pos (by omega), s58]
    · rw [f0, if_neg (by omega), if_neg (by omega), if_neg (by omega), if_neg (by omega), h24, s58, s59, nI_add, show q + 1 + u = q + (u + 1) by omega]
    · rw [n58] at hi
      rw [r2]
      exact ⟨rowOK_y y48 y49 (rowOK_E (ro i (by omega) (by omega)).sy (b6 i (by omega)).1), kst i (by omega) _ (stR_E (ro i (by omega) (by omega)).sy (b6 i (by omega)).2)⟩
    · rw [n58, r2]
      exact stR_E r28.sy (kst q (by omega) _ bq.2)
    · rw [n58] at h1
      rw [n58, n59] at h2
      rw [r2]
      by_cases hiq : i = q
      · subst hiq
        exact ⟨rowOK_y y48 y49 (rowOK_E rq.sy h.now.1), stR_E rq.sy (kst (i + 1) (by omega) _ b7)⟩
      · obtain ⟨c1, c2⟩ := b8 i (by omega) (by omega)
        exact ⟨rowOK_y y48 y49 (rowOK_E (ro i hiq (by omega)).sy c1), stR_E (ro i hiq (by omega)).sy (kst (i + 1) (by omega) _ c2)⟩
