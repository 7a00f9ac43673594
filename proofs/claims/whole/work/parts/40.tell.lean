/-! ===== seen, felt, untell, feed ===== -/
theorem wi_ne {st : gS} {k j a b : Nat} {v : Int32} (h : a ≠ k) : (wi st k j v).1 a b = st.1 a b := by
  rw [wi_1, if_neg (fun q => h q.1)]
theorem tellX {x : gS} {n : Nat} (h : x.1 169 10 = nI n) (hn : n < 30) {s c : Int32} (hs : gB s) (hc : gB c) (a b : Int32) : ∃ x', fX2_tell s a b c x = some (nI n, x') ∧ x'.2 = x.2 ∧ ∀ k j, x'.1 k j = if k = 169 ∧ j = 10 then nI (n + 1) else if k = 170 ∧ j = n then s else if k = 171 ∧ j = n then c else if k = 172 ∧ j = n then a else if k = 173 ∧ j = n then b else if k = 174 ∧ j = n then x.1 169 11 else if k = 175 ∧ j = n then -1 else x.1 k j := by
  unfold fX2_tell
  have e : ∀ (st : gS) k j a v, (169 : Nat) ≠ k → (wi st k j v).1 169 a = st.1 169 a := fun st k j a v hk => wi_ne hk
  simp only [e _ 170 _ _ _ (by decide), e _ 171 _ _ _ (by decide), e _ 172 _ _ _ (by decide), e _ 173 _ _ _ (by decide), e _ 174 _ _ _ (by decide), e _ 175 _ _ _ (by decide), h, narB hs, narB hc]
  rw [if_pos (show nI n < 30 from (nI_lt' (by omega) (by decide)).mpr hn)]
  simp only [gc_p (gI_nI hn (by decide)), nI_clamp (show n < 2 ^ 31 by omega), nI_s]
  refine ⟨_, rfl, rfl, fun k j => ?_⟩
  simp only [wi_1]
  repeat' split
  all_goals first | rfl | (exfalso; omega)
theorem tellX1 {x : gS} (h : x.1 169 10 = nI 30) (s a b c : Int32) : fX2_tell s a b c x = some (-1, x) := by
  unfold fX2_tell
  rw [h, if_neg (by decide)]
theorem tellY {x : gS} {n : Nat} (h : x.1 0 73 = nI n) (hn : n < 30) {c : Int32} (hc : gB c) (s a b : Int32) : ∃ x', fX11_tell s a b c x = some (nI n, x') ∧ x'.2 = x.2 ∧ ∀ k j, x'.1 k j = if k = 0 ∧ j = 73 then nI (n + 1) else if k = 37 ∧ j = n then s else if k = 42 ∧ j = n then c else if k = 38 ∧ j = n then a else if k = 39 ∧ j = n then b else if k = 40 ∧ j = n then x.1 0 74 else if k = 41 ∧ j = n then -1 else x.1 k j := by
  unfold fX11_tell
  have e : ∀ (st : gS) k j a v, (0 : Nat) ≠ k → (wi st k j v).1 0 a = st.1 0 a := fun st k j a v hk => wi_ne hk
  have e2 : ∀ (st : gS) v, (wi st 0 73 v).1 0 73 = v := fun st v => by rw [wi_1, if_pos ⟨rfl, rfl⟩]
  simp only [e _ 37 _ _ _ (by decide), e _ 38 _ _ _ (by decide), e _ 39 _ _ _ (by decide), e _ 40 _ _ _ (by decide), e _ 41 _ _ _ (by decide), e _ 42 _ _ _ (by decide), h, narB hc]
  rw [if_neg (show ¬ nI n = 30 from fun q => by have := (nI_inj (by omega) (by decide)).mp (show nI n = nI 30 from q); omega)]
  simp only [gc_p (gI_nI hn (by decide)), nI_clamp (show n < 2 ^ 31 by omega), nI_s, e2]
  rw [show nI (n + 1) - 1 = nI n from pk_sub (b := 1) (by omega)]
  refine ⟨_, rfl, rfl, fun k j => ?_⟩
  simp only [wi_1]
  repeat' split
  all_goals first | rfl | (exfalso; omega)
theorem tellY1 {x : gS} (h : x.1 0 73 = nI 30) (s a b c : Int32) : fX11_tell s a b c x = some (-1, x) := by
  unfold fX11_tell
  rw [h, if_pos (show nI 30 = 30 from rfl)]
theorem past_tell {x y : gS} (h : Inv x y) {s c a b : Int32} (hs : gB s) (hc : gB c) (ha : isN a 7) (h0 : s = 0 → isN b (nF y)) (h1 : s = 1 → isN b 10 ∧ 1 ≤ vN a) : ∃ r x' y', fX2_tell s a b c x = some (r, x') ∧ fX11_tell s a b c y = some (r, y') ∧ Inv x' y' := by
  obtain ⟨p1, p2, p3, p4, p5⟩ := h.past
  have hl := p1.2
  have p1e := p1.1
  generalize hn : vN (y.1 0 73) = n at *
  by_cases h30 : n = 30
  · subst h30
    exact ⟨_, _, _, tellX1 (p3.trans p1e) _ _ _ _, tellY1 p1e _ _ _ _, h⟩
  · obtain ⟨x', ex, ex2, ex3⟩ := tellX (p3.trans p1e) (by omega) hs hc a b
    obtain ⟨y', ey, ey2, ey3⟩ := tellY p1e (by omega) hc s a b
    refine ⟨_, x', y', ex, ey, Inv_past h (by rw [ex2]) (fun k j hk => ?_) (fun k j hk => ?_) ⟨?_, ?_, ?_, ?_, ?_⟩⟩
    · rw [ex3]
      repeat' split
      all_goals first | rfl | (exfalso; omega)
    · rw [ey3]
      repeat' split
      all_goals first | rfl | (exfalso; omega)
    · rw [ey3, if_pos ⟨rfl, rfl⟩]; exact isN.of (by omega) (by decide)
    · rw [ey3]; exact p2
    · rw [ex3, ey3, if_pos ⟨rfl, rfl⟩, if_pos ⟨rfl, rfl⟩]
    · rw [ex3, ey3]; exact p4
    · intro i hi
      have hF : nF y' = nF y := by show vN (y'.1 0 48) = vN (y.1 0 48); rw [ey3]; rfl
      rw [ey3, if_pos ⟨rfl, rfl⟩, vN_nI (by omega)] at hi
      simp only [ex3, ey3, hF]
      by_cases hin : i = n
      · subst hin
        simp
        refine ⟨hs, hc, ha, h0, h1, p2, ?_⟩
        exact p4
      · have := p5 i (by omega)
        simp [hin]
        simpa using this
theorem isIn_c {a l u : Int32} (y : gS) : fX11_isIn a l u y = some (if ¬ a < l ∧ ¬ u < a then 1 else 0, y) := by
  unfold fX11_isIn
  by_cases h : a < l
  · rw [if_pos h, if_neg (fun q => q.1 h)]
  · by_cases h2 : u < a
    · rw [if_neg h, if_pos h2, if_neg (fun q => q.2 h2)]
    · rw [if_neg h, if_neg h2, if_pos ⟨h, h2⟩]
theorem rng {a : Int32} {u : Nat} (hu : u < 2 ^ 30) (h1 : ¬ a < 0) (h2 : ¬ nI u < a) : isN a (u + 1) := by
  rcases pk_ix a (n := u + 1) (by omega) with q | q | ⟨j, hj, rfl⟩
  · exact absurd q h1
  · refine absurd ?_ h2
    rw [Int32.le_iff_toInt_le, nI_toInt (by omega)] at q
    rw [Int32.lt_iff_toInt_lt, nI_toInt (by omega)]
    omega
  · exact isN.of hj (by omega)
theorem s_seen (a1 a2 a3 : Int32) (hb : gB a3) : sOK Inv (fX10_seen a1 a2 a3) (fX11_seen a1 a2 a3) := by
  intro x y h
  unfold fX10_seen fX11_seen fX2_hasNumber
  rw [isIn_c, bd]
  dsimp only
  by_cases h1 : a1 < 0
  · rw [if_pos h1, bd, if_neg (show ¬ (¬ a1 < 0 ∧ ¬ 6 < a1) from fun q => q.1 h1)]
    exact ⟨_, _, _, rfl, rfl, h⟩
  · by_cases h2 : 6 < a1
    · rw [if_neg h1, if_pos h2, bd, if_neg (show ¬ (¬ a1 < 0 ∧ ¬ 6 < a1) from fun q => q.2 h2)]
      exact ⟨_, _, _, rfl, rfl, h⟩
    · rw [if_neg h1, if_neg h2, bd, if_pos (show (¬ a1 < 0 ∧ ¬ 6 < a1) from ⟨h1, h2⟩), if_neg one0]
      dsimp only
      rw [if_neg one0, gc_p h.told8]
      rcases inR_dec a2 (y.1 0 48) with q | q
      · rw [(isFig h.wf a2).1 q, (hasFig x _ a2).1 (by rw [h.xt.1.1]; exact q), bd, bd]
        dsimp only
        rw [if_neg one0, if_neg one0]
        obtain ⟨r, x', y', e1, e2, e3⟩ := past_tell h (s := 0) (c := a3) (a := a1) (b := a2) (Or.inl rfl) hb (rng (u := 6) (by decide) h1 h2) (fun _ => inR_N h.wf.1.1 (by decide) q) (fun q => absurd q.symm one0)
        rw [e1, e2]
        exact ⟨_, _, _, rfl, rfl, e3⟩
      · rw [(isFig h.wf a2).2 q, (hasFig x _ a2).2 (by rw [h.xt.1.1]; exact q), bd, bd]
        exact ⟨_, _, _, rfl, rfl, h⟩
theorem s_felt (a1 a2 a3 : Int32) (hb : gB a3) : sOK Inv (fX10_felt a1 a2 a3) (fX11_felt a1 a2 a3) := by
  intro x y h
  unfold fX10_felt fX11_felt fX2_hasNumber
  rw [isIn_c, bd]
  dsimp only
  have hi : ∀ z : Int32, 9 < z ↔ ¬ z < 10 := fun z => by
    rw [Int32.lt_iff_toInt_lt, Int32.lt_iff_toInt_lt]
    show (9 : Int) < z.toInt ↔ ¬ (z.toInt < (10 : Int))
    omega
  have h10 : a1 < 0 → a1 < 1 := fun z => by
    rw [Int32.lt_iff_toInt_lt] at z ⊢
    have z : a1.toInt < (0 : Int) := z
    show a1.toInt < (1 : Int)
    omega
  by_cases h1 : a1 < 1
  · rw [if_pos h1, if_neg (show ¬ (¬ a1 < 1 ∧ ¬ 6 < a1) from fun q => q.1 h1)]
    exact ⟨_, _, _, rfl, rfl, h⟩
  · have h0 : ¬ a1 < 0 := fun z => h1 (h10 z)
    rw [if_neg h1, if_neg h0]
    by_cases h2 : 6 < a1
    · rw [if_pos h2, bd, if_neg (show ¬ (¬ a1 < 1 ∧ ¬ 6 < a1) from fun q => q.2 h2)]
      exact ⟨_, _, _, rfl, rfl, h⟩
    · rw [if_neg h2, bd, if_pos (show (¬ a1 < 1 ∧ ¬ 6 < a1) from ⟨h1, h2⟩), if_neg one0, isIn_c, bd]
      dsimp only
      rw [if_neg one0]
      by_cases h3 : a2 < 0
      · rw [if_pos h3, if_neg (show ¬ (¬ a2 < 0 ∧ ¬ 9 < a2) from fun q => q.1 h3)]
        exact ⟨_, _, _, rfl, rfl, h⟩
      · rw [if_neg h3]
        by_cases h4 : a2 < 10
        · have h5 : ¬ 9 < a2 := fun z => (hi a2).mp z h4
          rw [if_pos h4, if_pos (show (¬ a2 < 0 ∧ ¬ 9 < a2) from ⟨h3, h5⟩), if_neg one0]
          have hN := rng (u := 6) (by decide) h0 h2
          have hg : 1 ≤ vN a1 := by
            have := hN.toInt (by decide)
            rw [Int32.lt_iff_toInt_lt] at h1
            have h1 : ¬ a1.toInt < (1 : Int) := h1
            omega
          obtain ⟨r, x', y', e1, e2, e3⟩ := past_tell h (s := 1) (c := a3) (a := a1) (b := a2) (Or.inr rfl) hb hN (fun q => absurd q one0) (fun _ => ⟨rng (u := 9) (by decide) h3 h5, hg⟩)
          rw [e1, e2]
          exact ⟨_, _, _, rfl, rfl, e3⟩
        · rw [if_neg h4, if_neg (show ¬ (¬ a2 < 0 ∧ ¬ 9 < a2) from fun q => q.2 ((hi a2).mpr h4))]
          exact ⟨_, _, _, rfl, rfl, h⟩
theorem s_untell (a : Int32) : sOK Inv (fX10_untell a) (fX11_untell a) := by
  intro x y h
  unfold fX10_untell fX11_untell fX2_takeBack
  obtain ⟨p1, p2, p3, p4, p5⟩ := h.past
  have hl := p1.2
  rw [p3]
  rcases inR_dec a (y.1 0 73) with q | q
  · have hN := inR_N p1 (by decide) q
    obtain ⟨q1, q2, q3, q4, q5, q6, q7, q8, q9, q10, q11, q12, q13⟩ := p5 _ hN.2
    rw [(isIn_eq p1 (by decide) y).1 q, if_neg q.1, if_neg q.2, gc_p (hN.gI (by omega) (by decide)), bd]
    dsimp only
    rw [if_neg one0, gc_p (hN.gI (by omega) (by decide)), gc_p (hN.gI (by omega) (by decide)), gc_p (hN.gI (by omega) (by decide)), q13]
    rcases q7 with q7 | q7
    · rw [q7, if_pos rfl, if_pos (by decide), bd]
      dsimp only
      rw [gc_p (Or.inr rfl)]
      have hn := hN.2
      generalize hav : a.toNatClampNeg = n at *
      refine ⟨_, _, _, rfl, rfl, Inv_past h rfl (fun k j hk => ?_) (fun k j hk => ?_) ⟨?_, ?_, ?_, ?_, ?_⟩⟩
      · rw [wi_1, if_neg (by omega)]
      · rw [wi_1, if_neg (by omega)]
      · rw [wi_ne (by decide)]; exact p1
      · rw [wi_ne (by decide)]; exact p2
      · rw [wi_ne (by decide), wi_ne (by decide)]; exact p3
      · rw [wi_ne (by decide), wi_ne (by decide)]; exact p4
      · intro i hi
        rw [wi_ne (by decide)] at hi
        have hF : nF (wi y 41 n (y.1 0 74)) = nF y := by show vN ((wi y 41 n (y.1 0 74)).1 0 48) = vN (y.1 0 48); rw [wi_ne (by decide)]
        obtain ⟨q1, q2, q3, q4, q5, q6, q7, q8, q9, q10, q11, q12, q13⟩ := p5 i hi
        simp only [hF]
        simp only [wi_ne (show (37 : Nat) ≠ 41 by decide), wi_ne (show (38 : Nat) ≠ 41 by decide), wi_ne (show (39 : Nat) ≠ 41 by decide), wi_ne (show (40 : Nat) ≠ 41 by decide), wi_ne (show (42 : Nat) ≠ 41 by decide), wi_ne (show (170 : Nat) ≠ 175 by decide), wi_ne (show (171 : Nat) ≠ 175 by decide), wi_ne (show (172 : Nat) ≠ 175 by decide), wi_ne (show (173 : Nat) ≠ 175 by decide), wi_ne (show (174 : Nat) ≠ 175 by decide)]
        rw [wi_1, wi_1]
        refine ⟨q1, q2, q3, q4, q5, q6, ?_, q8, q9, q10, q11, q12, ?_⟩
        · by_cases e : i = n
          · rw [if_pos ⟨rfl, e⟩]; exact Or.inr p2
          · rw [if_neg (fun z => e z.2)]; exact q7
        · by_cases e : i = n
          · rw [if_pos ⟨rfl, e⟩, if_pos ⟨rfl, e⟩]; exact p4
          · rw [if_neg (fun z => e z.2), if_neg (fun z => e z.2)]; exact q13
    · have e1 := q7.1
      have e2 := q7.2
      rw [e1, if_neg (nI_m1 (by omega)), if_neg (nI_nn (by omega)), bd]
      exact ⟨_, _, _, by dsimp only; rw [gc_p (Or.inl rfl)], rfl, h⟩
  · rw [(isIn_eq p1 (by decide) y).2 q, bd]
    dsimp only
    rw [if_pos rfl]
    by_cases h4 : a < 0
    · rw [if_pos h4, bd]
      exact ⟨_, _, _, by dsimp only; rw [gc_p (Or.inl rfl)], rfl, h⟩
    · rw [if_neg h4, if_pos (Classical.byContradiction fun z => q ⟨h4, z⟩), bd]
      exact ⟨_, _, _, by dsimp only; rw [gc_p (Or.inl rfl)], rfl, h⟩
