/-! ===== what is looked up: moves, worths ===== -/
theorem nle {i n : Nat} (h : i < n) (hn : n < 2 ^ 31) : ¬ nI n ≤ nI i := by rw [nI_le' hn (by omega)]; omega
theorem yle (n : Nat) : nI n ≤ nI n := Int32.le_iff_toInt_le.mpr (Int.le_refl _)
theorem zero0' : b2 false = 0 := rfl
theorem one0' : ¬ b2 true = 0 := by decide
section LK
variable {x y : gS} {t : Nat}
theorem eF (h : WFy y) : y.1 0 48 = nI (nF y) := h.1.1.1
theorem eT (h : WFy y) : y.1 0 49 = nI (nT y) := h.1.2.1.1
theorem eM (h : WFy y) : y.1 0 50 = nI (nM y) := h.1.2.2.1.1
theorem xF (h : WFy y) (hx : XT x t y) : x.1 t 12 = nI (nF y) := hx.1.1.trans (eF h)
theorem xT (h : WFy y) (hx : XT x t y) : x.1 t 13 = nI (nT y) := hx.1.2.1.trans (eT h)
theorem xM (h : WFy y) (hx : XT x t y) : x.1 t 14 = nI (nM y) := hx.1.2.2.1.trans (eM h)
theorem inT (h : WFy y) {a : Int32} (q : inR a (y.1 0 49)) : ∃ k, k < nT y ∧ a = nI k := by
  have := nT6 h
  rw [eT h] at q
  exact inR_nI (by omega) q
theorem inF (h : WFy y) {a : Int32} (q : inR a (y.1 0 48)) : ∃ k, k < nF y ∧ a = nI k := by
  have := nF9 h
  rw [eF h] at q
  exact inR_nI (by omega) q
theorem inM (h : WFy y) {a : Int32} (q : inR a (y.1 0 50)) : ∃ k, k < nM y ∧ a = nI k := by
  have := nM17 h
  rw [eM h] at q
  exact inR_nI (by omega) q
theorem Xable (h : WFy y) (hx : XT x t y) {k : Nat} (hk : k < nT y) : x.1 (t + 1 + 4) k = nI (bS (cnb y k) (nM y)) := by
  obtain ⟨-, -, -, b4, b5, -⟩ := hx.2.2.2 k hk
  rw [b4.1, bS_of b5]
theorem XmovesFrom (h : WFy y) (hx : XT x t y) (a : Int32) : fX8_movesFrom t a x = some (nI (bS (fun m => decide (y.1 21 m = a)) (nM y)), x) := by
  unfold fX8_movesFrom
  have hM := nM17 h
  obtain ⟨s, m, e, hp⟩ := lp (fun n (s : Int32 × Int32 × gS) => hX8_movesFrom_4 t a n s.1 s.2.1 s.2.2) (nM y) (fun i s => s = (nI (bS (fun m => decide (y.1 21 m = a)) i), nI i, x)) (by
    intro n i s hi hs
    subst hs
    refine ⟨_, ?_, rfl⟩
    show fX8_movesFrom_4 t a (hX8_movesFrom_4 t a n) _ (nI i) x = _
    unfold fX8_movesFrom_4
    rw [xM h hx, if_neg (nle hi (by omega)), gc_p (gI_nI (by omega) (by decide)), nI_clamp (by omega), (hx.2.2.1 i hi).1, nI_s]
    unfold gl
    by_cases hq : y.1 21 i = a
    · rw [if_pos hq, bS_s1 (p := fun m => decide (y.1 21 m = a)) (by simp [hq]) (by omega)]
    · rw [if_neg hq, bS_s0 (p := fun m => decide (y.1 21 m = a)) (by simp [hq])]) 0 (0, 0, x) FU (by omega) rfl (FU_gt (by omega))
  subst hp
  refine e.trans ?_
  show fX8_movesFrom_4 t a _ _ _ x = _
  unfold fX8_movesFrom_4
  rw [xM h hx, if_pos (yle _)]
theorem Yt0 : fX11_truth 0 y = some (0, y) := rfl
theorem Yt1 : fX11_truth 1 y = some (1, y) := rfl
theorem Ytruth (b : Bool) : fX11_truth (b2 b) y = some (b2 b, y) := by cases b <;> rfl
theorem YmovesOf (h : WFy y) {k : Nat} (hk : k < nT y) (a : Int32) : fX11_movesOf (nI k) a y = some (nI (bS (fun m => cnb y k m && (decide (a = -2) || decide (y.1 21 m = a))) (nM y)), y) := by
  unfold fX11_movesOf
  have hM := nM17 h
  obtain ⟨s, m, e, hp⟩ := lp (fun n (s : Int32 × Int32 × gS) => hX11_movesOf_5 (nI k) a n s.1 s.2.1 s.2.2) (nM y) (fun i s => s = (nI (bS (fun m => cnb y k m && (decide (a = -2) || decide (y.1 21 m = a))) i), nI i, y)) (by
    intro n i s hi hs
    subst hs
    refine ⟨_, ?_, rfl⟩
    show fX11_movesOf_5 (nI k) a (hX11_movesOf_5 (nI k) a n) _ (nI i) y = _
    unfold fX11_movesOf_5 fX11_movesOf_46 fX11_movesOf_42 fX11_movesOf_47
    rw [eM h, if_neg (nle hi (by omega)), Ycan h hk hi, bd, gc_p (gI_nI (by omega) (by decide)), nI_clamp (by omega), Yt0, Yt1, bd, bd, nI_s, ← bS_s2 (show i < 31 by omega)]
    unfold gl
    dsimp only
    cases hc : cnb y k i
    · rw [if_pos zero0']; rfl
    · rw [if_neg one0']
      by_cases h2 : a = -2
      · rw [if_pos h2]; simp [h2, b2]
      · rw [if_neg h2]
        by_cases h3 : y.1 21 i = a
        · rw [if_pos h3]; simp [h3, b2]
        · rw [if_neg h3]; simp [h2, h3, b2]) 0 (0, 0, y) FU (by omega) rfl (FU_gt (by omega))
  subst hp
  refine e.trans ?_
  show fX11_movesOf_5 (nI k) a _ _ _ y = _
  unfold fX11_movesOf_5
  rw [eM h, if_pos (yle _)]
theorem XtribesFor (h : WFy y) (hx : XT x t y) {m : Nat} (hm : m < nM y) : fX8_tribesFor t (nI m) x = some (nI (bS (fun k => cnb y k m) (nT y)), x) := by
  unfold fX8_tribesFor
  have hM := nT6 h
  obtain ⟨s, _, e, hp⟩ := lp (fun n (s : Int32 × Int32 × gS) => hX8_tribesFor_4 t (nI m) n s.1 s.2.1 s.2.2) (nT y) (fun i s => s = (nI (bS (fun k => cnb y k m) i), nI i, x)) (by
    intro n i s hi hs
    subst hs
    refine ⟨_, ?_, rfl⟩
    show fX8_tribesFor_4 t (nI m) (hX8_tribesFor_4 t (nI m) n) _ (nI i) x = _
    unfold fX8_tribesFor_4
    rw [xT h hx, if_neg (nle hi (by omega)), Xcan h hx hi hm, bd]
    unfold gl
    dsimp only
    rw [nI_s]
    cases hc : cnb y i m
    · rw [if_pos zero0', bS_s0 (p := fun k => cnb y k m) hc]
    · rw [if_neg one0', bS_s1 (p := fun k => cnb y k m) hc (by omega)]) 0 (0, 0, x) FU (by omega) rfl (FU_gt (by omega))
  subst hp
  refine e.trans ?_
  show fX8_tribesFor_4 t (nI m) _ _ _ x = _
  unfold fX8_tribesFor_4
  rw [xT h hx, if_pos (yle _)]
theorem YwhoCan (h : WFy y) {m : Nat} (hm : m < nM y) : fX11_whoCan (nI m) y = some (nI (bS (fun k => cnb y k m) (nT y)), y) := by
  unfold fX11_whoCan
  have hM := nT6 h
  obtain ⟨s, _, e, hp⟩ := lp (fun n (s : Int32 × Int32 × gS) => hX11_whoCan_4 (nI m) n s.1 s.2.1 s.2.2) (nT y) (fun i s => s = (nI (bS (fun k => cnb y k m) i), nI i, y)) (by
    intro n i s hi hs
    subst hs
    refine ⟨_, ?_, rfl⟩
    show fX11_whoCan_4 (nI m) (hX11_whoCan_4 (nI m) n) _ (nI i) y = _
    unfold fX11_whoCan_4
    rw [eT h, if_neg (nle hi (by omega)), Ycan h hi hm, bd]
    dsimp only
    rw [Ytruth, bd]
    unfold gl
    dsimp only
    rw [nI_s, bS_s2 (p := fun k => cnb y k m) (by omega)]) 0 (0, 0, y) FU (by omega) rfl (FU_gt (by omega))
  subst hp
  refine e.trans ?_
  show fX11_whoCan_4 (nI m) _ _ _ y = _
  unfold fX11_whoCan_4
  rw [eT h, if_pos (yle _)]
theorem Xworth (h : WFy y) (hx : XT x t y) {k f : Nat} (hk : k < nT y) (hf : f < nF y) : fX8_worthOf t (nI k) (nI f) x = some (nI (wo y k f), x) := by
  have h1 := nT6 h
  have h2 := nF9 h
  unfold fX8_worthOf fX8_isWorthTold
  have e8 : nI k * 8 + nI f = nI (8 * k + f) := by
    rw [show nI k * 8 = nI (k * 8) from pk_mul k 8, nI_ad, Nat.mul_comm]
  rw [Xtri h hx.1 hk, bd]
  dsimp only
  rw [if_neg one0, Xfig h hx.1 hf, bd]
  dsimp only
  rw [if_neg one0, e8, gc_p (gI_nI (by omega) (by decide)), nI_clamp (by omega)]
  have hw := ((h.2.2 k hk).2.2.2 f (by omega)).1
  rcases (hx.2.2.2 k hk).2.2.2.2.2 f hf with q | ⟨q, q2⟩
  · rw [q, if_neg (by rw [hw]; exact nI_m1 (by have := ((h.2.2 k hk).2.2.2 f (by omega)).2; omega)), bd]
    dsimp only
    rw [if_neg one0, gc_p (gI_nI (by omega) (by decide)), q, hw]
  · rw [if_pos q, bd, if_pos rfl]
    show _ = some (nI (vN (y.1 15 (8 * k + f))), x)
    rw [← hw, q2]
theorem Xworth0 (x : gS) (t : Nat) (a b : Int32) (hb : b < 0) : fX8_worthOf t a b x = some (0, x) := by
  have hq : fX8_hasFigure t b x = some (0, x) := (hasFig x t b).2 (fun q => q.1 hb)
  unfold fX8_worthOf fX8_isWorthTold
  rcases inR_dec a (x.1 t 13) with q | q
  · rw [(hasTri x t a).1 q, bd]
    dsimp only
    rw [if_neg one0, hq, bd, if_pos rfl, bd, if_pos rfl]
  · rw [(hasTri x t a).2 q, bd, if_pos rfl, bd, if_pos rfl]
theorem Yworth (h : WFy y) {k f : Nat} (hk : k < nT y) (hf : f < nF y) : fX11_worthOf (nI k) (nI f) y = some (nI (wo y k f), y) := by
  have h1 := nT6 h
  have h2 := nF9 h
  unfold fX11_worthOf
  have e8 : 8 * nI k + nI f = nI (8 * k + f) := by
    rw [show 8 * nI k = nI (8 * k) from pk_mul 8 k, nI_ad]
  rw [if_pos (show 0 ≤ nI f from (nI_le' (a := 0) (by omega) (by omega)).mpr (by omega)), e8, gc_p (gI_nI (by omega) (by decide)), nI_clamp (by omega), ((h.2.2 k hk).2.2.2 f (by omega)).1]
theorem Yworth0 (y : gS) (a : Int32) : fX11_worthOf a (-1) y = some (0, y) := by
  unfold fX11_worthOf
  rw [if_neg (by decide)]
theorem wo100 (h : WFy y) {k f : Nat} (hk : k < nT y) (hf : f < 8) : wo y k f < 100 := ((h.2.2 k hk).2.2.2 f hf).2
end LK
theorem s_worth (a1 a2 : Int32) : sOK Inv (fX10_worth a1 a2) (fX11_worth a1 a2) := by
  intro x y h
  unfold fX10_worth fX11_worth
  rw [gc_p h.told8]
  rcases inR_dec a1 (y.1 0 49) with q | q
  · rw [(isTri h.wf a1).1 q, (hasTri x _ a1).1 (by rw [h.xt.1.2.1]; exact q), bd, bd]
    dsimp only
    rw [if_neg one0, if_neg one0, gc_p h.told8]
    rcases inR_dec a2 (y.1 0 48) with q2 | q2
    · rw [(isFig h.wf a2).1 q2, (hasFig x _ a2).1 (by rw [h.xt.1.1]; exact q2), bd, bd]
      dsimp only
      obtain ⟨k, hk, rfl⟩ := inT h.wf q
      obtain ⟨f, hf, rfl⟩ := inF h.wf q2
      rw [if_neg one0, if_neg one0, gc_p h.told8, Xworth h.wf h.xt hk hf, Yworth h.wf hk hf]
      exact ⟨_, _, _, rfl, rfl, h⟩
    · rw [(isFig h.wf a2).2 q2, (hasFig x _ a2).2 (by rw [h.xt.1.1]; exact q2), bd, bd]
      exact ⟨_, _, _, rfl, rfl, h⟩
  · rw [(isTri h.wf a1).2 q, (hasTri x _ a1).2 (by rw [h.xt.1.2.1]; exact q), bd, bd]
    exact ⟨_, _, _, rfl, rfl, h⟩
theorem bS_and (p q : Nat → Bool) (n : Nat) : nI (bS p n) &&& nI (bS q n) = nI (bS (fun i => p i && q i) n) := by
  rw [b_and]
  congr 1
  apply bS_of
  intro i
  rw [Nat.testBit_and, bS_t, bS_t]
  cases decide (i < n) <;> simp
theorem s_both (a1 a2 : Int32) : sOK Inv (fX10_both a1 a2) (fX11_both a1 a2) := by
  intro x y h
  unfold fX10_both fX11_both
  rw [gc_p h.told8]
  rcases inR_dec a1 (y.1 0 49) with q | q
  · rw [(isTri h.wf a1).1 q, (hasTri x _ a1).1 (by rw [h.xt.1.2.1]; exact q), bd, bd]
    dsimp only
    rw [if_neg one0, if_neg one0, gc_p h.told8]
    rcases inR_dec a2 (y.1 0 49) with q2 | q2
    · rw [(isTri h.wf a2).1 q2, (hasTri x _ a2).1 (by rw [h.xt.1.2.1]; exact q2), bd, bd]
      dsimp only
      obtain ⟨k, hk, rfl⟩ := inT h.wf q
      obtain ⟨f, hf, rfl⟩ := inT h.wf q2
      have h6 := nT6 h.wf
      rw [if_neg one0, if_neg one0, gc_p h.told8, gc_p (gI_nI (by omega) (by decide)), gc_p h.told8, gc_p (gI_nI (by omega) (by decide)), nI_clamp (by omega), nI_clamp (by omega), Xable h.wf h.xt hk, Xable h.wf h.xt hf, YmovesOf h.wf hk, bd]
      dsimp only
      rw [YmovesOf h.wf hf, bd]
      refine ⟨_, _, _, rfl, ?_, h⟩
      simp
    · rw [(isTri h.wf a2).2 q2, (hasTri x _ a2).2 (by rw [h.xt.1.2.1]; exact q2), bd, bd]
      exact ⟨_, _, _, rfl, rfl, h⟩
  · rw [(isTri h.wf a1).2 q, (hasTri x _ a1).2 (by rw [h.xt.1.2.1]; exact q), bd, bd]
    exact ⟨_, _, _, rfl, rfl, h⟩
theorem s_move (a1 a2 : Int32) : sOK Inv (fX10_move a1 a2) (fX11_move a1 a2) := by
  intro x y h
  unfold fX10_move fX11_move
  rw [gc_p h.told8]
  rcases inR_dec a1 (y.1 0 50) with q | q
  · rw [(isMov h.wf a1).1 q, (hasMov x _ a1).1 (by rw [h.xt.1.2.2.1]; exact q), bd, bd]
    dsimp only
    obtain ⟨m, hm, rfl⟩ := inM h.wf q
    have h17 := nM17 h.wf
    obtain ⟨e1, e2, e3, e4, e5⟩ := h.xt.2.2.1 m hm
    simp only [if_neg one0, gc_p h.told8, gc_p (gI_nI (show m < 16 by omega) (by decide)), nI_clamp (show m < 2 ^ 31 by omega), XtribesFor h.wf h.xt hm, YwhoCan h.wf hm, bd]
    rw [e1, e2, e3, e4, e5]
    repeat (refine sp_if (fun _ => ⟨_, _, _, rfl, rfl, h⟩) (fun _ => ?_))
    exact ⟨_, _, _, rfl, rfl, h⟩
  · rw [(isMov h.wf a1).2 q, (hasMov x _ a1).2 (by rw [h.xt.1.2.2.1]; exact q), bd, bd]
    exact ⟨_, _, _, rfl, rfl, h⟩
theorem s_tribe (a1 a2 : Int32) : sOK Inv (fX10_tribe a1 a2) (fX11_tribe a1 a2) := by
  intro x y h
  unfold fX10_tribe fX11_tribe
  rw [gc_p h.told8]
  rcases inR_dec a1 (y.1 0 49) with q | q
  · rw [(isTri h.wf a1).1 q, (hasTri x _ a1).1 (by rw [h.xt.1.2.1]; exact q), bd, bd]
    dsimp only
    obtain ⟨k, hk, rfl⟩ := inT h.wf q
    have h6 := nT6 h.wf
    obtain ⟨e1, e2, e3, -⟩ := h.xt.2.2.2 k hk
    obtain ⟨r0, r1, -, -, -, -, -, -, r9, r10⟩ := h.now.2
    have hmir : ((x.1 (x.2.2 0 9) 15) >>> (nI k &&& 31)) &&& 1 = b2 (decide (y.1 27 k = 1)) := by
      have hN := h.xt.2.1
      have := hN.2
      rw [hN.1, b_bit (by omega) (by omega), e3]
    have htr : fX11_truth (y.1 27 k) y = some (b2 (decide (y.1 27 k = 1)), y) := by
      rcases (h.wf.2.2 k hk).2.2.1 with q | q <;> rw [q] <;> rfl
    have hmf : nI (bS (cnb y k) (nM y)) &&& nI (bS (fun m => decide (y.1 21 m = y.1 28 0)) (nM y)) = nI (bS (fun m => cnb y k m && (decide (y.1 28 0 = -2) || decide (y.1 21 m = y.1 28 0))) (nM y)) := by
      rw [bS_and, bS_eq]
      intro i hi
      have n2 : ¬ y.1 28 0 = -2 := by
        rcases h.now.1.1 with q | q
        · rw [q.2]; decide
        · intro z
          have := q.toInt (by have := nF9 h.wf; omega)
          rw [z] at this
          have z2 : (-2 : Int) = _ := this
          omega
      simp [n2]
    simp only [if_neg one0, gc_p h.told8, gc_p (gI_nI (show k < 5 by omega) (by decide)), nI_clamp (show k < 2 ^ 31 by omega), hmir, htr, bd, show 4 + nI k = nI (4 + k) from nI_ad 4 k, show 9 + nI k = nI (9 + k) from nI_ad 9 k, gc_p (gI_nI (show 4 + k < 18 by omega) (by decide)), gc_p (gI_nI (show 9 + k < 18 by omega) (by decide)), nI_clamp (show 4 + k < 2 ^ 31 by omega), nI_clamp (show 9 + k < 2 ^ 31 by omega), YmovesOf h.wf hk, XmovesFrom h.wf h.xt, Xable h.wf h.xt hk, gc_p (show gI 0 18 by decide), gc_p (show gI 1 18 by decide), show (0 : Int32).toNatClampNeg = 0 from rfl, show (1 : Int32).toNatClampNeg = 1 from rfl]
    rw [e1, e2, r0, r1, show x.1 21 k = y.1 28 (4 + k) from r9 k (by omega), show x.1 22 k = y.1 28 (9 + k) from r10 k (by omega), hmf]
    repeat (refine sp_if (fun _ => ⟨_, _, _, rfl, rfl, h⟩) (fun _ => ?_))
    refine sp_if (fun _ => ⟨_, _, _, rfl, by simp, h⟩) (fun _ => ?_)
    refine sp_if (fun _ => ?_) (fun _ => ⟨_, _, _, rfl, rfl, h⟩)
    exact sp_if (fun _ => ⟨_, _, _, rfl, rfl, h⟩) (fun _ => ⟨_, _, _, rfl, rfl, h⟩)
  · rw [(isTri h.wf a1).2 q, (hasTri x _ a1).2 (by rw [h.xt.1.2.1]; exact q), bd, bd]
    exact ⟨_, _, _, rfl, rfl, h⟩
