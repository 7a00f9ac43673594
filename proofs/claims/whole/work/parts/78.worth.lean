section LI
variable {x0 y0 x y : gS} {t L c : Nat}
theorem namedF_sp (h : RD x0 y0 t L c x y) : (∃ x' y' r, fX4_namedFigure x = some (-1, x') ∧ fX11_oldName 0 (y.1 0 43) y = some (r, y') ∧ FL x0 y0 t x' y') ∨ ∃ i, i < qF y ∧ fX4_namedFigure x = some (nI i, x) ∧ fX11_oldName 0 (y.1 0 43) y = some (nI i, y) ∧ x.1 19 2 = 19 := by
  have h9 : qF y < 9 := h.dr.1.1.2
  unfold fX4_namedFigure fX11_oldName
  rw [h.f0, if_pos le0]
  by_cases z : x.1 19 2 = 19
  · rw [if_pos z, gc_p h.k8, h.2.2.2.2.1, (isNm h.kd).1 z, bd]
    dsimp only
    rw [if_neg one0]
    rcases fig_sp h z with ⟨i, i1, i2, i3⟩ | ⟨i1, i2, i3⟩
    · rw [i2, i3, bd, bd]
      dsimp only
      rw [if_neg (show ¬ nI i = -1 from nI_m1 (by omega)), if_pos (show 0 ≤ nI i from (nI_le' (a := 0) (by decide) (by omega)).mpr (by omega))]
      unfold fX11_oldName_38
      rw [h.f0, if_pos le0, i3, bd]
      exact .inr ⟨i, i1, rfl, rfl, z⟩
    · obtain ⟨x', y', r1, r2, r3⟩ := refuse_sp h (v := 5) (a := 5) rfl (by decide)
      rw [i2, i3, bd, bd]
      dsimp only
      rw [if_pos rfl, if_neg (show ¬ (0 : Int32) ≤ -1 by decide), r1, r2, bd, bd]
      unfold fX11_oldName_38
      rw [if_neg r3.n0]
      exact .inl ⟨x', y', _, rfl, rfl, r3⟩
  · obtain ⟨x', y', r1, r2, r3⟩ := refuse_sp h (v := 2) (a := 2) rfl (by decide)
    rw [if_neg z, r1, (isNm h.kd).2 z, bd, bd]
    dsimp only
    rw [if_pos rfl, r2, bd]
    unfold fX11_oldName_38
    rw [if_neg r3.n0]
    exact .inl ⟨x', y', _, rfl, rfl, r3⟩
theorem passT_sp (h : RD x0 y0 t L c x y) : (∃ x' y' r, fX4_passTribe x = some (-1, x') ∧ fX11_oldName 8 (y.1 0 44) y = some (r, y') ∧ FL x0 y0 t x' y') ∨ ∃ i x' y' c', i < qT y ∧ fX4_passTribe x = some (nI i, x') ∧ fX11_oldName 8 (y.1 0 44) y = some (nI i, y) ∧ fX11_token y = some y' ∧ RD x0 y0 t L c' x' y' ∧ c < c' ∧ TX x x' ∧ TY y y' := by
  have h9 : qT y < 6 := h.dr.2.1.1.2
  unfold fX4_passTribe fX11_oldName
  rw [h.f0, if_pos le0]
  by_cases z : x.1 19 2 = 19
  · rw [if_pos z, gc_p h.k8, h.2.2.2.2.1, (isNm h.kd).1 z, bd]
    dsimp only
    rw [if_neg one0]
    rcases tri_sp h z with ⟨i, i1, i2, i3⟩ | ⟨i1, i2, i3⟩
    · obtain ⟨x', y', c', b1, b2, b3, b4, b5, b6⟩ := step_sp h (by rw [z]; decide) (by rw [z]; decide)
      rw [i2, i3, bd, bd]
      dsimp only
      rw [if_neg (show ¬ nI i = -1 from nI_m1 (by omega)), if_pos (show 0 ≤ nI i from (nI_le' (a := 0) (by decide) (by omega)).mpr (by omega))]
      unfold fX11_oldName_38
      rw [h.f0, if_pos le0, i3, bd, b1, bd]
      exact .inr ⟨i, x', y', c', i1, rfl, rfl, b2, b3, b4, b5, b6⟩
    · obtain ⟨x', y', r1, r2, r3⟩ := refuse_sp h (v := 5) (a := 5) rfl (by decide)
      rw [i2, i3, bd, bd]
      dsimp only
      rw [if_pos rfl, if_neg (show ¬ (0 : Int32) ≤ -1 by decide), r1, r2, bd, bd]
      unfold fX11_oldName_38
      rw [if_neg r3.n0]
      exact .inl ⟨x', y', _, rfl, rfl, r3⟩
  · obtain ⟨x', y', r1, r2, r3⟩ := refuse_sp h (v := 2) (a := 2) rfl (by decide)
    rw [if_neg z, r1, (isNm h.kd).2 z, bd, bd]
    dsimp only
    rw [if_pos rfl, r2, bd]
    unfold fX11_oldName_38
    rw [if_neg r3.n0]
    exact .inl ⟨x', y', _, rfl, rfl, r3⟩
theorem w73_F {a b : Int32} (h : FL x0 y0 t x y) : fX11_readWorth_73 a b y = some y := by
  unfold fX11_readWorth_73
  rw [toldN_F h, bd]
  dsimp only
  rw [if_neg h.n1]
theorem w62_F {a b : Int32} (h : FL x0 y0 t x y) : fX11_readWorth_62 a b y = some y := by
  unfold fX11_readWorth_62
  rw [if_neg h.n1, w73_F h]
theorem w26_F {a : Int32} (h : FL x0 y0 t x y) : fX11_readWorth_26 a y = some y := by
  unfold fX11_readWorth_26
  rw [oldName_F h, bd]
  dsimp only
  rw [if_neg h.n1, w62_F h]
theorem l_worth (h : RD x0 y0 t L c x y) (hk : x.1 19 2 = 9) : LN x0 y0 t L c (fX4_readWorth x) ((fX11_readWorth y).bind fun q => fX11_readLine_207 q) := by
  have ht := h.2.2.2.2.2
  obtain ⟨x1, y1, c1, b1, b2, b3, b4, b5, b6⟩ := step_sp h (by rw [hk]; decide) (by rw [hk]; decide)
  unfold fX4_readWorth fX11_readWorth
  rw [b1, b2, bd, bd]
  rcases passT_sp b3 with ⟨x2, y2, r, f1, f2, f3⟩ | ⟨i, x2, y2, c2, f0, f1, f2, f3, f4, f5, f6, f7⟩
  · rw [f1, f2, bd, bd]
    dsimp only
    unfold fX4_readWorth_25
    rw [if_pos rfl, if_pos rfl, if_neg f3.n1, w26_F f3, bd, end_F f3]
    exact .inl ⟨x2, y2, rfl, rfl, f3⟩
  · have h6 : qT y1 < 6 := b3.dr.2.1.1.2
    rw [f1, f2, bd, bd]
    dsimp only
    rw [if_neg (show ¬ nI i = -1 from nI_m1 (by omega)), b3.f0, if_pos rfl, f3, bd]
    unfold fX11_readWorth_26
    have hT2 : qT y2 = qT y1 := f7.qt
    rcases namedF_sp f4 with ⟨x3, y3, r, g1, g2, g3⟩ | ⟨j, j0, g1, g2, g3⟩
    · rw [g1, g2, bd, bd]
      dsimp only
      unfold fX4_readWorth_25
      rw [if_pos rfl, if_neg g3.n1, w62_F g3, bd, end_F g3]
      exact .inl ⟨x3, y3, rfl, rfl, g3⟩
    · have h9 : qF y2 < 9 := f4.dr.1.1.2
      rw [g1, g2, bd, bd]
      dsimp only
      unfold fX4_readWorth_25 fX8_isWorthTold
      obtain ⟨m1, m2, m3, m4, m5, m6, m7⟩ := f4.dr
      have eT : x2.1 t 13 = nI (qT y2) := m2.2.1.trans m2.1.1
      have eF : x2.1 t 12 = nI (qF y2) := m1.2.1.trans m1.1.1
      have iT : inR (nI i) (x2.1 t 13) := by rw [eT]; exact ⟨nI_nn (by omega), fun q => by have := (nI_le' (by omega) (by omega)).mp q; omega⟩
      have iF : inR (nI j) (x2.1 t 12) := by rw [eF]; exact ⟨nI_nn (by omega), fun q => by have := (nI_le' (by omega) (by omega)).mp q; omega⟩
      have ix : nI i * 8 + nI j = nI (8 * i + j) := by rw [show nI i * 8 = nI (i * 8) from pk_mul i 8, nI_ad, Nat.mul_comm]
      have iy : 8 * nI i + nI j = nI (8 * i + j) := by rw [show 8 * nI i = nI (8 * i) from pk_mul 8 i, nI_ad]
      rw [if_neg (show ¬ nI j = -1 from nI_m1 (by omega)), gc_p f4.k8, f4.2.2.2.2.1, (hasTri x2 t _).1 iT, bd, f4.f0, if_pos rfl]
      dsimp only
      rw [if_neg one0, (hasFig x2 t _).1 iF, bd]
      dsimp only
      rw [if_neg one0, ix, iy, gc_p (gI_nI (show 8 * i + j < 40 by omega) (by decide)), gc_p (gI_nI (show 8 * i + j < 40 by omega) (by decide)), nI_clamp (show 8 * i + j < 2 ^ 31 by omega)]
      obtain ⟨w1, -, w3⟩ := m3 i j (by omega) (by omega)
      have w1 := w1 (by omega)
      rcases w3 with w3 | w3
      · rw [w3, ← w1, w3, if_pos rfl, bd, if_pos (show (-1 : Int32) < 0 by decide)]
        dsimp only
        unfold fX11_readWorth_62
        obtain ⟨x4, y4, c4, p1, p2, p3, p4, p5, p6⟩ := step_sp f4 (by rw [g3]; decide) (by rw [g3]; decide)
        rw [if_pos rfl, p1, bd, f4.f0, if_pos rfl, p2, bd]
        unfold fX11_readWorth_73
        rcases passN_sp p3 (u := 0) (v := 99) (a := 0) (b := 99) rfl rfl (by decide) (by decide) with ⟨x5, y5, r, s1, s2, s3⟩ | ⟨x5, y5, c5, n, s1, s2, -, s4, -, -, -, s5, s6, s7, s8⟩
        · rw [s1, s2, bd, bd]
          dsimp only
          rw [if_pos rfl, if_neg s3.n1, bd, end_F s3]
          exact .inl ⟨x5, y5, rfl, rfl, s3⟩
        · have tx : TX x2 x5 := p5.tr s7
          have ty : TY y2 y5 := p6.tr s8
          have eT5 : x5.1 t 13 = nI (qT y2) := by rw [tx.2.1 t 13 (by omega), eT]
          have eF5 : x5.1 t 12 = nI (qF y2) := by rw [tx.2.1 t 12 (by omega), eF]
          have iT : inR (nI i) (x5.1 t 13) := by rw [eT5, ← eT]; exact iT
          have iF : inR (nI j) (x5.1 t 12) := by rw [eF5, ← eF]; exact iF
          rw [s1, s2, bd, bd]
          dsimp only
          unfold fX8_tellWorth
          rw [if_neg (show ¬ nI n = -1 from nI_m1 (by omega)), gc_p s5.k8, s5.2.2.2.2.1, (hasTri x5 t _).1 iT, bd]
          dsimp only
          rw [if_neg one0, (hasFig x5 t _).1 iF, bd]
          dsimp only
          rw [if_neg one0, ix, iy, gc_p (gI_nI (show 8 * i + j < 40 by omega) (by decide)), nI_clamp (show 8 * i + j < 2 ^ 31 by omega), bd, s5.f0, if_pos rfl, gc_p (gI_nI (show 8 * i + j < 40 by omega) (by decide)), bd]
          obtain ⟨m1, m2, m3, m4, m5, m6, m7⟩ := s5.dr
          have hT5 : qT y5 = qT y2 := ty.qt
          have k1 : ∀ a b, ¬ (a = 14 ∧ b = 8 * i + j) → (wi y5 14 (8 * i + j) (nI n)).1 a b = y5.1 a b := fun a b q => by rw [wi_1, if_neg q]
          have g1 : ∀ a b, ¬ (a = t + 1 + 5 ∧ b = 8 * i + j) → (wi x5 (t + 1 + 5) (8 * i + j) (nI n)).1 a b = x5.1 a b := fun a b q => by rw [wi_1, if_neg q]
          have rd : RD x0 y0 t L c5 (wi x5 (t + 1 + 5) (8 * i + j) (nI n)) (wi y5 14 (8 * i + j) (nI n)) := by
            refine RD_mk s5 (FXr_wi (by omega)) (FYr_wi (.inl (by unfold scrY; omega))) (fun k j q => g1 k j (by omega)) (fun j => rfl) (fun k j q => k1 k j (by omega)) rfl ⟨?_, ?_, ?_, ?_, ?_, ?_, ?_⟩
            · exact DRf_ext m1 (k1 0 43 (by omega)) (g1 t 12 (by omega)) (fun i _ => rfl) (fun i _ => rfl)
            · exact DRt_ext m2 (k1 0 44 (by omega)) (g1 t 13 (by omega)) (g1 t 15 (by omega)) (fun k _ => ⟨rfl, rfl, g1 _ k (by omega), g1 _ k (by omega), k1 _ k (by omega), k1 _ k (by omega), k1 _ k (by omega)⟩)
            · intro k f hk hf
              rw [(qw (y := y5) (k := 14) (by decide)).2.2]
              by_cases e : 8 * k + f = 8 * i + j
              · rw [e, wi_1, if_pos ⟨rfl, rfl⟩, wi_1, if_pos ⟨rfl, rfl⟩]
                exact ⟨fun _ => rfl, fun q => absurd q (by omega), .inr (isN.of (by omega) (by decide))⟩
              · rw [g1 _ _ (by omega), k1 _ _ (by omega)]
                exact m3 k f hk hf
            · exact DRm_ext m4 (by rw [(qw (y := y5) (k := 14) (by decide)).2.1]; exact Nat.le_refl _) (k1 0 45 (by omega)) (g1 t 14 (by omega)) (fun m _ k k1' k2' => ⟨g1 _ m (by omega), k1 _ m (by omega)⟩)
            · exact DRc_ext m5 (fun j j1 j2 => k1 0 j (by omega)) (fun j j1 j2 => g1 t j (by omega)) (fun j j1 j2 => g1 3 j (by omega))
            · exact DRs_ext m6 (k1 0 52 (by omega)) (k1 0 20 (by omega)) (k1 0 17 (by omega)) (fun j => ⟨k1 3 j (by omega), k1 4 j (by omega)⟩) (fun j => g1 _ j (by omega)) (fun j => g1 _ j (by omega))
            · exact DRz_ext m7 (fun j q => k1 0 j (by omega)) (fun j j1 j2 => g1 3 j (by omega))
          exact (LN_gB (end_sp rd)).up (by omega)
      · have hv := w3.2
        have nm : ¬ x2.1 (t + 1 + 5) (8 * i + j) = -1 := by rw [w3.1]; exact nI_m1 (by omega)
        have nn : ¬ x2.1 (t + 1 + 5) (8 * i + j) < 0 := by rw [w3.1]; exact nI_nn (by omega)
        obtain ⟨x', y', r1, r2, r3⟩ := l_refuse f4 (v := 3) (a := 3) rfl (by decide)
        rw [← w1, if_neg nm, if_neg nn, bd]
        dsimp only
        rw [if_neg one0, r1, r2, bd, w62_F r3, bd, end_F r3]
        exact .inl ⟨x', y', rfl, rfl, r3⟩
end LI
