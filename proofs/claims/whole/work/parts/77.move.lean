/-! ===== the lines of moves and worths ===== -/
def mvD (M : Int32) (y : gS) : Option gS := (fX11_takes 513021013607 y).bind fun q0_6 => (if q0_6.1 = 0 then (fX11_readMove_84 (-1) M q0_6.2) else ((fX11_figure q0_6.2).bind fun q0_7 => (fX11_readMove_84 q0_7.1 M q0_7.2)))
def mvC (M : Int32) (y : gS) : Option gS := (fX11_told 1751216740 0 9 y).bind fun q0_5 => (gc (gI M 16) (mvD M (wi q0_5.2 19 M.toNatClampNeg q0_5.1)))
def mvB (M : Int32) (y : gS) : Option gS := (fX11_told 112603009869170 0 9 y).bind fun q0_4 => (gc (gI M 16) (mvC M (wi q0_4.2 18 M.toNatClampNeg q0_4.1)))
def mvA (M : Int32) (y : gS) : Option gS := (fX11_figure y).bind fun q0_3 => (gc (gI M 16) (mvB M (wi q0_3.2 17 M.toNatClampNeg q0_3.1)))
def mv0 (M : Int32) (y : gS) : Option gS := (fX11_figure y).bind fun q0_2 => (gc (gI M 16) (mvA M (wi q0_2.2 16 M.toNatClampNeg q0_2.1)))
theorem mv_eq (y : gS) : fX11_readMove y = (fX11_token y).bind fun q => mv0 (q.1 0 45) q := rfl
theorem addMove_eq {t m : Nat} {x : gS} {a1 a2 a3 a4 a5 : Int32} (h : x.1 t 14 = nI m) (hm : m < 16) : fX8_addMove t a1 a2 a3 a4 a5 x = some (wi (wi (wi (wi (wi (wi x (t + 1 + 6) m a1) (t + 1 + 7) m a2) (t + 1 + 8) m a3) (t + 1 + 9) m a4) (t + 1 + 10) m a5) t 14 (nI (m + 1))) := by
  have e6 : ∀ (st : gS) (j : Nat) (v : Int32), (wi st (t + 1 + 6) j v).1 t 14 = st.1 t 14 := fun st j v => by rw [wi_1, if_neg (by omega)]
  have e7 : ∀ (st : gS) (j : Nat) (v : Int32), (wi st (t + 1 + 7) j v).1 t 14 = st.1 t 14 := fun st j v => by rw [wi_1, if_neg (by omega)]
  have e8 : ∀ (st : gS) (j : Nat) (v : Int32), (wi st (t + 1 + 8) j v).1 t 14 = st.1 t 14 := fun st j v => by rw [wi_1, if_neg (by omega)]
  have e9 : ∀ (st : gS) (j : Nat) (v : Int32), (wi st (t + 1 + 9) j v).1 t 14 = st.1 t 14 := fun st j v => by rw [wi_1, if_neg (by omega)]
  have e10 : ∀ (st : gS) (j : Nat) (v : Int32), (wi st (t + 1 + 10) j v).1 t 14 = st.1 t 14 := fun st j v => by rw [wi_1, if_neg (by omega)]
  unfold fX8_addMove
  simp only [e6, e7, e8, e9, e10, h, nI_clamp (show m < 2 ^ 31 by omega), gc_p (gI_nI hm (show 16 ≤ 2 ^ 31 by decide)), nI_s]
  rw [if_neg (show ¬ 16 ≤ nI m from fun q => by have := (nI_le' (a := 16) (by decide) (by omega)).mp q; omega)]
section LI
variable {x0 y0 x y : gS} {t L c m : Nat}
theorem mvE_F {s : Int32} (h : FL x0 y0 t x y) (hm : m < 16) : ∃ y', fX11_readMove_84 s (nI m) y = some y' ∧ FL x0 y0 t x y' := by
  unfold fX11_readMove_84
  have f := FL_wi (k := 20) (j := m) (v := s) h (.inl (by unfold scrY; omega)) (by omega)
  rw [gc_p (gI_nI hm (by decide)), nI_clamp (by omega), if_neg f.n1]
  exact ⟨_, rfl, f⟩
theorem mvD_F (h : FL x0 y0 t x y) (hm : m < 16) : ∃ y', mvD (nI m) y = some y' ∧ FL x0 y0 t x y' := by
  unfold mvD
  rw [takes_F h, bd]
  dsimp only
  rw [if_pos rfl]
  exact mvE_F h hm
theorem mvC_F (h : FL x0 y0 t x y) (hm : m < 16) : ∃ y', mvC (nI m) y = some y' ∧ FL x0 y0 t x y' := by
  unfold mvC
  rw [told_F h, bd]
  dsimp only
  rw [gc_p (gI_nI hm (by decide)), nI_clamp (by omega)]
  exact mvD_F (FL_wi h (.inl (by unfold scrY; omega)) (by omega)) hm
theorem mvB_F (h : FL x0 y0 t x y) (hm : m < 16) : ∃ y', mvB (nI m) y = some y' ∧ FL x0 y0 t x y' := by
  unfold mvB
  rw [told_F h, bd]
  dsimp only
  rw [gc_p (gI_nI hm (by decide)), nI_clamp (by omega)]
  exact mvC_F (FL_wi h (.inl (by unfold scrY; omega)) (by omega)) hm
theorem mvA_F (h : FL x0 y0 t x y) (hm : m < 16) : ∃ y', mvA (nI m) y = some y' ∧ FL x0 y0 t x y' := by
  unfold mvA
  rw [figure_F h, bd]
  dsimp only
  rw [gc_p (gI_nI hm (by decide)), nI_clamp (by omega)]
  exact mvB_F (FL_wi h (.inl (by unfold scrY; omega)) (by omega)) hm
theorem RD_mv {k : Nat} {v : Int32} (h : RD x0 y0 t L c x y) (hk : 16 ≤ k ∧ k ≤ 20) (hm : qM y = m) : RD x0 y0 t L c x (wi y k m v) := by
  have e : ∀ a b, ¬ (a = k ∧ b = m) → (wi y k m v).1 a b = y.1 a b := fun a b q => by rw [wi_1, if_neg q]
  refine RD_y h (FYr_wi (.inl (by unfold scrY; omega))) ⟨fun j q => e _ _ (by omega), fun k' hk' => ⟨e _ _ (by omega), e _ _ (by omega), e _ _ (by omega), rfl, fun f _ => e _ _ (by omega)⟩, fun m' hm' k' k1 k2 => e _ _ (by omega), fun j => ⟨e _ _ (by omega), e _ _ (by omega)⟩, fun _ _ => rfl⟩ (fun a b q => e _ _ (by omega)) rfl
theorem TY.qm {y y' : gS} (h : TY y y') : qM y' = qM y := by
  show vN (y'.1 0 45) = _
  rw [h.1 0 45 (by omega)]
theorem TY.qf {y y' : gS} (h : TY y y') : qF y' = qF y := by
  show vN (y'.1 0 43) = _
  rw [h.1 0 43 (by omega)]
theorem TY.qt {y y' : gS} (h : TY y y') : qT y' = qT y := by
  show vN (y'.1 0 44) = _
  rw [h.1 0 44 (by omega)]
theorem qw {k j : Nat} {v : Int32} (hk : k ≠ 0) : qM (wi y k j v) = qM y ∧ qF (wi y k j v) = qF y ∧ qT (wi y k j v) = qT y := by
  refine ⟨?_, ?_, ?_⟩
  · show vN ((wi y k j v).1 0 45) = _
    rw [wi_1, if_neg (by omega)]
  · show vN ((wi y k j v).1 0 43) = _
    rw [wi_1, if_neg (by omega)]
  · show vN ((wi y k j v).1 0 44) = _
    rw [wi_1, if_neg (by omega)]
/-- the move as it was told is laid down -/
theorem mv_end {i1 i2 f1 h1 : Nat} {w : Int32} (h : RD x0 y0 t L c x y) (hm : qM y = m) (hm16 : m < 16) (a1 : y.1 16 m = nI i1) (a2 : y.1 17 m = nI i2) (a3 : y.1 18 m = nI f1) (a4 : y.1 19 m = nI h1) (b1 : i1 < qF y) (b2 : i2 < qF y) (b3 : f1 ≤ 9) (b4 : h1 ≤ 9) (b5 : w = -1 ∨ isN w (qF y)) :
    LN x0 y0 t L c (fX4_readMove_137 (nI i1) (nI i2) (nI f1) (nI h1) w x) ((fX11_readMove_84 w (nI m) y).bind fun q => fX11_readLine_207 q) := by
  have ht := h.2.2.2.2.2
  obtain ⟨m1, m2, m3, m4, m5, m6, m7⟩ := h.dr
  have q9 : qF y < 9 := m1.1.2
  have en : y.1 0 45 = nI m := by rw [← hm]; exact m4.1.1
  have ex : x.1 t 14 = nI m := m4.2.1.trans en
  unfold fX4_readMove_137 fX11_readMove_84
  rw [gc_p h.k8, h.2.2.2.2.1, addMove_eq ex hm16, bd, gc_p (gI_nI hm16 (by decide)), nI_clamp (by omega), if_pos (show (wi y 20 m w).1 0 2 = 0 by rw [wi_1, if_neg (by omega)]; exact h.f0), bd, show (wi y 20 m w).1 0 45 = nI m by rw [wi_1, if_neg (by omega), en], nI_s]
  generalize hX : wi (wi (wi (wi (wi (wi x (t + 1 + 6) m (nI i1)) (t + 1 + 7) m (nI i2)) (t + 1 + 8) m (nI f1)) (t + 1 + 9) m (nI h1)) (t + 1 + 10) m w) t 14 (nI (m + 1)) = x'
  have g1 : ∀ k j, ¬ (t + 1 + 6 ≤ k ∧ k ≤ t + 1 + 10 ∧ j = m) → ¬ (k = t ∧ j = 14) → x'.1 k j = x.1 k j := fun k j q1 q2 => by
    rw [← hX, wi_1, if_neg (by omega), wi_1, if_neg (by omega), wi_1, if_neg (by omega), wi_1, if_neg (by omega), wi_1, if_neg (by omega), wi_1, if_neg (by omega)]
  have g2 : x'.2 = x.2 := by rw [← hX]; rfl
  have g14 : x'.1 t 14 = nI (m + 1) := by rw [← hX, wi_1, if_pos ⟨rfl, rfl⟩]
  have g6 : x'.1 (t + 1 + 6) m = nI i1 := by rw [← hX, wi_1, if_neg (by omega), wi_1, if_neg (by omega), wi_1, if_neg (by omega), wi_1, if_neg (by omega), wi_1, if_neg (by omega), wi_1, if_pos ⟨rfl, rfl⟩]
  have g7 : x'.1 (t + 1 + 7) m = nI i2 := by rw [← hX, wi_1, if_neg (by omega), wi_1, if_neg (by omega), wi_1, if_neg (by omega), wi_1, if_neg (by omega), wi_1, if_pos ⟨rfl, rfl⟩]
  have g8 : x'.1 (t + 1 + 8) m = nI f1 := by rw [← hX, wi_1, if_neg (by omega), wi_1, if_neg (by omega), wi_1, if_neg (by omega), wi_1, if_pos ⟨rfl, rfl⟩]
  have g9 : x'.1 (t + 1 + 9) m = nI h1 := by rw [← hX, wi_1, if_neg (by omega), wi_1, if_neg (by omega), wi_1, if_pos ⟨rfl, rfl⟩]
  have g10 : x'.1 (t + 1 + 10) m = w := by rw [← hX, wi_1, if_neg (by omega), wi_1, if_pos ⟨rfl, rfl⟩]
  have gx : FXr t x x' := ⟨by rw [g2], fun k j q => g1 k j (by omega) (by omega)⟩
  generalize hY : wi (wi y 20 m w) 0 45 (nI (m + 1)) = y'
  have k1 : ∀ k j, ¬ (k = 20 ∧ j = m) → ¬ (k = 0 ∧ j = 45) → y'.1 k j = y.1 k j := fun k j q1 q2 => by rw [← hY, wi_1, if_neg q2, wi_1, if_neg q1]
  have k2 : y'.2 = y.2 := by rw [← hY]; rfl
  have k3 : y'.1 0 45 = nI (m + 1) := by rw [← hY, wi_1, if_pos ⟨rfl, rfl⟩]
  have k4 : y'.1 20 m = w := by rw [← hY, wi_1, if_neg (by omega), wi_1, if_pos ⟨rfl, rfl⟩]
  have kF : qF y' = qF y := by show vN (y'.1 0 43) = _; rw [k1 0 43 (by omega) (by omega)]
  have kM : qM y' = m + 1 := by show vN (y'.1 0 45) = _; rw [k3, vN_nI (by omega)]
  have rd : RD x0 y0 t L c x' y' := by
    refine RD_mk h gx (fun k j q => k1 k j (by unfold rdY scrY at q; omega) (by unfold rdY scrY at q; omega)) (fun k j q => g1 k j (by omega) (by omega)) (fun j => by rw [g2]) (fun k j q => k1 k j (by omega) (by omega)) (by rw [k2]) ⟨?_, ?_, ?_, ?_, ?_, ?_, ?_⟩
    · exact DRf_ext m1 (k1 0 43 (by omega) (by omega)) (g1 t 12 (by omega) (by omega)) (fun i _ => by rw [g2]) (fun i _ => by rw [k2])
    · exact DRt_ext m2 (k1 0 44 (by omega) (by omega)) (g1 t 13 (by omega) (by omega)) (g1 t 15 (by omega) (by omega)) (fun k _ => ⟨by rw [g2], by rw [k2], g1 _ k (by omega) (by omega), g1 _ k (by omega) (by omega), k1 _ k (by omega) (by omega), k1 _ k (by omega) (by omega), k1 _ k (by omega) (by omega)⟩)
    · exact DRw_ext m3 (k1 0 44 (by omega) (by omega)) (fun j => g1 _ j (by omega) (by omega)) (fun k f _ _ => k1 _ _ (by omega) (by omega))
    · unfold DRm
      rw [kM, k3, g14]
      refine ⟨isN.of (by omega) (by decide), rfl, fun j hj => ?_⟩
      by_cases e : j = m
      · subst e
        unfold DRm1
        rw [g6, g7, g8, g9, g10, kF, k1 16 j (by omega) (by omega), k1 17 j (by omega) (by omega), k1 18 j (by omega) (by omega), k1 19 j (by omega) (by omega), k4, a1, a2, a3, a4]
        exact ⟨rfl, rfl, rfl, rfl, rfl, isN.of b1 (by omega), isN.of b2 (by omega), isN.of (by omega) (by decide), isN.of (by omega) (by decide), b5⟩
      · have p := m4.2.2 j (by omega)
        unfold DRm1 at p ⊢
        rw [kF, g1 _ j (by omega) (by omega), g1 _ j (by omega) (by omega), g1 _ j (by omega) (by omega), g1 _ j (by omega) (by omega), g1 _ j (by omega) (by omega), k1 16 j (by omega) (by omega), k1 17 j (by omega) (by omega), k1 18 j (by omega) (by omega), k1 19 j (by omega) (by omega), k1 20 j (by omega) (by omega)]
        exact p
    · exact DRc_ext m5 (fun j j1 j2 => k1 0 j (by omega) (by omega)) (fun j j1 j2 => g1 t j (by omega) (by omega)) (fun j j1 j2 => g1 3 j (by omega) (by omega))
    · exact DRs_ext m6 (k1 0 52 (by omega) (by omega)) (k1 0 20 (by omega) (by omega)) (k1 0 17 (by omega) (by omega)) (fun j => ⟨k1 3 j (by omega) (by omega), k1 4 j (by omega) (by omega)⟩) (fun j => g1 _ j (by omega) (by omega)) (fun j => g1 _ j (by omega) (by omega))
    · exact DRz_ext m7 (fun j q => k1 0 j (by omega) (by omega)) (fun j j1 j2 => g1 3 j (by omega) (by omega))
  exact LN_gB (end_sp rd)
theorem l_move (h : RD x0 y0 t L c x y) (hk : x.1 19 2 = 5) (hn : qM y < 16) : LN x0 y0 t L c (fX4_readMove x) ((fX11_readMove y).bind fun q => fX11_readLine_207 q) := by
  obtain ⟨x1, y1, c1, b1, b2, b3, b4, b5, b6⟩ := step_sp h (by rw [hk]; decide) (by rw [hk]; decide)
  have en : y.1 0 45 = nI (qM y) := h.dr.2.2.2.1.1.1
  have d2 := h.dr.2.2.2.1.2.1
  have e1 : y1.1 0 45 = nI (qM y) := by rw [b6.1 0 45 (by omega), en]
  rw [mv_eq]
  unfold fX4_readMove
  rw [gc_p h.k8, h.2.2.2.2.1, d2, en, if_pos (show nI (qM y) < 16 from (nI_lt' (b := 16) (by omega) (by decide)).mpr hn), b1, b2, bd, bd, e1]
  have hM1 : qM y1 = qM y := b6.qm
  have gi : gI (nI (qM y)) 16 := gI_nI hn (by decide)
  have cl : (nI (qM y)).toNatClampNeg = qM y := nI_clamp (by omega)
  generalize hm : qM y = m at *
  have fin : ∀ {x' y' : gS} {B : Option gS}, B = some y' → FL x0 y0 t x' y' → LN x0 y0 t L c (some (0, x')) (B.bind fun q => fX11_readLine_207 q) := fun e f => by
    rw [e, bd, end_F f]
    exact .inl ⟨_, _, rfl, rfl, f⟩
  rcases passF_sp b3 with ⟨x2, y2, r, f1, f2, f3⟩ | ⟨x2, y2, c2, i1, f1, f2, f3, f4, f5, f6, f7⟩
  · rw [f1, bd]
    unfold mv0
    rw [f2, bd]
    dsimp only
    rw [if_pos rfl]
    unfold fX4_readMove_43
    rw [if_pos rfl, gc_p gi, cl]
    obtain ⟨y', g1, g2⟩ := mvA_F (FL_wi (k := 16) (j := m) (v := r) f3 (.inl (by unfold scrY; omega)) (by omega)) hn
    exact fin g1 g2
  · rw [f1, bd]
    unfold mv0
    rw [f2, bd]
    dsimp only
    have q9 : qF y1 < 9 := b3.dr.1.1.2
    rw [if_neg (show ¬ nI i1 = -1 from nI_m1 (by omega)), gc_p gi, cl]
    have r2 : RD x0 y0 t L c2 x2 (wi y2 16 m (nI i1)) := RD_mv f4 (by omega) (by rw [f7.qm, hM1])
    have hF2 : qF (wi y2 16 m (nI i1)) = qF y1 := by rw [(qw (by decide)).2.1, f7.qf]
    rcases passF_sp r2 with ⟨x3, y3, r, g1, g2, g3⟩ | ⟨x3, y3, c3, i2, g1, g2, g3, g4, g5, g6, g7⟩
    · rw [g1, bd]
      unfold mvA
      rw [g2, bd]
      dsimp only
      unfold fX4_readMove_43
      rw [if_pos rfl, gc_p gi, cl]
      obtain ⟨y', e1, e2⟩ := mvB_F (FL_wi (k := 17) (j := m) (v := r) g3 (.inl (by unfold scrY; omega)) (by omega)) hn
      exact fin e1 e2
    · rw [g1, bd]
      unfold mvA
      rw [g2, bd]
      dsimp only
      unfold fX4_readMove_43
      rw [hF2] at g3
      rw [if_neg (show ¬ nI i2 = -1 from nI_m1 (by omega)), gc_p gi, cl]
      have hM3 : qM y3 = m := by rw [g7.qm, (qw (by decide)).1, f7.qm, hM1]
      have r3 : RD x0 y0 t L c3 x3 (wi y3 17 m (nI i2)) := RD_mv g4 (by omega) hM3
      have hF3 : qF (wi y3 17 m (nI i2)) = qF y1 := by rw [(qw (by decide)).2.1, g7.qf, hF2]
      have a16 : (wi y3 17 m (nI i2)).1 16 m = nI i1 := by rw [wi_1, if_neg (by omega), g7.1 16 m (by omega), wi_1, if_pos ⟨rfl, rfl⟩]
      have a17 : (wi y3 17 m (nI i2)).1 17 m = nI i2 := by rw [wi_1, if_pos ⟨rfl, rfl⟩]
      have hM3' : qM (wi y3 17 m (nI i2)) = m := by rw [(qw (by decide)).1, hM3]
      generalize wi y3 17 m (nI i2) = y3' at *
      unfold mvB fX11_told
      rcases pass_sp r3 (k := 6) (v := 6) (w := 112603009869170) (by decide) rfl rfl with ⟨x4, y4, p1, p2, p3⟩ | ⟨x4, y4, c4, p1, p2, p3, p4, p5, p6⟩
      · rw [p1, p2, bd, bd, toldN_F p3, bd, bd]
        dsimp only
        rw [if_pos rfl, gc_p gi, cl]
        obtain ⟨y', e1, e2⟩ := mvC_F (FL_wi (k := 18) (j := m) (v := 0) p3 (.inl (by unfold scrY; omega)) (by omega)) hn
        exact fin e1 e2
      · rw [p1, p2, bd, bd]
        dsimp only
        rw [if_neg one0]
        rcases passN_sp p3 (u := 0) (v := 9) (a := 0) (b := 9) rfl rfl (by decide) (by decide) with ⟨x5, y5, r, s1, s2, s3⟩ | ⟨x5, y5, c5, n5, s1, s2, -, s4, -, -, -, s5, s6, s7, s8⟩
        · rw [s1, s2, bd, bd, bd]
          dsimp only
          rw [if_pos rfl, gc_p gi, cl]
          obtain ⟨y', e1, e2⟩ := mvC_F (FL_wi (k := 18) (j := m) (v := r) s3 (.inl (by unfold scrY; omega)) (by omega)) hn
          exact fin e1 e2
        · rw [s1, s2, bd, bd, bd]
          dsimp only
          rw [if_neg (show ¬ nI n5 = -1 from nI_m1 (by omega)), gc_p gi, cl]
          have ty : TY y3' y5 := p6.tr s8
          have r5 : RD x0 y0 t L c5 x5 (wi y5 18 m (nI n5)) := RD_mv s5 (by omega) (by rw [ty.qm, hM3'])
          have a16 : (wi y5 18 m (nI n5)).1 16 m = nI i1 := by rw [wi_1, if_neg (by omega), ty.1 16 m (by omega), a16]
          have a17 : (wi y5 18 m (nI n5)).1 17 m = nI i2 := by rw [wi_1, if_neg (by omega), ty.1 17 m (by omega), a17]
          have a18 : (wi y5 18 m (nI n5)).1 18 m = nI n5 := by rw [wi_1, if_pos ⟨rfl, rfl⟩]
          have hM5 : qM (wi y5 18 m (nI n5)) = m := by rw [(qw (by decide)).1, ty.qm, hM3']
          have hF5 : qF (wi y5 18 m (nI n5)) = qF y1 := by rw [(qw (by decide)).2.1, ty.qf, hF3]
          generalize wi y5 18 m (nI n5) = y5' at *
          unfold mvC fX11_told
          rcases pass_sp r5 (k := 7) (v := 7) (w := 1751216740) (by decide) rfl rfl with ⟨x6, y6, p1, p2, p3⟩ | ⟨x6, y6, c6, p1, p2, p3, p4, p5, p6⟩
          · rw [p1, p2, bd, bd, toldN_F p3, bd, bd]
            dsimp only
            rw [if_pos rfl, gc_p gi, cl]
            obtain ⟨y', e1, e2⟩ := mvD_F (FL_wi (k := 19) (j := m) (v := 0) p3 (.inl (by unfold scrY; omega)) (by omega)) hn
            exact fin e1 e2
          · rw [p1, p2, bd, bd]
            dsimp only
            rw [if_neg one0]
            rcases passN_sp p3 (u := 0) (v := 9) (a := 0) (b := 9) rfl rfl (by decide) (by decide) with ⟨x7, y7, r, s1, s2, s3⟩ | ⟨x7, y7, c7, n7, s1, s2, -, t4, -, -, -, s5, s6, s7, s8⟩
            · rw [s1, s2, bd, bd, bd]
              dsimp only
              rw [if_pos rfl, gc_p gi, cl]
              obtain ⟨y', e1, e2⟩ := mvD_F (FL_wi (k := 19) (j := m) (v := r) s3 (.inl (by unfold scrY; omega)) (by omega)) hn
              exact fin e1 e2
            · rw [s1, s2, bd, bd, bd]
              dsimp only
              rw [if_neg (show ¬ nI n7 = -1 from nI_m1 (by omega)), gc_p gi, cl]
              have ty : TY y5' y7 := p6.tr s8
              have r7 : RD x0 y0 t L c7 x7 (wi y7 19 m (nI n7)) := RD_mv s5 (by omega) (by rw [ty.qm, hM5])
              have a16 : (wi y7 19 m (nI n7)).1 16 m = nI i1 := by rw [wi_1, if_neg (by omega), ty.1 16 m (by omega), a16]
              have a17 : (wi y7 19 m (nI n7)).1 17 m = nI i2 := by rw [wi_1, if_neg (by omega), ty.1 17 m (by omega), a17]
              have a18 : (wi y7 19 m (nI n7)).1 18 m = nI n5 := by rw [wi_1, if_neg (by omega), ty.1 18 m (by omega), a18]
              have a19 : (wi y7 19 m (nI n7)).1 19 m = nI n7 := by rw [wi_1, if_pos ⟨rfl, rfl⟩]
              have hM7 : qM (wi y7 19 m (nI n7)) = m := by rw [(qw (by decide)).1, ty.qm, hM5]
              have hF7 : qF (wi y7 19 m (nI n7)) = qF y1 := by rw [(qw (by decide)).2.1, ty.qf, hF5]
              generalize wi y7 19 m (nI n7) = y7' at *
              unfold mvD
              rcases takes_sp r7 (k := 8) (w := 513021013607) (by decide) rfl with ⟨u1, u2⟩ | ⟨u1, x8, y8, c8, u2, u3, u4, u5, u6, u7⟩
              · have u1 : ¬ x7.1 19 2 = 8 := u1
                rw [if_neg u1, u2, bd]
                dsimp only
                rw [if_pos rfl]
                exact (mv_end r7 hM7 hn a16 a17 a18 a19 (by omega) (by omega) s4 t4 (.inl rfl)).up (by omega)
              · have u1 : x7.1 19 2 = 8 := u1
                rw [if_pos u1, u2, u3, bd, bd]
                dsimp only
                rw [if_neg one0]
                rcases passF_sp u4 with ⟨x9, y9, r, v1, v2, v3⟩ | ⟨x9, y9, c9, i3, v1, v2, v3, v4, v5, v6, v7⟩
                · rw [v1, v2, bd, bd]
                  dsimp only
                  rw [if_pos rfl]
                  obtain ⟨y', e1, e2⟩ := mvE_F (s := r) v3 hn
                  exact fin e1 e2
                · rw [v1, v2, bd, bd]
                  dsimp only
                  rw [u7.qf, hF7] at v3
                  rw [if_neg (show ¬ nI i3 = -1 from nI_m1 (by omega))]
                  have ty : TY y7' y9 := u7.tr v7
                  exact (mv_end v4 (by rw [ty.qm, hM7]) hn (by rw [ty.1 16 m (by omega), a16]) (by rw [ty.1 17 m (by omega), a17]) (by rw [ty.1 18 m (by omega), a18]) (by rw [ty.1 19 m (by omega), a19]) (by rw [ty.qf, hF7]; omega) (by rw [ty.qf, hF7]; omega) s4 t4 (.inr (by rw [ty.qf, hF7]; exact isN.of v3 (by omega)))).up (by omega)
end LI
