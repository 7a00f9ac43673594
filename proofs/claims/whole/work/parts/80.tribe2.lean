section LI
variable {x0 y0 x y : gS} {t L c n : Nat}
/-- the tribe as it was told is laid down -/
theorem tr_end {w : Int64} {s b m : Nat} {M : Int32} (hn : n < 5) (h : RD x0 y0 t L c x y) (hT : TN n w s b y) (hs : s ≤ 9) (hb : b < 1024) (hm : M = nI m) (hm2 : m < 2) :
    LN x0 y0 t L c (fX4_readTribe_152 w (nI s) (nI b) M x) ((hX11_readTribe_140 FU (nI n) 0 (wi y 26 n M)).bind fun q => fX11_readLine_207 q) := by
  have ht := h.2.2.2.2.2
  obtain ⟨m1, m2, m3, m4, m5, m6, m7⟩ := h.dr
  obtain ⟨hT1, hT2, hT3, hT4, hw⟩ := hT
  have en : y.1 0 44 = nI n := by rw [← hT1]; exact m2.1.1
  have ex : x.1 t 13 = nI n := m2.2.1.trans en
  have eM : x.1 t 15 = nI (vN (x.1 t 15)) := m2.2.2.1.1
  have hμ : vN (x.1 t 15) < 2 ^ n := by have := m2.2.2.1.2; rwa [hT1] at this
  have h32 : 2 ^ n ≤ 2 ^ 4 := Nat.pow_le_pow_right (by decide) (by omega)
  unfold fX4_readTribe_152
  rw [gc_p h.k8, h.2.2.2.2.1, addTribe_eq ex hn, bd]
  obtain ⟨y', e1, e2, e3⟩ := worth0 hn (wi y 26 n M)
  rw [e1, bd]
  have e3 : ∀ k j, y'.1 k j = if k = 0 ∧ j = 44 then nI (n + 1) else if k = 14 ∧ 8 * n ≤ j ∧ j < 8 * n + 8 then -1 else if k = 26 ∧ j = n then M else y.1 k j := fun k j => by
    rw [e3, wi_1, wi_1, if_neg (show ¬ ((0 : Nat) = 26 ∧ 44 = n) by omega), en, nI_s]
  have e2 : y'.2 = y.2 := e2
  -- the mirrors as bits
  have hbits : ∃ μ, μ < 2 ^ (n + 1) ∧ x.1 t 15 ||| (if M = 0 then (0 : Int32) else 1 <<< (nI n &&& 31)) = nI μ ∧ (∀ k, k < n → μ.testBit k = (vN (x.1 t 15)).testBit k) ∧ μ.testBit n = decide (M = 1) := by
    have hp : 2 ^ (n + 1) = 2 * 2 ^ n := by rw [Nat.pow_succ, Nat.mul_comm]
    by_cases z : m = 0
    · have zM : M = 0 := by rw [hm, z]; rfl
      refine ⟨vN (x.1 t 15), by omega, ?_, fun _ _ => rfl, ?_⟩
      · rw [if_pos zM, eM, vN_nI (by omega)]
        exact (b_or _ 0).trans (by rw [Nat.or_zero])
      · rw [zM, Nat.testBit_lt_two_pow hμ]; rfl
    · have z1 : m = 1 := by omega
      have zM : M = 1 := by rw [hm, z1]; rfl
      refine ⟨vN (x.1 t 15) ||| 2 ^ n, Nat.or_lt_two_pow (by omega) (by omega), ?_, fun k hk => ?_, ?_⟩
      · rw [if_neg (by rw [zM]; decide), b_1 (by omega), eM, vN_nI (by omega), b_or]
      · rw [Nat.testBit_or, Nat.testBit_two_pow]
        have : decide (n = k) = false := by simp; omega
        rw [this, Bool.or_false]
      · rw [Nat.testBit_or, Nat.testBit_two_pow, zM]
        simp
  obtain ⟨μ, u1, u2, u3, u4⟩ := hbits
  rw [u2]
  have hp : 2 ^ (n + 1) = 2 * 2 ^ n := by rw [Nat.pow_succ, Nat.mul_comm]
  generalize hX : wi (wi (wi (wi (wl x (t + 1 + 1) n w) (t + 1 + 2) n (nI s)) (t + 1 + 3) n (nI b)) t 15 (nI μ)) t 13 (nI (n + 1)) = x'
  have g1 : ∀ k j, ¬ ((k = t + 1 + 2 ∨ k = t + 1 + 3) ∧ j = n) → ¬ (k = t ∧ (j = 13 ∨ j = 15)) → x'.1 k j = x.1 k j := fun k j q1 q2 => by
    rw [← hX, wi_1, if_neg (by omega), wi_1, if_neg (by omega), wi_1, if_neg (by omega), wi_1, if_neg (by omega), wl_1]
  have g2 : ∀ k j, x'.2.1 k j = if k = t + 1 + 1 ∧ j = n then w else x.2.1 k j := fun k j => by
    rw [← hX, wi_2, wi_2, wi_2, wi_2, wl_3]
  have g22 : x'.2.2 = x.2.2 := by rw [← hX]; rfl
  have g13 : x'.1 t 13 = nI (n + 1) := by rw [← hX, wi_1, if_pos ⟨rfl, rfl⟩]
  have g15 : x'.1 t 15 = nI μ := by rw [← hX, wi_1, if_neg (by omega), wi_1, if_pos ⟨rfl, rfl⟩]
  have gs : x'.1 (t + 1 + 2) n = nI s := by rw [← hX, wi_1, if_neg (by omega), wi_1, if_neg (by omega), wi_1, if_neg (by omega), wi_1, if_pos ⟨rfl, rfl⟩]
  have gb : x'.1 (t + 1 + 3) n = nI b := by rw [← hX, wi_1, if_neg (by omega), wi_1, if_neg (by omega), wi_1, if_pos ⟨rfl, rfl⟩]
  have k1 : ∀ k j, ¬ (k = 0 ∧ j = 44) → ¬ (k = 14 ∧ 8 * n ≤ j ∧ j < 8 * n + 8) → ¬ (k = 26 ∧ j = n) → y'.1 k j = y.1 k j := fun k j q1 q2 q3 => by rw [e3, if_neg q1, if_neg q2, if_neg q3]
  have k44 : y'.1 0 44 = nI (n + 1) := by rw [e3, if_pos ⟨rfl, rfl⟩]
  have kT : qT y' = n + 1 := by show vN (y'.1 0 44) = _; rw [k44, vN_nI (by omega)]
  have kF : qF y' = qF y := by show vN (y'.1 0 43) = _; rw [k1 0 43 (by omega) (by omega) (by omega)]
  have rd : RD x0 y0 t L c x' y' := by
    refine RD_mk h ⟨g22, fun k j q => g1 k j (by omega) (by omega)⟩ (fun k j q => k1 k j (by unfold rdY scrY at q; omega) (by unfold rdY scrY at q; omega) (by unfold rdY scrY at q; omega)) (fun k j q => g1 k j (by omega) (by omega)) (fun j => by rw [g2, if_neg (by omega)]) (fun k j q => k1 k j (by omega) (by omega) (by omega)) (by rw [e2]) ⟨?_, ?_, ?_, ?_, ?_, ?_, ?_⟩
    · exact DRf_ext m1 (k1 0 43 (by omega) (by omega) (by omega)) (g1 t 12 (by omega) (by omega)) (fun i _ => by rw [g2, if_neg (by omega)]) (fun i _ => by rw [e2])
    · unfold DRt
      rw [kT, k44, g13, g15, vN_nI (by omega), e2]
      obtain ⟨-, -, -, n4, n5⟩ := m2
      rw [hT1] at n4 n5
      refine ⟨isN.of (by omega) (by decide), rfl, isN.of u1 (by omega), fun i j hi hj => ?_, fun k hk => ?_⟩
      · by_cases e : i = n
        · by_cases e' : j = n
          · exact fun _ => e.trans e'.symm
          · rw [e, hT4]
            exact fun q => absurd q.symm (hw j (by omega))
        · by_cases e' : j = n
          · rw [e', hT4]
            exact fun q => absurd q (hw i (by omega))
          · exact n4 i j (by omega) (by omega)
      · by_cases e : k = n
        · subst e
          rw [g2, if_pos ⟨rfl, rfl⟩, gs, gb, k1 10 k (by omega) (by omega) (by omega), k1 11 k (by omega) (by omega) (by omega), hT2, hT3, hT4, u4, show y'.1 26 k = M by rw [e3, if_neg (by omega), if_neg (by omega), if_pos ⟨rfl, rfl⟩]]
          refine ⟨rfl, rfl, isN.of (by omega) (by decide), rfl, isN.of hb (by decide), ?_, rfl⟩
          rw [hm]
          rcases Nat.lt_or_ge m 1 with q | q
          · exact .inl (by rw [show m = 0 by omega]; rfl)
          · exact .inr (by rw [show m = 1 by omega]; rfl)
        · rw [g2, if_neg (by omega), g1 _ k (by omega) (by omega), g1 _ k (by omega) (by omega), k1 10 k (by omega) (by omega) (by omega), k1 11 k (by omega) (by omega) (by omega), k1 26 k (by omega) (by omega) (by omega), u3 k (by omega)]
          exact n5 k (by omega)
    · intro k f hk hf
      rw [kT, g1 _ _ (by omega) (by omega)]
      obtain ⟨w1, w2, w3⟩ := m3 k f hk hf
      rw [hT1] at w1 w2
      refine ⟨fun q => ?_, fun q => w2 (by omega), w3⟩
      by_cases e : k = n
      · rw [w2 (by omega), e3, if_neg (by omega), if_pos (by omega)]
      · rw [k1 _ _ (by omega) (by omega) (by omega)]; exact w1 (by omega)
    · exact DRm_ext m4 (by rw [kF]; exact Nat.le_refl _) (k1 0 45 (by omega) (by omega) (by omega)) (g1 t 14 (by omega) (by omega)) (fun m _ k a1 a2 => ⟨g1 _ m (by omega) (by omega), k1 _ m (by omega) (by omega) (by omega)⟩)
    · exact DRc_ext m5 (fun j j1 j2 => k1 0 j (by omega) (by omega) (by omega)) (fun j j1 j2 => g1 t j (by omega) (by omega)) (fun j j1 j2 => g1 3 j (by omega) (by omega))
    · exact DRs_ext m6 (k1 0 52 (by omega) (by omega) (by omega)) (k1 0 20 (by omega) (by omega) (by omega)) (k1 0 17 (by omega) (by omega) (by omega)) (fun j => ⟨k1 3 j (by omega) (by omega) (by omega), k1 4 j (by omega) (by omega) (by omega)⟩) (fun j => g1 _ j (by omega) (by omega)) (fun j => g1 _ j (by omega) (by omega))
    · exact DRz_ext m7 (fun j q => k1 0 j (by omega) (by omega) (by omega)) (fun j j1 j2 => g1 3 j (by omega) (by omega))
  exact LN_gB (end_sp rd)
theorem l_tribe (h : RD x0 y0 t L c x y) (hk : x.1 19 2 = 1) (hn : qT y < 5) : LN x0 y0 t L c (fX4_readTribe x) ((fX11_readTribe y).bind fun q => fX11_readLine_207 q) := by
  obtain ⟨x1, y1, c1, b1, b2, b3, b4, b5, b6⟩ := step_sp h (by rw [hk]; decide) (by rw [hk]; decide)
  have ht := h.2.2.2.2.2
  have en : y.1 0 44 = nI (qT y) := h.dr.2.1.1.1
  have d2 := h.dr.2.1.2.1
  have e1 : y1.1 0 44 = nI (qT y) := by rw [b6.1 0 44 (by omega), en]
  have e2 : x1.2.2 3 1 = t := b3.2.2.2.2.1
  have hT1 : qT y1 = qT y := b6.qt
  have gi : gI (nI (qT y)) 5 := gI_nI hn (by decide)
  have cl : (nI (qT y)).toNatClampNeg = qT y := nI_clamp (by omega)
  unfold fX4_readTribe fX11_readTribe fX11_newName
  rw [gc_p h.k8, h.2.2.2.2.1, d2, en, if_pos (show nI (qT y) < 5 from (nI_lt' (b := 5) (by omega) (by decide)).mpr hn), b1, b2, bd, bd]
  generalize hN : qT y = n at *
  have fin : ∀ {x' y' : gS} {B : Option gS}, B = some y' → FL x0 y0 t x' y' → LN x0 y0 t L c (some (0, x')) (B.bind fun q => fX11_readLine_207 q) := fun e f => by
    rw [e, bd, end_F f]
    exact .inl ⟨_, _, rfl, rfl, f⟩
  by_cases z : x1.1 19 2 = 19
  · rw [if_pos z, gc_p b3.k8, (isNm b3.kd).1 z, bd, e2]
    dsimp only
    rw [if_neg one0]
    rcases tri_sp b3 z with ⟨i, i1, i2, i3⟩ | ⟨i1, i2, i3⟩
    · rw [e1] at i3
      obtain ⟨x', y', r1, r2, r3⟩ := l_refuse b3 (v := 3) (a := 3) rfl (by decide)
      rw [i2, bd]
      dsimp only
      rw [if_neg (show ¬ nI i = -1 from nI_m1 (by omega)), r1, i3, bd]
      dsimp only
      rw [if_neg (nI_nn (show i < 2 ^ 31 by omega)), r2, bd]
      unfold fX11_newName_33
      rw [if_neg r3.n0, bd, wrong_wy r2, e1]
      obtain ⟨y2, g1, g2⟩ := trS (n := n) r3 hn
      exact fin g1 g2
    · rw [e1] at i3
      rw [hT1] at i1
      have hw := b3.wq z
      rw [i2, bd]
      dsimp only
      unfold gl fX11_newName_33
      rw [if_pos rfl, i3, bd]
      dsimp only
      rw [if_pos (show (-1 : Int32) < 0 by decide), b3.f0, if_pos le0, show (8 : Int32) + nI n = nI (8 + n) from nI_ad 8 n, gc_p (gI_nI (show 8 + n < 13 by omega) (by decide)), nI_clamp (show 8 + n < 2 ^ 31 by omega)]
      have r1 : RD x0 y0 t L c1 x1 (wl y1 2 (8 + n) (y1.2.1 0 9)) := by
        have q9 : qF y1 < 9 := b3.dr.1.1.2
        refine RD_y b3 FYr_wl ⟨fun _ _ => rfl, fun k hk => ⟨rfl, rfl, rfl, ?_, fun _ _ => rfl⟩, fun _ _ _ _ _ => rfl, fun _ => ⟨rfl, rfl⟩, fun i hi => ?_⟩ (fun _ _ _ => rfl) ?_
        · rw [wl_3, if_neg (by omega)]
        · rw [wl_3, if_neg (by omega)]
        · rw [wl_3, if_neg (by omega)]
      obtain ⟨x2, y2, c2, f1, f2, f3, f4, f5, f6⟩ := step_sp r1 (by rw [z]; decide) (by rw [z]; decide)
      rw [f1, f2, bd, bd, bd, f6.1 0 44 (by omega), wl_1, e1]
      have hT2 : qT y2 = n := by rw [f6.qt]; exact hT1
      have hnm : y2.2.1 2 (8 + n) = x1.2.1 19 5 := by rw [f6.2 2 _ (by omega), wl_3, if_pos ⟨rfl, rfl⟩, hw]
      have hold : ∀ i, i < n → y2.2.1 2 (8 + i) ≠ x1.2.1 19 5 := fun i hi => by rw [f6.2 2 _ (by omega), wl_3, if_neg (by omega), hw]; exact i1 i hi
      generalize x1.2.1 19 5 = w at *
      unfold fX11_told
      rcases pass_sp f3 (k := 2) (v := 2) (w := 495723310188) (by decide) rfl rfl with ⟨x3, y3, p1, p2, p3⟩ | ⟨x3, y3, c3, p1, p2, p3, p4, p5, p6⟩
      · rw [p1, bd]
        dsimp only
        rw [if_pos rfl]
        obtain ⟨y', g1, g2⟩ := trS (n := n) p3 hn
        unfold fX11_told at g1
        rw [want_F p3] at g1
        rw [p2]
        exact fin g1 g2
      · rw [p1, p2, bd, bd]
        dsimp only
        rw [if_neg one0]
        rcases passN_sp p3 (u := 0) (v := 9) (a := 0) (b := 9) rfl rfl (by decide) (by decide) with ⟨x4, y4, r, s1, s2, s3⟩ | ⟨x4, y4, c4, s, s1, s2, -, s4, -, -, -, s5, s6, s7, s8⟩
        · rw [s1, s2, bd, bd, bd]
          dsimp only
          unfold fX4_readTribe_112
          rw [if_pos rfl, if_pos rfl, gc_p gi, gc_p gi, cl]
          obtain ⟨y', g1, g2⟩ := trF (q := 69999) (FL_wi (k := 11) (j := n) (v := 0) (FL_wi (k := 10) (j := n) (v := r) s3 (.inl (by unfold scrY; omega)) (by omega)) (.inl (by unfold scrY; omega)) (by omega)) hn
          exact fin g1 g2
        · rw [s1, s2, bd, bd, bd]
          dsimp only
          rw [if_neg (show ¬ nI s = -1 from nI_m1 (by omega)), gc_p gi, gc_p gi, cl]
          have ty : TY y2 y4 := p6.tr s8
          have r5 : RD x0 y0 t L c4 x4 (wi (wi y4 10 n (nI s)) 11 n 0) := RD_tr (RD_tr s5 (by omega) (by rw [ty.qt, hT2])) (by omega) (by rw [(qw (by decide)).2.2, ty.qt, hT2])
          have hTN : TN n w s 0 (wi (wi y4 10 n (nI s)) 11 n 0) := by
            refine ⟨?_, ?_, ?_, ?_, fun i hi => by rw [wi_2, wi_2, ty.2 2 _ (by omega)]; exact hold i hi⟩
            · rw [(qw (by decide)).2.2, (qw (by decide)).2.2, ty.qt, hT2]
            · rw [wi_1, if_pos ⟨rfl, rfl⟩]; rfl
            · rw [wi_1, if_neg (by omega), wi_1, if_pos ⟨rfl, rfl⟩]
            · rw [wi_2, wi_2, ty.2 2 _ (by omega)]; exact hnm
          generalize wi (wi y4 10 n (nI s)) 11 n 0 = y5 at *
          unfold fX4_passStiff
          rcases stiff_loop hn 10 0 0 c4 69999 69998 x4 y5 rfl r5 hTN (by decide) (cbn_0 10) (by decide) (by decide) with ⟨x6, y6, k1, k2, k3⟩ | ⟨x6, y6, c6, b, q, k1, k2, k3, k4, k5, k6, k7⟩
          · have k1 : hX4_passStiff_4 FU 0 0 x4 = some (-1, x6) := k1
            have k2 : hX11_readTribe_38 FU (nI n) y5 = some y6 := k2
            rw [k1, bd]
            dsimp only
            unfold fX4_readTribe_112
            rw [if_pos rfl]
            exact fin k2 k3
          · have k1 : hX4_passStiff_4 FU 0 0 x4 = some (nI b, x6) := k1
            have k2 : hX11_readTribe_38 FU (nI n) y5 = hX11_readTribe_38 (q + 1) (nI n) y6 := k2
            rw [k1, k2, bd]
            dsimp only
            unfold fX4_readTribe_112 fX4_readTribe_138
            rw [if_neg (show ¬ nI b = -1 from nI_m1 (by omega))]
            have eB : hX11_readTribe_38 (q + 1) (nI n) y6 = fX11_readTribe_38 (hX11_readTribe_38 q) (nI n) y6 := rfl
            rw [eB]
            unfold fX11_readTribe_38
            rcases takes_sp k3 (k := 3) (w := 495874303590) (by decide) rfl with ⟨u1, u2⟩ | ⟨u1, -⟩
            · rw [u2, bd]
              dsimp only
              rw [if_pos rfl]
              rcases takes_sp k3 (k := 4) (w := 30796712728556147) (by decide) rfl with ⟨v1, v2⟩ | ⟨v1, x7, y7, c7, v2, v3, v4, v5, v6, v7⟩
              · have v1 : ¬ x6.1 19 2 = 4 := v1
                rw [if_neg v1, v2, bd, if_pos rfl]
                dsimp only
                rw [gc_p gi, cl, nar0, if_pos (show (wi y6 26 n 0).1 0 2 ≤ 0 by rw [wi_1, if_neg (by omega), k3.f0]; exact le0)]
                exact (tr_end (m := 0) hn k3 k5 s4 k6 rfl (by decide)).up (by omega)
              · have v1 : x6.1 19 2 = 4 := v1
                rw [if_pos v1, v2, v3, bd, if_neg one0, bd]
                dsimp only
                rw [gc_p gi, cl, nar1, if_pos (show (wi y7 26 n 1).1 0 2 ≤ 0 by rw [wi_1, if_neg (by omega), v4.f0]; exact le0)]
                exact (tr_end (m := 1) hn v4 (TN_ty k5 v7) s4 k6 rfl (by decide)).up (by omega)
            · exact absurd u1 k7
  · obtain ⟨x', y', r1, r2, r3⟩ := l_refuse b3 (v := 2) (a := 2) rfl (by decide)
    rw [if_neg z, r1, (isNm b3.kd).2 z, bd]
    dsimp only
    rw [if_pos rfl, r2, bd]
    unfold fX11_newName_33
    rw [if_neg r3.n0, bd, wrong_wy r2, e1]
    obtain ⟨y2, g1, g2⟩ := trS (n := n) r3 hn
    exact fin g1 g2
end LI
