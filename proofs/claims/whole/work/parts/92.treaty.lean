/-! ===== treaty ===== -/
theorem dpt_q (y : gS) (n : Nat) : dpt y n = dpq (y.1 5) n := by
  induction n with
  | zero => rfl
  | succ n ih =>
    show (dpt y n).bind _ = (dpq (y.1 5) n).bind _
    rw [ih]
/-- what is told is taken over by both -/
theorem Inv_new {x y x2 y2 y0 x6 y6 : gS} {t L c n u T M F μ q : Nat} (h : Inv x y) (rd : RD x y0 t L c x2 y2) (hy0 : ∀ k j, ¬ (scrY k j ∨ (k = 0 ∧ (j = 1 ∨ j = 2 ∨ j = 3))) → y0.1 k j = y.1 k j) (h01 : y0.1 0 1 = 0) (et : x.2.2 3 1 = t)
    (hF : qF y2 = F) (hT : qT y2 = T) (hM : qM y2 = M) (hμ : x2.1 t 15 = nI μ) (hμ2 : μ < 2 ^ T)
    (n1 : n ≤ 271) (u1 : u ≤ 30) (nu : u = 0 ↔ n = 0) (xn : x2.1 (t + 1 + 11) 2 = nI n) (xu : x2.1 (t + 1 + 11) 3 = nI u) (hst : ∀ i, i < n → stp (x2.1 (t + 1 + 11 + 1 + 0) i) (y2.1 3 i) (y2.1 4 i)) (hd : ∀ i, i ≤ n → ∃ d, dpq (y2.1 3) i = some d ∧ d ≤ 30) (hd1 : n ≠ 0 → dpq (y2.1 3) n = some 1)
    -- the class
    (hq : x.2.2 24 0 = 25 + 3 * q) (hq41 : q < 41)
    (r09 : x6.2.2 0 9 = t) (r31 : x6.2.2 3 1 = x.2.2 0 9) (rk : ∀ k, k ≠ 0 → k ≠ 3 → x6.2.2 k = x.2.2 k)
    (X : ∀ k j, ¬ (k = 149 ∧ j < 3) → ¬ (k = 169 ∧ j = 10) → ¬ (k = 150 ∧ j = 7) → ¬ (k = 23 ∧ (j = 1 ∨ j = 2)) → ¬ ((k = 20 ∨ k = 25 + 3 * q) ∧ 2 ≤ j ∧ j ≤ 9) → ¬ ((k = 21 ∨ k = 22 ∨ k = 25 + 3 * q + 1 ∨ k = 25 + 3 * q + 2) ∧ j < 5) → ¬ (k = 1 ∧ j = 1) → ¬ (k = t + 1 + 4 ∧ j < T) → x6.1 k j = x2.1 k j)
    (X149 : ∀ j, j < 3 → x6.1 149 j = 0) (X169 : x6.1 169 10 = 0) (X150 : x6.1 150 7 = 0) (X23 : ∀ j, j = 1 ∨ j = 2 → x6.1 23 j = 0) (X11 : x6.1 1 1 = 0)
    (Xr : ∀ k, k = 20 ∨ k = 25 + 3 * q → x6.1 k 2 = (if F = 0 then -1 else 0) ∧ x6.1 k 3 = (if T = 0 then -1 else 0) ∧ x6.1 k 9 = y2.1 0 47 ∧ ∀ j, 4 ≤ j → j ≤ 8 → x6.1 k j = 0)
    (Xz : ∀ k j, (k = 21 ∨ k = 22 ∨ k = 25 + 3 * q + 1 ∨ k = 25 + 3 * q + 2) → j < 5 → x6.1 k j = 0)
    (Xa : ∀ j, j < T → x6.1 (t + 1 + 4) j = nI (bS (fun m => !((vN (y2.1 11 j)).testBit (if μ.testBit j then 9 - vN (y2.1 18 m) else vN (y2.1 18 m)))) M))
    -- the reference
    (Y48 : y6.1 0 48 = nI F) (Y49 : y6.1 0 49 = nI T) (Y50 : y6.1 0 50 = nI M) (Y51 : y6.1 0 51 = y2.1 0 46) (Y21 : y6.1 0 21 = nI u) (Y18 : y6.1 0 18 = nI n)
    (Y5 : ∀ j, j < n → y6.1 5 j = y2.1 3 j ∧ y6.1 6 j = y2.1 4 j) (Yk : ∀ j, j < 5 → y6.1 12 j = y2.1 10 j ∧ y6.1 13 j = y2.1 11 j ∧ y6.1 27 j = vp_nar .boolean (y2.1 26 j)) (Yw : ∀ j, j < 8 * T → y6.1 15 j = if 0 ≤ y2.1 14 j then y2.1 14 j else 0) (Ym : ∀ k j, 21 ≤ k → k ≤ 25 → j < M → y6.1 k j = y2.1 (k - 5) j)
    (Y28 : y6.1 28 0 = (if F = 0 then -1 else 0) ∧ y6.1 28 1 = (if T = 0 then -1 else 0) ∧ y6.1 28 17 = y2.1 0 47 ∧ ∀ j, 2 ≤ j → j ≤ 16 → y6.1 28 j = 0) (Y0 : y6.1 0 58 = 0 ∧ y6.1 0 59 = 0 ∧ y6.1 0 73 = 0 ∧ y6.1 0 62 = 0) (Y45 : ∀ j, j < 3 → y6.1 45 j = 0)
    (Y1 : y6.1 0 1 = y2.1 0 1 ∧ y6.1 0 2 = y2.1 0 2 ∧ y6.1 0 3 = y2.1 0 3 ∧ y6.1 0 74 = y2.1 0 74) : Inv x6 y6 := by
  obtain ⟨m1, m2, m3, m4, m5, m6, m7⟩ := rd.dr
  obtain ⟨-, hd2⟩ := h.dt
  have ht := rd.2.2.2.2.2
  have ht2 := h.t4
  rw [et] at hd2
  have F9 : F < 9 := by rw [← hF]; exact m1.1.2
  have T6 : T < 6 := by rw [← hT]; exact m2.1.2
  have M17 : M < 17 := by rw [← hM]; exact m4.1.2
  have h2T : 2 ^ T ≤ 2 ^ 5 := Nat.pow_le_pow_right (by decide) (by omega)
  have eF : nF y6 = F := by show vN (y6.1 0 48) = _; rw [Y48, vN_nI (by omega)]
  have eT : nT y6 = T := by show vN (y6.1 0 49) = _; rw [Y49, vN_nI (by omega)]
  have eM : nM y6 = M := by show vN (y6.1 0 50) = _; rw [Y50, vN_nI (by omega)]
  have xF : x2.1 t 12 = nI F := by rw [m1.2.1, ← hF]; exact m1.1.1
  have xT : x2.1 t 13 = nI T := by rw [m2.2.1, ← hT]; exact m2.1.1
  have xM : x2.1 t 14 = nI M := by rw [m4.2.1, ← hM]; exact m4.1.1
  -- the treaty's cells
  have Xt : ∀ k j, t ≤ k → k ≤ t + 14 → ¬ (k = t + 1 + 4 ∧ j < T) → x6.1 k j = x2.1 k j := fun k j h1 h2 h3 => X k j (by omega) (by omega) (by omega) (by omega) (by omega) (by omega) (by omega) h3
  -- a row of the cord
  have hrow : rowOK y6 (y6.1 28) := by
    unfold rowOK
    rw [eF, eT, Y28.1, Y28.2.1]
    refine ⟨?_, ?_, ?_, ?_⟩
    · by_cases z : F = 0
      · exact .inl ⟨z, if_pos z⟩
      · rw [if_neg z]; exact .inr (isN.of (j := 0) (by omega) (by omega))
    · by_cases z : T = 0
      · exact .inl ⟨z, if_pos z⟩
      · rw [if_neg z]; exact .inr (isN.of (j := 0) (by omega) (by omega))
    · rw [Y28.2.2.2 3 (by omega) (by omega)]; exact .inl rfl
    · rw [Y28.2.2.2 16 (by omega) (by omega)]; exact isN.of (j := 0) (by decide) (by decide)
  have hstR : ∀ k, k = 20 ∨ k = 25 + 3 * q → stR x6 k (y6.1 28) := fun k hk => by
    obtain ⟨a1, a2, a3, a4⟩ := Xr k hk
    refine ⟨a1.trans Y28.1.symm, a2.trans Y28.2.1.symm, ?_, ?_, ?_, ?_, ?_, a3.trans Y28.2.2.1.symm, fun i hi => ?_, fun i hi => ?_⟩
    · rw [a4 4 (by omega) (by omega), Y28.2.2.2 2 (by omega) (by omega)]
    · rw [a4 5 (by omega) (by omega), Y28.2.2.2 3 (by omega) (by omega)]
    · rw [a4 6 (by omega) (by omega), Y28.2.2.2 14 (by omega) (by omega)]
    · rw [a4 7 (by omega) (by omega), Y28.2.2.2 15 (by omega) (by omega)]
    · rw [a4 8 (by omega) (by omega), Y28.2.2.2 16 (by omega) (by omega)]
    · rw [Xz (k + 1) i (by omega) hi, Y28.2.2.2 (4 + i) (by omega) (by omega)]
    · rw [Xz (k + 2) i (by omega) hi, Y28.2.2.2 (9 + i) (by omega) (by omega)]
  have v58 : vN (y6.1 0 58) = 0 := by rw [Y0.1]; rfl
  have v59 : vN (y6.1 0 59) = 0 := by rw [Y0.2.1]; rfl
  have v73 : vN (y6.1 0 73) = 0 := by rw [Y0.2.2.1]; rfl
  have v62 : vN (y6.1 0 62) = 0 := by rw [Y0.2.2.2]; rfl
  have vL : vN (y6.1 0 1) = 0 := by
    rw [Y1.1, rd.2.1 0 1 (by unfold rdY scrY; omega), h01]; rfl
  have n0 : isN (0 : Int32) 1 := isN.of (j := 0) (by decide) (by decide)
  refine ⟨⟨?_, ?_, fun i hi => ?_⟩, ⟨?_, ?_⟩, ⟨?_, fun b hb => ?_, fun i hi => ?_, fun i j hi hj => ?_⟩, ⟨⟨?_, ?_, ?_, ?_⟩, fun m hm => ?_, fun k hk => ?_⟩, ?_, ?_, ⟨hrow, hstR 20 (.inl rfl)⟩, ⟨?_, ?_, ?_, ?_, ?_, fun i hi => ?_, ?_, fun i h1 h2 => ?_⟩, fun b hb => ⟨?_, ?_, fun z => ?_⟩, ⟨?_, ?_, ?_, ?_, fun i hi => ?_⟩, ⟨?_, ?_, fun i hi => ?_⟩⟩
  · rw [Y1.1, rd.2.1 0 1 (by unfold rdY scrY; omega), h01]; exact isN.of (j := 0) (by decide) (by decide)
  · rw [X11, Y1.1, rd.2.1 0 1 (by unfold rdY scrY; omega), h01]
  · rw [vL] at hi; omega
  · rw [X 3 5 (by omega) (by omega) (by omega) (by omega) (by omega) (by omega) (by omega) (by omega), Y1.2.1, m7.2.1, m7.2.2.2.1]
  · rw [X 3 6 (by omega) (by omega) (by omega) (by omega) (by omega) (by omega) (by omega) (by omega), Y1.2.2.1, m7.2.2.1, m7.2.2.2.2]
  · rw [r09, r31]
    rcases h.refs.1 with ⟨z1, z2⟩ | ⟨z1, z2⟩
    · exact .inr ⟨by omega, z1⟩
    · exact .inl ⟨by omega, z1⟩
  · rw [rk 148 (by decide) (by decide)]; exact h.refs.2.1 b hb
  · rw [rk 24 (by decide) (by decide)]; exact h.refs.2.2.1 i hi
  · rw [rk 24 (by decide) (by decide)]; exact h.refs.2.2.2 i j hi hj
  · rw [Y48]; exact isN.of F9 (by decide)
  · rw [Y49]; exact isN.of T6 (by decide)
  · rw [Y50]; exact isN.of M17 (by decide)
  · rw [Y51]; exact m5.2.1
  · rw [eM] at hm
    obtain ⟨-, -, -, -, -, b6, b7, b8, b9, b10⟩ := m4.2.2 m (by rw [hM]; exact hm)
    unfold WFm isF
    rw [eF, Ym 21 m (by omega) (by omega) hm, Ym 22 m (by omega) (by omega) hm, Ym 23 m (by omega) (by omega) hm, Ym 24 m (by omega) (by omega) hm, Ym 25 m (by omega) (by omega) hm]
    rw [hF] at b6 b7 b10
    exact ⟨b6, b7, b8, b9, b10⟩
  · rw [eT] at hk
    obtain ⟨-, b2, b3, b4, b5, b6, b7⟩ := m2.2.2.2.2 k (by rw [hT]; exact hk)
    obtain ⟨c1, c2, c3⟩ := Yk k (by omega)
    unfold WFk
    rw [c1, c2, c3, narB b6]
    refine ⟨b3, b5, b6, fun f hf => ?_⟩
    rw [Yw _ (by omega)]
    obtain ⟨w1, -, w3⟩ := m3 k f (by omega) hf
    rw [w1 (by omega)] at w3
    rcases w3 with w3 | w3
    · rw [w3, if_neg (by decide)]; exact isN.of (j := 0) (by decide) (by decide)
    · rw [if_pos (by rw [w3.1]; have := w3.2; exact (nI_le' (a := 0) (by decide) (by omega)).mpr (by omega))]; exact w3
  · rw [r09]
    unfold XT XTs
    rw [Xt t 12 (by omega) (by omega) (by omega), Xt t 13 (by omega) (by omega) (by omega), Xt t 14 (by omega) (by omega) (by omega), Xt t 15 (by omega) (by omega) (by omega), Xt t 16 (by omega) (by omega) (by omega), Y48, Y49, Y50, Y51, eT, eM]
    refine ⟨⟨xF, xT, xM, m5.1⟩, by rw [hμ]; exact isN.of (by omega) (by decide), fun m hm => ?_, fun k hk => ?_⟩
    · obtain ⟨b1, b2, b3, b4, b5, -⟩ := m4.2.2 m (by rw [hM]; exact hm)
      unfold XTm
      rw [Xt _ m (by omega) (by omega) (by omega), Xt _ m (by omega) (by omega) (by omega), Xt _ m (by omega) (by omega) (by omega), Xt _ m (by omega) (by omega) (by omega), Xt _ m (by omega) (by omega) (by omega), Ym 21 m (by omega) (by omega) hm, Ym 22 m (by omega) (by omega) hm, Ym 23 m (by omega) (by omega) hm, Ym 24 m (by omega) (by omega) hm, Ym 25 m (by omega) (by omega) hm]
      exact ⟨b1, b2, b3, b4, b5⟩
    · obtain ⟨-, b2, b3, b4, b5, b6, b7⟩ := m2.2.2.2.2 k (by rw [hT]; exact hk)
      obtain ⟨c1, c2, c3⟩ := Yk k (by omega)
      have hb := bS_lt (fun m => !((vN (y2.1 11 k)).testBit (if μ.testBit k then 9 - vN (y2.1 18 m) else vN (y2.1 18 m)))) M
      have h16 : 2 ^ M ≤ 2 ^ 16 := Nat.pow_le_pow_right (by decide) (by omega)
      rw [hμ, vN_nI (by omega)] at b7
      unfold XTk
      rw [Xt _ k (by omega) (by omega) (by omega), Xt _ k (by omega) (by omega) (by omega), Xt t 15 (by omega) (by omega) (by omega), hμ, vN_nI (by omega), Xa k hk, vN_nI (by omega), eM, eF, c1, c2, c3, narB b6]
      refine ⟨b2, b4, b7, isN.of (by omega) (by decide), fun m => ?_, fun f hf => ?_⟩
      · rw [bS_t]
        by_cases z : m < M
        · unfold cnb sf fg vN
          rw [c2, c3, narB b6, Ym 23 m (by omega) (by omega) z, b7]
          by_cases z1 : y2.1 26 k = 1
          · simp [z1]
          · simp [z1]
        · simp [z]
      · rw [Xt _ _ (by omega) (by omega) (by omega), Yw _ (by omega)]
        obtain ⟨w1, -, w3⟩ := m3 k f (by omega) (by omega)
        rw [w1 (by omega)] at w3 ⊢
        rcases w3 with w3 | w3
        · exact .inr ⟨w3, by rw [w3]; exact if_neg (by decide)⟩
        · exact .inl (by rw [if_pos (by rw [w3.1]; have := w3.2; exact (nI_le' (a := 0) (by decide) (by omega)).mpr (by omega))])
  · rw [r09]
    have e2 : x6.1 (t + 12) 2 = nI n := (Xt (t + 1 + 11) 2 (by omega) (by omega) (by omega)).trans xn
    have e3 : x6.1 (t + 12) 3 = nI u := (Xt (t + 1 + 11) 3 (by omega) (by omega) (by omega)).trans xu
    have e13 : ∀ i, x6.1 (t + 13) i = x2.1 (t + 1 + 11 + 1 + 0) i := fun i => Xt (t + 1 + 11 + 1 + 0) i (by omega) (by omega) (by omega)
    have hdp : ∀ i, i ≤ n → dpt y6 i = dpq (y2.1 3) i := fun i hi => by rw [dpt_q]; exact dpq_c fun j hj => (Y5 j (by omega)).1
    unfold XS
    rw [Y18, Y21, e2, e3, vN_nI (by omega), vN_nI (by omega)]
    refine ⟨isN.of (by omega) (by decide), isN.of (by omega) (by decide), rfl, rfl, nu, fun i hi => ?_, fun i hi => ?_, fun z => ?_⟩
    · rw [e13, (Y5 i hi).1, (Y5 i hi).2]; exact hst i hi
    · rw [hdp i hi]; exact hd i hi
    · rw [hdp n (Nat.le_refl _)]; exact hd1 z
  · rw [Y0.1]; exact isN.of (j := 0) (by decide) (by decide)
  · rw [Y0.2.1]; exact isN.of (j := 0) (by decide) (by decide)
  · rw [v58, v59]; decide
  · rw [X23 1 (.inl rfl), Y0.1]
  · rw [X23 2 (.inr rfl), Y0.1, Y0.2.1]; rfl
  · rw [v58] at hi; omega
  · rw [v58, rk 24 (by decide) (by decide), hq]; exact hstR _ (.inr rfl)
  · rw [v58, v59] at h2; omega
  · rw [Y45 b hb]; exact .inl rfl
  · rw [Y45 b hb, X149 b hb]
  · rw [Y45 b hb] at z; exact absurd z (by decide)
  · rw [Y0.2.2.1]; exact isN.of (j := 0) (by decide) (by decide)
  · rw [Y1.2.2.2, rd.2.1 0 74 (by unfold rdY scrY; omega), hy0 0 74 (by unfold scrY; omega)]; exact h.past.2.1
  · rw [X169, Y0.2.2.1]
  · rw [X 169 11 (by omega) (by omega) (by omega) (by omega) (by omega) (by omega) (by omega) (by omega), rd.1.2 169 11 (by omega), Y1.2.2.2, rd.2.1 0 74 (by unfold rdY scrY; omega), hy0 0 74 (by unfold scrY; omega)]; exact h.past.2.2.2.1
  · rw [v73] at hi; omega
  · rw [Y0.2.2.2]; exact isN.of (j := 0) (by decide) (by decide)
  · rw [X150, Y0.2.2.2]
  · rw [v62] at hi; omega
