/-! ===== the lines of tribes ===== -/
def cbn : Nat → Nat → Nat
  | 0, _ => 0
  | n + 1, b => cbn n b + (if b.testBit n then 1 else 0)
theorem cbn_le (n b : Nat) : cbn n b ≤ n := by
  induction n with
  | zero => exact Nat.le_refl _
  | succ n ih =>
    rw [cbn]
    split <;> omega
theorem cbn_set {b f : Nat} (hf : b.testBit f = false) (n : Nat) : cbn n (b ||| 2 ^ f) = cbn n b + (if f < n then 1 else 0) := by
  induction n with
  | zero => rfl
  | succ n ih =>
    rw [cbn, cbn, ih, Nat.testBit_or, Nat.testBit_two_pow]
    by_cases e : f = n
    · subst e
      rw [hf]
      simp
    · have h1 : decide (f = n) = false := by simp [e]
      rw [h1, Bool.or_false]
      by_cases q : f < n
      · rw [if_pos q, if_pos (show f < n + 1 by omega)]; omega
      · rw [if_neg q, if_neg (show ¬ f < n + 1 by omega)]; omega
theorem cbn_0 (n : Nat) : cbn n 0 = 0 := by
  induction n with
  | zero => rfl
  | succ n ih => rw [cbn, ih, Nat.zero_testBit]; rfl
theorem addTribe_eq {t n : Nat} {x : gS} {w : Int64} {s b m : Int32} (h : x.1 t 13 = nI n) (hn : n < 5) : fX8_addTribe t w s b m x = some (wi (wi (wi (wi (wl x (t + 1 + 1) n w) (t + 1 + 2) n s) (t + 1 + 3) n b) t 15 (x.1 t 15 ||| (if m = 0 then (0 : Int32) else 1 <<< (nI n &&& 31)))) t 13 (nI (n + 1))) := by
  have a2 : ∀ (st : gS) (j : Nat) (v : Int32), (wi st (t + 1 + 2) j v).1 t 13 = st.1 t 13 := fun st j v => by rw [wi_1, if_neg (by omega)]
  have a3 : ∀ (st : gS) (j : Nat) (v : Int32), (wi st (t + 1 + 3) j v).1 t 13 = st.1 t 13 := fun st j v => by rw [wi_1, if_neg (by omega)]
  have b2 : ∀ (st : gS) (j : Nat) (v : Int32), (wi st (t + 1 + 2) j v).1 t 15 = st.1 t 15 := fun st j v => by rw [wi_1, if_neg (by omega)]
  have b3 : ∀ (st : gS) (j : Nat) (v : Int32), (wi st (t + 1 + 3) j v).1 t 15 = st.1 t 15 := fun st j v => by rw [wi_1, if_neg (by omega)]
  have c1 : ∀ (st : gS) (v : Int32), (wi st t 15 v).1 t 13 = st.1 t 13 := fun st v => by rw [wi_1, if_neg (by omega)]
  unfold fX8_addTribe fX8_addTribe_59
  simp only [wl_1, a2, a3, b2, b3, c1, h, nI_clamp (show n < 2 ^ 31 by omega), gc_p (gI_nI hn (show 5 ≤ 2 ^ 31 by decide)), nI_s]
  rw [if_neg (show ¬ 5 ≤ nI n from fun q => by have := (nI_le' (a := 5) (by decide) (by omega)).mp q; omega)]
  by_cases z : m = 0
  · rw [if_pos z, if_pos z]
  · rw [if_neg z, if_neg z]
section LI
variable {x0 y0 x y : gS} {t L c n : Nat}
theorem trF {q : Nat} (h : FL x0 y0 t x y) (hn : n < 5) : ∃ y', hX11_readTribe_38 (q + 1) (nI n) y = some y' ∧ FL x0 y0 t x y' := by
  show ∃ y', fX11_readTribe_38 (hX11_readTribe_38 q) (nI n) y = some y' ∧ _
  unfold fX11_readTribe_38
  have f := FL_wi (k := 26) (j := n) (v := 0) h (.inl (by unfold scrY; omega)) (by omega)
  rw [takes_F h, bd]
  dsimp only
  rw [if_pos rfl, takes_F h, bd, gc_p (gI_nI hn (by decide)), nI_clamp (by omega), nar0, if_neg f.n0]
  exact ⟨_, rfl, f⟩
theorem trS (h : FL x0 y0 t x y) (hn : n < 5) : ∃ y', ((fX11_told 495723310188 0 9 y).bind fun q0_2 => (gc (gI (nI n) 5) (gc (gI (nI n) 5) (hX11_readTribe_38 FU (nI n) (wi (wi q0_2.2 10 (nI n).toNatClampNeg q0_2.1) 11 (nI n).toNatClampNeg 0))))) = some y' ∧ FL x0 y0 t x y' := by
  rw [told_F h, bd, gc_p (gI_nI hn (by decide)), gc_p (gI_nI hn (by decide)), nI_clamp (by omega)]
  exact trF (q := 69999) (FL_wi (FL_wi h (.inl (by unfold scrY; omega)) (by omega)) (.inl (by unfold scrY; omega)) (by omega)) hn
/-- what the reference has written of the tribe that is being told -/
def TN (n : Nat) (w : Int64) (s b : Nat) (y : gS) : Prop := qT y = n ∧ y.1 11 n = nI b ∧ y.1 10 n = nI s ∧ y.2.1 2 (8 + n) = w ∧ ∀ i, i < n → y.2.1 2 (8 + i) ≠ w
theorem TN_ty {w : Int64} {s b : Nat} {y' : gS} (h : TN n w s b y) (hy : TY y y') : TN n w s b y' := ⟨hy.qt.trans h.1, (hy.1 11 n (by omega)).trans h.2.1, (hy.1 10 n (by omega)).trans h.2.2.1, (hy.2 2 _ (by omega)).trans h.2.2.2.1, fun i hi => by rw [hy.2 2 _ (by omega)]; exact h.2.2.2.2 i hi⟩
theorem RD_tr {k : Nat} {v : Int32} (h : RD x0 y0 t L c x y) (hk : k = 10 ∨ k = 11 ∨ k = 26) (hn : qT y = n) : RD x0 y0 t L c x (wi y k n v) := by
  have e : ∀ a b, ¬ (a = k ∧ b = n) → (wi y k n v).1 a b = y.1 a b := fun a b q => by rw [wi_1, if_neg q]
  refine RD_y h (FYr_wi (.inl (by unfold scrY; omega))) ⟨fun j q => e _ _ (by omega), fun k' hk' => ⟨e _ _ (by omega), e _ _ (by omega), e _ _ (by omega), rfl, fun f _ => e _ _ (by omega)⟩, fun m' hm' k' k1 k2 => e _ _ (by omega), fun j => ⟨e _ _ (by omega), e _ _ (by omega)⟩, fun _ _ => rfl⟩ (fun a b q => e _ _ (by omega)) rfl
theorem stiff_step {w : Int64} {s i b p q : Nat} (hn : n < 5) (h : RD x0 y0 t L c x y) (hT : TN n w s b y) (hi : i ≤ 10) (hb : b < 1024) (hc : cbn 10 b = i) :
    (∃ x' y', hX4_passStiff_4 (p + 1) (nI b) (nI i) x = some (-1, x') ∧ hX11_readTribe_38 (q + 2) (nI n) y = some y' ∧ FL x0 y0 t x' y') ∨
    (hX4_passStiff_4 (p + 1) (nI b) (nI i) x = some (nI b, x) ∧ ¬ x.1 19 2 = 3) ∨
    ∃ x' y' c' b', hX4_passStiff_4 (p + 1) (nI b) (nI i) x = hX4_passStiff_4 p (nI b') (nI (i + 1)) x' ∧ hX11_readTribe_38 (q + 2) (nI n) y = hX11_readTribe_38 (q + 1) (nI n) y' ∧ RD x0 y0 t L c' x' y' ∧ c < c' ∧ TN n w s b' y' ∧ i + 1 ≤ 10 ∧ b' < 1024 ∧ cbn 10 b' = i + 1 := by
  have n10 : ¬ 10 < nI i := fun z => by have := (nI_lt' (a := 10) (by decide) (by omega)).mp z; omega
  have eA : hX4_passStiff_4 (p + 1) (nI b) (nI i) x = fX4_passStiff_4 (hX4_passStiff_4 p) (nI b) (nI i) x := rfl
  have eB : hX11_readTribe_38 (q + 2) (nI n) y = fX11_readTribe_38 (hX11_readTribe_38 (q + 1)) (nI n) y := rfl
  rw [eA, eB]
  unfold fX4_passStiff_4
  rw [if_neg n10]
  rcases takes_sp h (k := 3) (w := 495874303590) (by decide) rfl with ⟨u1, u2⟩ | ⟨u1, x1, y1, c1, u2, u3, u4, u5, u6, u7⟩
  · have u1 : ¬ x.1 19 2 = 3 := u1
    refine .inr (.inl ⟨?_, u1⟩)
    rw [if_neg u1]
  · have u1 : x.1 19 2 = 3 := u1
    have hT1 := TN_ty hT u7
    unfold fX11_readTribe_38
    rw [if_pos u1, u2, u3, bd, bd]
    dsimp only
    rw [if_neg one0]
    have hk : y1.1 0 6 = 2 ↔ x1.1 19 2 = 20 := u4.kd.iff (a := 2) (b := 20) (by decide) (by omega)
    -- the number behind stiff
    have core : (∀ f, f < 10 → x1.1 19 2 = 20 → x1.1 19 4 = nI f → b.testBit f = false) → (∃ x' y', fX4_passStiff_74 (hX4_passStiff_4 p) (nI b) (nI i) x1 = some (-1, x') ∧ fX11_readTribe_87 (hX11_readTribe_38 (q + 1)) (nI n) y1 = some y' ∧ FL x0 y0 t x' y') ∨ ∃ x' y' c' b', fX4_passStiff_74 (hX4_passStiff_4 p) (nI b) (nI i) x1 = hX4_passStiff_4 p (nI b') (nI (i + 1)) x' ∧ fX11_readTribe_87 (hX11_readTribe_38 (q + 1)) (nI n) y1 = hX11_readTribe_38 (q + 1) (nI n) y' ∧ RD x0 y0 t L c' x' y' ∧ c < c' ∧ TN n w s b' y' ∧ i + 1 ≤ 10 ∧ b' < 1024 ∧ cbn 10 b' = i + 1 := by
      intro hbit
      unfold fX4_passStiff_74 fX11_readTribe_87 gl
      rcases passN_sp u4 (u := 0) (v := 9) (a := 0) (b := 9) rfl rfl (by decide) (by decide) with ⟨x5, y5, r, s1, s2, s3⟩ | ⟨x5, y5, c5, f, s1, s2, -, s4, k4, -, k2, s5, s6, s7, s8⟩
      · rw [s1, s2, bd, bd]
        dsimp only
        rw [if_pos rfl, if_neg s3.n1]
        obtain ⟨y', g1, g2⟩ := trF (q := q) s3 hn
        exact .inl ⟨x5, y', rfl, g1, g2⟩
      · have hbf := hbit f (by omega) k2 k4
        have hT5 := TN_ty hT1 s8
        rw [s1, s2, bd, bd]
        dsimp only
        rw [if_neg (show ¬ nI f = -1 from nI_m1 (by omega)), s5.f0, if_pos rfl, gc_p (gI_nI hn (by decide)), gc_p (gI_nI hn (by decide)), nI_clamp (by omega), hT5.2.1, b_1 (by omega), b_or, nI_s]
        have hset := cbn_set hbf 10
        rw [if_pos (by omega), hc] at hset
        have hle := cbn_le 10 (b ||| 2 ^ f)
        have h2 : b ||| 2 ^ f < 1024 := Nat.or_lt_two_pow (n := 10) hb (Nat.pow_lt_pow_right (by decide) (by omega))
        refine .inr ⟨x5, _, c5, b ||| 2 ^ f, rfl, rfl, RD_tr s5 (by omega) hT5.1, by omega, ⟨?_, ?_, ?_, hT5.2.2.2⟩, by omega, h2, hset⟩
        · rw [(qw (by decide)).2.2]; exact hT5.1
        · rw [wi_1, if_pos ⟨rfl, rfl⟩]
        · rw [wi_1, if_neg (by omega)]; exact hT5.2.2.1
    have lift : ∀ {A : Option (Int32 × gS)} {B : Option gS}, ((∃ x' y', A = some (-1, x') ∧ B = some y' ∧ FL x0 y0 t x' y') ∨ ∃ x' y' c' b', A = hX4_passStiff_4 p (nI b') (nI (i + 1)) x' ∧ B = hX11_readTribe_38 (q + 1) (nI n) y' ∧ RD x0 y0 t L c' x' y' ∧ c < c' ∧ TN n w s b' y' ∧ i + 1 ≤ 10 ∧ b' < 1024 ∧ cbn 10 b' = i + 1) → ((∃ x' y', A = some (-1, x') ∧ B = some y' ∧ FL x0 y0 t x' y') ∨ (A = some (nI b, x) ∧ ¬ x.1 19 2 = 3) ∨ ∃ x' y' c' b', A = hX4_passStiff_4 p (nI b') (nI (i + 1)) x' ∧ B = hX11_readTribe_38 (q + 1) (nI n) y' ∧ RD x0 y0 t L c' x' y' ∧ c < c' ∧ TN n w s b' y' ∧ i + 1 ≤ 10 ∧ b' < 1024 ∧ cbn 10 b' = i + 1) := fun hh => hh.imp id .inr
    by_cases z : x1.1 19 2 = 20
    · rw [if_pos z, if_pos (hk.mpr z)]
      have hN : x1.1 19 4 = y1.1 0 8 ∧ isN (y1.1 0 8) 10000 := by
        rcases u4.kd with ⟨q, -⟩ | ⟨k, k0, q, -⟩ | ⟨-, -, q⟩ | ⟨q, -⟩ | ⟨q1, q2⟩
        · rw [z] at q; exact absurd q (by decide)
        · rw [z] at q; have := (nI_inj (a := 20) (by decide) (by omega)).mp q; omega
        · exact q
        · rw [z] at q; exact absurd q (by decide)
        · rw [← q2, z] at q1; exact absurd q1 (by decide)
      obtain ⟨n1, n2⟩ := hN
      have h4 := n2.2
      rw [n1, n2.1]
      generalize hv : vN (y1.1 0 8) = v at *
      by_cases z2 : 10 ≤ v
      · have z2' := (nI_le' (a := 10) (by decide) (by omega)).mpr z2
        have z2'' : (10 : Int32) ≤ nI v := z2'
        rw [if_pos z2'', if_pos z2'']
        exact lift (core fun f hf _ q => by
          rw [n1, n2.1] at q
          have := (nI_inj (by omega) (by omega)).mp q
          omega)
      · have z2'' : ¬ (10 : Int32) ≤ nI v := fun q => z2 ((nI_le' (a := 10) (by decide) (by omega)).mp q)
        rw [if_neg z2'', if_neg z2'', gc_p (gI_nI hn (by decide)), nI_clamp (show n < 2 ^ 31 by omega), hT1.2.1, b_bit (by omega) (by omega)]
        cases hbv : b.testBit v
        · rw [if_pos (show b2 false = 0 from rfl), if_neg (show ¬ b2 false = 1 by decide)]
          exact lift (core fun f hf _ q => by
            rw [n1, n2.1] at q
            have := (nI_inj (by omega) (by omega)).mp q
            rw [← this, hv]
            exact hbv)
        · rw [if_neg (show ¬ b2 true = 0 by decide), if_pos (show b2 true = 1 from rfl)]
          obtain ⟨x', y', r1, r2, r3⟩ := refuse_sp u4 (v := 3) (a := 3) rfl (by decide)
          unfold fX11_readTribe_87
          rw [r1, r2, bd, bd, toldN_F r3, bd]
          dsimp only
          rw [if_neg r3.n1]
          obtain ⟨y2, g1, g2⟩ := trF (q := q) r3 hn
          exact .inl ⟨x', y2, rfl, g1, g2⟩
    · rw [if_neg z, if_neg (fun q => z (hk.mp q))]
      exact lift (core fun f _ q _ => absurd q z)
theorem stiff_loop {w : Int64} {s : Nat} (hn : n < 5) : ∀ (d i b c p q : Nat) (x y : gS), i + d = 10 → RD x0 y0 t L c x y → TN n w s b y → b < 1024 → cbn 10 b = i → d ≤ p → d ≤ q →
    (∃ x' y', hX4_passStiff_4 (p + 1) (nI b) (nI i) x = some (-1, x') ∧ hX11_readTribe_38 (q + 2) (nI n) y = some y' ∧ FL x0 y0 t x' y') ∨
    ∃ x' y' c' b' q', hX4_passStiff_4 (p + 1) (nI b) (nI i) x = some (nI b', x') ∧ hX11_readTribe_38 (q + 2) (nI n) y = hX11_readTribe_38 (q' + 1) (nI n) y' ∧ RD x0 y0 t L c' x' y' ∧ c ≤ c' ∧ TN n w s b' y' ∧ b' < 1024 ∧ ¬ x'.1 19 2 = 3 := by
  intro d
  induction d with
  | zero =>
    intro i b c p q x y e h hT hb hc hp hq
    rcases stiff_step (p := p) (q := q) hn h hT (by omega) hb hc with g | ⟨g1, g2⟩ | ⟨x', y', c', b', -, -, -, -, -, g, -⟩
    · exact .inl g
    · exact .inr ⟨x, y, c, b, q + 1, g1, rfl, h, Nat.le_refl _, hT, hb, g2⟩
    · omega
  | succ d ih =>
    intro i b c p q x y e h hT hb hc hp hq
    rcases stiff_step (p := p) (q := q) hn h hT (by omega) hb hc with g | ⟨g1, g2⟩ | ⟨x', y', c', b', g1, g2, g3, g4, g5, g6, g7, g8⟩
    · exact .inl g
    · exact .inr ⟨x, y, c, b, q + 1, g1, rfl, h, Nat.le_refl _, hT, hb, g2⟩
    · obtain ⟨p, rfl⟩ : ∃ k, p = k + 1 := ⟨p - 1, by omega⟩
      obtain ⟨q, rfl⟩ : ∃ k, q = k + 1 := ⟨q - 1, by omega⟩
      rw [g1, g2]
      rcases ih (i + 1) b' c' p q x' y' (by omega) g3 g5 g7 g8 (by omega) (by omega) with k | ⟨x2, y2, c2, b2, q2, k1, k2, k3, k4, k5, k6, k7⟩
      · exact .inl k
      · exact .inr ⟨x2, y2, c2, b2, q2, k1, k2, k3, by omega, k5, k6, k7⟩
/-- the worths of a new tribe -/
theorem worth0 (hn : n < 5) (y : gS) : ∃ y', hX11_readTribe_140 FU (nI n) 0 y = some y' ∧ y'.2 = y.2 ∧ ∀ k j, y'.1 k j = if k = 0 ∧ j = 44 then y.1 0 44 + 1 else if k = 14 ∧ 8 * n ≤ j ∧ j < 8 * n + 8 then -1 else y.1 k j := by
  obtain ⟨s, m, e, hp⟩ := lp (fun k (s : Int32 × gS) => hX11_readTribe_140 k (nI n) s.1 s.2) 8 (fun i s => s.1 = nI i ∧ s.2.2 = y.2 ∧ ∀ k j, s.2.1 k j = if k = 14 ∧ 8 * n ≤ j ∧ j < 8 * n + i then -1 else y.1 k j) (by
    intro k i ⟨l2, st⟩ hi ⟨e1, e2, e3⟩
    dsimp only at e1 e2 e3
    subst e1
    refine ⟨(nI (i + 1), wi st 14 (8 * n + i) (-1)), ?_, rfl, e2, fun k j => ?_⟩
    · show fX11_readTribe_140 (hX11_readTribe_140 k) (nI n) (nI i) st = hX11_readTribe_140 k (nI n) (nI (i + 1)) (wi st 14 (8 * n + i) (-1))
      unfold fX11_readTribe_140
      rw [if_neg (show ¬ 8 ≤ nI i from fun q => by have := (nI_le' (a := 8) (by decide) (by omega)).mp q; omega), show 8 * nI n + nI i = nI (8 * n + i) by rw [show 8 * nI n = nI (8 * n) from pk_mul 8 n, nI_ad], gc_p (gI_nI (by omega) (by decide)), nI_clamp (by omega), nI_s]
    · dsimp only
      rw [wi_1, e3]
      by_cases z : k = 14 ∧ j = 8 * n + i
      · rw [if_pos z, if_pos (by omega)]
      · rw [if_neg z]
        by_cases z2 : k = 14 ∧ 8 * n ≤ j ∧ j < 8 * n + i
        · rw [if_pos z2, if_pos (by omega)]
        · rw [if_neg z2, if_neg (by omega)]) 0 (0, y) FU (by omega) ⟨rfl, rfl, fun k j => by dsimp only; rw [if_neg (by omega)]⟩ (FU_gt (by omega))
  obtain ⟨l2, st⟩ := s
  obtain ⟨p1, p2, p3⟩ := hp
  dsimp only at e p1 p2 p3
  subst p1
  refine ⟨wi st 0 44 (y.1 0 44 + 1), ?_, p2, fun k j => ?_⟩
  · rw [e]
    show fX11_readTribe_140 (hX11_readTribe_140 m) (nI n) (nI 8) st = _
    unfold fX11_readTribe_140
    rw [if_pos (show 8 ≤ nI 8 by decide), p3, if_neg (by omega)]
  · rw [wi_1, p3]
end LI
