/-! ===== surest: the reference ===== -/
theorem FYw.xs {x y s : gS} (hf : FYw y s) (h : Inv x y) : XS x (x.2.2 0 9) s := by
  have hX := hf
  unfold FYw scrY at hX
  exact fr_xs (CX := fun _ _ => False) (x := x) (fun _ _ _ => rfl) hX (fun _ _ _ h => h) (by intros; omega) h.t4 h.xs
theorem YslW {x y st : gS} (h : Inv x y) (hf : FYw y st) {k m : Nat} (hk : k < nT y) (hm : m < nM y) : ∃ st', fX11_slipOf (nI k) (nI m) st = some (slI y k m, st') ∧ FY st st' ∧ ∀ j, st'.1 33 j = st.1 33 j := by
  obtain ⟨y', g1, g2, g3⟩ := YslipOf (hf.wf h.wf) (hf.xs h) (k := k) (m := m) (by rw [hf.nT]; exact hk) (by rw [hf.nM]; exact hm)
  rw [hf.sl] at g1
  refine ⟨y', g1, fun a b hs => g3 a b ?_ ?_, fun j => g3 33 j (by decide) (by decide)⟩
  · unfold scrY at hs; omega
  · unfold scrY at hs; omega
theorem Mn_le {M n : Nat} (hM : M < 17) (hn : n ≤ 4) : M ^ n ≤ 65536 := by
  have h1 : M ^ n ≤ 16 ^ n := Nat.pow_le_pow_left (by omega) n
  have h2 : 16 ^ n ≤ 16 ^ 4 := Nat.pow_le_pow_right (by decide) hn
  exact Nat.le_trans h1 h2
theorem Ysurely {x y st : gS} (h : Inv x y) (hf : FYw y st) {o b g f0 n r : Nat} (ho : o < nT y) (hbT : b < nT y) (hb : y.1 28 1 = nI b) (h28 : y.1 28 0 = nI f0) (hf0 : f0 < nF y) (hg : g < nF y) (hn : n ≤ 4) (hr : r < nM y ^ n) : ∃ st', fX11_surely (nI o) (nI g) (nI n) (nI r) st = some (oI (pv y o b g n 0 f0 r), st') ∧ FY st st' ∧ ∀ k, k < n → st'.1 33 k = nI (dg (nM y) n r k) := by
  have hw := h.wf
  have hM := nM17 hw
  have hF := nF9 hw
  have hMn := Mn_le hM hn
  have hM0 : 0 < n → 0 < nM y := fun h0 => Nat.pos_of_ne_zero fun z => by
    rw [z, Nat.zero_pow h0] at hr; omega
  unfold fX11_surely
  obtain ⟨s, _, e, hp⟩ := lp (fun k (s : Int32 × Int32 × gS) => hX11_surely_9 (nI o) (nI g) (nI n) (nI r) k s.1 s.2.1 s.2.2) n (fun i s => s.1 = nI (r / nM y ^ i) ∧ s.2.1 = nI (n - i) - 1 ∧ FY st s.2.2 ∧ ∀ k, n - i ≤ k → k < n → s.2.2.1 33 k = nI (dg (nM y) n r k)) (by
    intro k i ⟨l5, l6, st1⟩ hi ⟨q1, q2, q3, q4⟩
    dsimp only at q1 q2 q3 q4
    subst q1
    have el : l6 = nI (n - i - 1) := q2.trans (pk_sub (a := n - i) (b := 1) (by omega))
    subst el
    have hf1 : FYw y st1 := hf.tr q3.w
    have e50 : st1.1 0 50 = nI (nM y) := by rw [eM (hf1.wf hw), hf1.nM]
    have hm0 := hM0 (by omega)
    have hri : r / nM y ^ i ≤ r := Nat.div_le_self _ _
    have hnz : ¬ nI (nM y) = 0 := fun q => by have := (nI_eq0 (by omega)).mp q; omega
    show ∃ s', fX11_surely_9 (nI o) (nI g) (nI n) (nI r) (hX11_surely_9 (nI o) (nI g) (nI n) (nI r) k) (nI (r / nM y ^ i)) (nI (n - i - 1)) st1 = _ ∧ _
    unfold fX11_surely_9 gl
    dsimp only
    rw [if_neg (nI_nn (by omega)), wi_ne (show (0 : Nat) ≠ 33 by decide), e50, gc_p hnz, gc_p (gI_nI (show n - i - 1 < 4 by omega) (by decide)), gc_p hnz, nI_clamp (show n - i - 1 < 2 ^ 31 by omega), show nI (r / nM y ^ i) - nI (r / nM y ^ i) / nI (nM y) * nI (nM y) = nI (r / nM y ^ i % nM y) from pk_rem (by omega) (by omega) (by omega), show nI (r / nM y ^ i) / nI (nM y) = nI (r / nM y ^ i / nM y) from pk_div (by omega) (by omega) (by omega), Nat.div_div_eq_div_mul, ← Nat.pow_succ]
    refine ⟨(_, _, _), rfl, rfl, ?_, q3.tr (FY_wi (by unfold scrY; omega)), fun k h1 h2 => ?_⟩
    · show nI (n - i - 1) + -1 = nI (n - (i + 1)) - 1
      rw [show n - (i + 1) = n - i - 1 by omega, Int32.sub_eq_add_neg]
    · show (wi st1 33 (n - i - 1) _).1 33 k = _
      rw [wi_1]
      by_cases z : k = n - i - 1
      · rw [if_pos ⟨rfl, z⟩, z]
        unfold dg
        rw [show n - 1 - (n - i - 1) = i by omega]
      · rw [if_neg (fun q => z q.2)]; exact q4 k (by omega) h2) 0 (nI r, nI n - 1, st) FU (by omega) ⟨by rw [Nat.pow_zero, Nat.div_one], rfl, FY.rf st, fun k h1 h2 => absurd h1 (by omega)⟩ (FU_gt (by omega))
  obtain ⟨l5, l6, s1⟩ := s
  obtain ⟨q1, q2, q3, q4⟩ := hp
  dsimp only at q1 q2 q3 q4
  rw [Nat.sub_self] at q2 q4
  have hf1 : FYw y s1 := hf.tr q3.w
  have e2 : hX11_surely_9 (nI o) (nI g) (nI n) (nI r) FU (nI r) (nI n - 1) st = hX11_surely_57 (nI o) (nI g) (nI n) (nI r) FU (nI f0) 1 0 s1 := e.trans (by
    show fX11_surely_9 (nI o) (nI g) (nI n) (nI r) _ l5 l6 s1 = _
    unfold fX11_surely_9 gl
    rw [q2, if_pos (show nI 0 - 1 < 0 by decide), gc_p (by decide), show (0 : Int32).toNatClampNeg = 0 from rfl, hf1.now, h28])
  rw [e2]
  have key : ∀ d k f share st2 N, k + d = n → d < N → f < nF y → FYw y st2 → (∀ k, k < n → st2.1 33 k = nI (dg (nM y) n r k)) → ∃ st', hX11_surely_57 (nI o) (nI g) (nI n) (nI r) N (nI f) (nI share) (nI k) st2 = some (oI ((pv y o b g d (k % 2) f (r % nM y ^ d)).map (fun v => share * v)), st') ∧ FY st2 st' ∧ ∀ k, k < n → st'.1 33 k = nI (dg (nM y) n r k) := by
    intro d
    induction d with
    | zero =>
      intro k f share st2 N hk hN hfF hf2 hc
      obtain ⟨N, rfl⟩ : ∃ m, N = m + 1 := ⟨N - 1, by omega⟩
      refine ⟨st2, ?_, FY.rf st2, hc⟩
      show fX11_surely_57 (nI o) (nI g) (nI n) (nI r) (hX11_surely_57 (nI o) (nI g) (nI n) (nI r) N) (nI f) (nI share) (nI k) st2 = _
      unfold fX11_surely_57
      rw [show k = n by omega, if_pos (yle _), pv_0]
      by_cases z : f = g
      · rw [if_pos (by rw [z]), if_pos z]
        show _ = some (nI (share * 1), st2)
        rw [Nat.mul_one]
      · rw [if_neg (fun q => z ((nI_inj (by omega) (by omega)).mp q)), if_neg z]; rfl
    | succ d ih =>
      intro k f share st2 N hk hN hfF hf2 hc
      obtain ⟨N, rfl⟩ : ∃ m, N = m + 1 := ⟨N - 1, by omega⟩
      have hw2 := hf2.wf hw
      have hm0 := hM0 (by omega)
      have ht : k % 2 < 2 := Nat.mod_lt _ (by decide)
      have hmM : dg (nM y) n r k < nM y := Nat.mod_lt _ hm0
      obtain ⟨d1, d2⟩ := dg_e (M := nM y) (n := n) (r := r) (k := k) (by omega)
      rw [show n - k = d + 1 by omega, show n - (k + 1) = d by omega] at d1 d2
      have f2 := tO_lt hw hmM
      have f1 := fr_lt hw hmM
      show ∃ st', fX11_surely_57 (nI o) (nI g) (nI n) (nI r) (hX11_surely_57 (nI o) (nI g) (nI n) (nI r) N) (nI f) (nI share) (nI k) st2 = _ ∧ _
      unfold fX11_surely_57 gl
      dsimp only
      rw [if_neg (nle (show k < n by omega) (by omega)), gc_p (gI_nI (show k < 4 by omega) (by decide)), nI_clamp (show k < 2 ^ 31 by omega), hc k (by omega), show nI k - nI k / 2 * 2 = nI (k % 2) from pk_rem (d := 2) (by omega) (by decide) (by decide), YtakerAt ht ((hf2.now 1).trans hb), bd]
      dsimp only
      rw [Ycan hw2 (by rw [hf2.nT]; exact pr_lt ho hbT) (by rw [hf2.nM]; exact hmM), bd]
      dsimp only
      obtain ⟨s3, a1, a2, a3⟩ := YslW h hf2 (k := pr o b (k % 2)) (pr_lt ho hbT) hmM
      have hf3 : FYw y s3 := hf2.tr a2.w
      rw [a1, bd]
      dsimp only
      rw [nI_clamp (show dg (nM y) n r k < 2 ^ 31 by omega), tO_e (hf3.wf hw) (by rw [hf3.nM]; exact hmM), fr_e hw2 (by rw [hf2.nM]; exact hmM), hf3.tO, hf2.fr, hf2.cnb, od_e, nI_s, show nI share * nI (od y o b (k % 2) (dg (nM y) n r k)) = nI (share * od y o b (k % 2) (dg (nM y) n r k)) from pk_mul _ _]
      simp only [gc_p (gI_nI (show dg (nM y) n r k < 16 by omega) (by decide))]
      rw [pv_s, d1, d2]
      by_cases z1 : fr y (dg (nM y) n r k) = f
      · rw [if_pos (by rw [z1])]
        cases z2 : cnb y (pr o b (k % 2)) (dg (nM y) n r k)
        · rw [if_pos zero0', if_neg (fun q => by cases q.2)]
          exact ⟨st2, rfl, FY.rf st2, hc⟩
        · rw [if_neg one0', if_pos ⟨z1, rfl⟩]
          obtain ⟨st', g1, g2, g3⟩ := ih (k + 1) (tO y (dg (nM y) n r k)) (share * od y o b (k % 2) (dg (nM y) n r k)) s3 N (by omega) (by omega) f2 hf3 (fun j hj => (a3 j).trans (hc j hj))
          refine ⟨st', ?_, a2.tr g2, g3⟩
          rw [g1, show (k + 1) % 2 = 1 - k % 2 by omega]
          congr 2
          cases pv y o b g d (1 - k % 2) (tO y (dg (nM y) n r k)) (r % nM y ^ d) with
          | none => rfl
          | some v =>
            show oI (some (share * od y o b (k % 2) (dg (nM y) n r k) * v)) = oI (some (share * (od y o b (k % 2) (dg (nM y) n r k) * v)))
            rw [Nat.mul_assoc]
      · rw [if_neg (fun q => z1 ((nI_inj (by omega) (by omega)).mp q)), if_neg (fun q => z1 q.1)]
        exact ⟨st2, rfl, FY.rf st2, hc⟩
  obtain ⟨st', g1, g2, g3⟩ := key n 0 f0 1 s1 FU (by omega) (FU_gt (by omega)) hf0 hf1 (fun k hk => q4 k (by omega) hk)
  have g1 : hX11_surely_57 (nI o) (nI g) (nI n) (nI r) FU (nI f0) 1 0 s1 = some (oI ((pv y o b g n 0 f0 (r % nM y ^ n)).map (fun v => 1 * v)), st') := g1
  refine ⟨st', ?_, q3.tr g2, g3⟩
  rw [g1, Nat.mod_eq_of_lt hr]
  cases pv y o b g n 0 f0 r with
  | none => rfl
  | some v =>
    show some (oI (some (1 * v)), st') = _
    rw [Nat.one_mul]
theorem Ycopy {st : gS} {n : Nat} (hn : n ≤ 4) (a1 a2 a3 l4 l5 l7 l8 : Int32) (k41 : Int32 → Int32 → Int32 → gS → Option (Int32 × gS)) (k61 : Int32 → Int32 → Int32 → Int32 → Int32 → gS → Option (Int32 × gS)) : ∃ st', hX11_surest_126 a1 a2 a3 k41 k61 FU l4 l5 (nI n) l7 l8 0 st = k61 l4 l5 (nI n) l7 (l8 + 1) st' ∧ FYw st st' ∧ st'.1 0 62 = st.1 0 62 ∧ ∀ j, j < n → st'.1 32 j = st.1 33 j := by
  obtain ⟨s, _, e, hp⟩ := lp (fun k (s : Int32 × gS) => hX11_surest_126 a1 a2 a3 k41 k61 k l4 l5 (nI n) l7 l8 s.1 s.2) n (fun i s => s.1 = nI i ∧ FYw st s.2 ∧ s.2.1 0 62 = st.1 0 62 ∧ (∀ j, s.2.1 33 j = st.1 33 j) ∧ ∀ j, j < i → s.2.1 32 j = st.1 33 j) (by
    intro k i ⟨l10, st1⟩ hi ⟨q1, q2, q6, q3, q4⟩
    dsimp only at q1 q2 q6 q3 q4
    subst q1
    show ∃ s', fX11_surest_126 a1 a2 a3 k41 k61 (hX11_surest_126 a1 a2 a3 k41 k61 k) l4 l5 (nI n) l7 l8 (nI i) st1 = _ ∧ _
    unfold fX11_surest_126
    rw [if_neg (nle hi (by omega)), gc_p (gI_nI (show i < 4 by omega) (by decide)), gc_p (gI_nI (show i < 16 by omega) (by decide)), nI_clamp (show i < 2 ^ 31 by omega), nI_s]
    refine ⟨(_, _), rfl, rfl, q2.tr (FYw_wi (by omega)), by show (wi st1 32 i _).1 0 62 = _; rw [wi_ne (by decide)]; exact q6, fun j => ?_, fun j hj => ?_⟩
    · show (wi st1 32 i _).1 33 j = _
      rw [wi_ne (by decide)]; exact q3 j
    · show (wi st1 32 i _).1 32 j = _
      rw [wi_1]
      by_cases z : j = i
      · rw [if_pos ⟨rfl, z⟩, z]; exact q3 i
      · rw [if_neg (fun q => z q.2)]; exact q4 j (by omega)) 0 (0, st) FU (by omega) ⟨rfl, FYw.rf st, rfl, fun _ => rfl, fun j hj => absurd hj (by omega)⟩ (FU_gt (by omega))
  obtain ⟨l10, s2⟩ := s
  obtain ⟨q1, q2, q6, q3, q4⟩ := hp
  dsimp only at q1 q2 q6 q3 q4
  subst q1
  refine ⟨s2, e.trans ?_, q2, q6, q4⟩
  show fX11_surest_126 a1 a2 a3 k41 k61 _ l4 l5 (nI n) l7 l8 (nI n) s2 = _
  unfold fX11_surest_126
  rw [if_pos (yle _)]
/-- what the reference has found behind the lengths below n -/
def YS (y : gS) (o b g f0 n : Nat) (mo mn : Int32) (st : gS) : Prop := (llV y o b g f0 n = none ∧ mo = -1) ∨ ∃ l q w r0, llV y o b g f0 n = some (l, q) ∧ mo = nI q ∧ mn = nI l ∧ bsg y o b g l 0 f0 = some w ∧ fR y o b g l 0 f0 1 w r0 ∧ ∀ j, j < l → st.1 32 j = nI (dg (nM y) l r0 j)
/-- within the rows of n moves -/
def YA (y : gS) (o b g f0 n c : Nat) (q0 : Option Nat) (mo0 mn0 : Int32) (st0 : gS) (r : Nat) (mo mn : Int32) (st : gS) : Prop :=
  ((∀ r' v, r' < r → pv y o b g n 0 f0 r' = some v → ∃ q, q0 = some q ∧ v * c ≤ q) ∧ mo = mo0 ∧ mn = mn0 ∧ ∀ j, st.1 32 j = st0.1 32 j) ∨
  ∃ r0 v0, r0 < r ∧ pv y o b g n 0 f0 r0 = some v0 ∧ (∀ q, q0 = some q → q < v0 * c) ∧ mo = nI (v0 * c) ∧ mn = nI n ∧ (∀ j, j < n → st.1 32 j = nI (dg (nM y) n r0 j)) ∧ (∀ r' v, r' < r → pv y o b g n 0 f0 r' = some v → v ≤ v0) ∧ ∀ r' v, r' < r0 → pv y o b g n 0 f0 r' = some v → v < v0
theorem Yrows {x y st0 : gS} (h : Inv x y) {o b g f0 n : Nat} (ho : o < nT y) (hbT : b < nT y) (hb : y.1 28 1 = nI b) (h28 : y.1 28 0 = nI f0) (hf0 : f0 < nF y) (hg : g < nF y) (hn : n ≤ 4) (hf : FYw y st0) {q0 : Option Nat} (hq0 : ∀ q, q0 = some q → q ≤ 100000000) (mn0 a3 : Int32) (k41 : Int32 → Int32 → Int32 → gS → Option (Int32 × gS)) :
    ∃ mo mn st', hX11_surest_61 (nI o) (nI g) a3 k41 FU (oI q0) mn0 (nI n) (nI (nM y ^ n)) 0 st0 = k41 mo mn (nI n + 1) st' ∧ FYw y st' ∧ st'.1 0 62 = st0.1 0 62 ∧ YA y o b g f0 n (100 ^ (4 - n)) q0 (oI q0) mn0 st0 (nM y ^ n) mo mn st' := by
  have hw := h.wf
  have hM := nM17 hw
  have hMn := Mn_le hM hn
  have hc0 : 0 < 100 ^ (4 - n) := Nat.pow_pos (by decide)
  obtain ⟨s, _, e, hp⟩ := lp (fun k (s : Int32 × Int32 × Int32 × gS) => hX11_surest_61 (nI o) (nI g) a3 k41 k s.1 s.2.1 (nI n) (nI (nM y ^ n)) s.2.2.1 s.2.2.2) (nM y ^ n) (fun r s => s.2.2.1 = nI r ∧ FYw y s.2.2.2 ∧ s.2.2.2.1 0 62 = st0.1 0 62 ∧ YA y o b g f0 n (100 ^ (4 - n)) q0 (oI q0) mn0 st0 r s.1 s.2.1 s.2.2.2) (by
    intro k r ⟨mo, mn, l8, st1⟩ hr ⟨q1, q2, q6, q3⟩
    dsimp only at q1 q2 q6 q3
    subst q1
    obtain ⟨s2, a1, a2, a3'⟩ := Ysurely h q2 ho hbT hb h28 hf0 hg hn hr
    have hf2 : FYw y s2 := q2.tr a2.w
    have h32 : ∀ j, s2.1 32 j = st1.1 32 j := fun j => a2 32 j (by unfold scrY; omega)
    have h62 : s2.1 0 62 = st0.1 0 62 := (a2 0 62 (by unfold scrY; omega)).trans q6
    show ∃ s', fX11_surest_61 (nI o) (nI g) a3 k41 (hX11_surest_61 (nI o) (nI g) a3 k41 k) mo mn (nI n) (nI (nM y ^ n)) (nI r) st1 = _ ∧ _
    unfold fX11_surest_61 gl
    dsimp only
    have hpw : fX11_power 100 (4 - nI n) s2 = some (nI (100 ^ (4 - n)), s2) := by
      rw [show (4 : Int32) - nI n = nI (4 - n) from pk_sub (a := 4) (by omega)]
      exact Ypower (m := 100) (by omega) s2
    rw [if_neg (nle hr (by omega)), a1, bd]
    dsimp only
    rw [hpw, bd]
    dsimp only
    rw [hpw, bd, nI_s]
    dsimp only
    -- the row does not make it better
    have stay : (∀ v, pv y o b g n 0 f0 r = some v → mo = nI 0 - 1 → False) → (∀ v q, pv y o b g n 0 f0 r = some v → mo = nI q → q ≤ 100000000 → v * 100 ^ (4 - n) ≤ q) → YA y o b g f0 n (100 ^ (4 - n)) q0 (oI q0) mn0 st0 (r + 1) mo mn s2 := fun hh1 hh2 => by
      rcases q3 with ⟨u1, u2, u3, u4⟩ | ⟨r0, v0, u1, u2, u3, u4, u5, u6, u7, u8⟩
      · left
        refine ⟨fun r' v hr' hv => ?_, u2, u3, fun j => (h32 j).trans (u4 j)⟩
        by_cases z : r' = r
        · rw [z] at hv
          cases hq : q0 with
          | none => exact (hh1 v hv (by rw [u2, hq]; rfl)).elim
          | some q => exact ⟨q, rfl, hh2 v q hv (by rw [u2, hq]; rfl) (hq0 q hq)⟩
        · exact u1 r' v (by omega) hv
      · right
        have hv8 := sc_le hn (pv_100 u2 (by omega))
        refine ⟨r0, v0, by omega, u2, u3, u4, u5, fun j hj => (h32 j).trans (u6 j hj), fun r' v hr' hv => ?_, u8⟩
        by_cases z : r' = r
        · rw [z] at hv
          exact Nat.le_of_mul_le_mul_right (hh2 v _ hv u4 hv8) hc0
        · exact u7 r' v (by omega) hv
    cases hpv : pv y o b g n 0 f0 r with
    | none =>
      rw [if_pos (show oI none < 0 by decide)]
      exact ⟨(_, _, _, _), rfl, rfl, hf2, h62, stay (fun v q => by rw [hpv] at q; cases q) (fun v q z => by rw [hpv] at z; cases z)⟩
    | some v =>
      have hv1 := pv_100 hpv hr
      have h8 := p100 hn
      have hv8 := sc_le hn hv1
      rw [if_neg (show ¬ oI (some v) < 0 from nI_nn (by omega)), show oI (some v) * nI (100 ^ (4 - n)) = nI (v * 100 ^ (4 - n)) from pk_mul _ _]
      by_cases z : mo < nI (v * 100 ^ (4 - n))
      · rw [if_pos z]
        obtain ⟨s3, c1, c2, c6, c3⟩ := Ycopy (st := s2) hn (nI o) (nI g) a3 (nI (v * 100 ^ (4 - n))) (nI n) (nI (nM y ^ n)) (nI r) k41 (hX11_surest_61 (nI o) (nI g) a3 k41 k)
        rw [c1, nI_s]
        refine ⟨(_, _, _, _), rfl, rfl, hf2.tr c2, c6.trans h62, Or.inr ⟨r, v, by omega, hpv, fun q hq => ?_, rfl, rfl, fun j hj => (c3 j hj).trans (a3' j hj), fun r' v' hr' hv' => ?_, fun r' v' hr' hv' => ?_⟩⟩
        · rcases q3 with ⟨u1, u2, u3, u4⟩ | ⟨r0, v0, u1, u2, u3, u4, u5, u6, u7, u8⟩
          · rw [u2, hq] at z
            exact (nI_lt' (by have := hq0 q hq; omega) (by omega)).mp z
          · have hv08 := sc_le hn (pv_100 u2 (by omega))
            rw [u4] at z
            have := (nI_lt' (by omega) (by omega)).mp z
            have := u3 q hq
            omega
        · by_cases w : r' = r
          · rw [w, hpv] at hv'
            rw [← Option.some.inj hv']
            exact Nat.le_refl _
          · rcases q3 with ⟨u1, u2, u3, u4⟩ | ⟨r0, v0, u1, u2, u3, u4, u5, u6, u7, u8⟩
            · obtain ⟨q, hq, hvq⟩ := u1 r' v' (by omega) hv'
              rw [u2, hq] at z
              have := (nI_lt' (by have := hq0 q hq; omega) (by omega)).mp z
              exact Nat.le_of_lt (Nat.lt_of_mul_lt_mul_right (a := 100 ^ (4 - n)) (by omega))
            · have hv08 := sc_le hn (pv_100 u2 (by omega))
              rw [u4] at z
              have := (nI_lt' (by omega) (by omega)).mp z
              have := Nat.lt_of_mul_lt_mul_right this
              have := u7 r' v' (by omega) hv'
              omega
        · rcases q3 with ⟨u1, u2, u3, u4⟩ | ⟨r0, v0, u1, u2, u3, u4, u5, u6, u7, u8⟩
          · obtain ⟨q, hq, hvq⟩ := u1 r' v' (by omega) hv'
            rw [u2, hq] at z
            have := (nI_lt' (by have := hq0 q hq; omega) (by omega)).mp z
            exact Nat.lt_of_mul_lt_mul_right (a := 100 ^ (4 - n)) (by omega)
          · have hv08 := sc_le hn (pv_100 u2 (by omega))
            rw [u4] at z
            have := (nI_lt' (by omega) (by omega)).mp z
            have := Nat.lt_of_mul_lt_mul_right this
            have := u7 r' v' (by omega) hv'
            omega
      · rw [if_neg z]
        refine ⟨(_, _, _, _), rfl, rfl, hf2, h62, stay (fun v' hv' q => ?_) (fun v' q hv' hq hq8 => ?_)⟩
        · refine z ?_
          rw [q, Int32.lt_iff_toInt_lt, nI_toInt (by omega)]
          show (-1 : Int) < _
          omega
        · rw [hpv] at hv'
          rw [← Option.some.inj hv']
          rw [hq] at z
          exact Nat.le_of_not_lt fun w => z ((nI_lt' (by omega) (by omega)).mpr w)) 0 (oI q0, mn0, 0, st0) FU (by omega) ⟨rfl, hf, rfl, Or.inl ⟨fun r' v hr' => absurd hr' (by omega), rfl, rfl, fun _ => rfl⟩⟩ (FU_gt (by omega))
  obtain ⟨mo, mn, l8, s2⟩ := s
  obtain ⟨q1, q2, q6, q3⟩ := hp
  dsimp only at q1 q2 q6 q3
  subst q1
  refine ⟨mo, mn, s2, e.trans ?_, q2, q6, q3⟩
  show fX11_surest_61 (nI o) (nI g) a3 k41 _ mo mn (nI n) (nI (nM y ^ n)) (nI (nM y ^ n)) s2 = _
  unfold fX11_surest_61
  rw [if_pos (yle _)]
