/-! ===== surest: the class ===== -/
theorem XslW {x y st : gS} (h : Inv x y) (hf : FXw x st) {k m : Nat} (hk : k < nT y) (hm : m < nM y) : ∃ st', fX8_slipOf (x.2.2 0 9) (nI k) (nI m) 20 st = some (slI y k m, st') ∧ FX st st' ∧ ∀ k j, 150 ≤ k ∧ k ≤ 190 → st'.1 k j = st.1 k j := by
  obtain ⟨r0, r1, r2, r3, -, -, r16, -⟩ := h.now.2
  have ht := h.t4
  obtain ⟨x', p1, p2, p3⟩ := XslipOf ht h.wf (hf.xt h) (hf.xs h) ((hf.now 4).trans r2) ((hf.now 5).trans r3) ((hf.now 8).trans r16) hk hm
  refine ⟨x', p1, ⟨by rw [p2], fun a b hs => p3 a b ?_ ?_⟩, fun a b hs => p3 a b (by omega) (by omega)⟩
  · unfold scrX at hs; omega
  · unfold scrX at hs; omega
theorem od_e (y : gS) (o b t m : Nat) : 100 - slI y (pr o b t) m = nI (od y o b t m) := by
  have hN := slI_N y (pr o b t) m
  have := hN.2
  rw [hN.1]
  unfold od
  exact pk_sub (a := 100) (by omega)
theorem oI_m1 {a : Option Nat} {n : Nat} (h : ∀ v, a = some v → v ≤ n) (hn : n < 2 ^ 31) : oI a = -1 ↔ a = none := by
  cases a with
  | none => exact ⟨fun _ => rfl, fun _ => rfl⟩
  | some v => exact ⟨fun q => absurd q (nI_m1 (by have := h v rfl; omega)), fun q => by cases q⟩
theorem p100 {n : Nat} (h : n ≤ 4) : 100 ^ n ≤ 100000000 := by
  have := Nat.pow_le_pow_right (n := 100) (by decide) h
  exact this
/-- who takes, and the odds -/
def XO (x y : gS) (o b : Nat) (st : gS) : Prop := FXw x st ∧ (∀ t, t < 2 → st.1 151 t = nI (pr o b t)) ∧ ∀ t m, t < 2 → m < nM y → st.1 (156 + 1 + t) m = nI (od y o b t m)
def XB (y : gS) (o b g n : Nat) (st : gS) : Prop := ∀ k t f, k ≤ n → t < 2 → f < 8 → st.1 (159 + 1 + k) (8 * t + f) = oI (bsg y o b g k t f)
theorem XweighM {x y st : gS} (h : Inv x y) {o b : Nat} (g : Nat) (ho : o < nT y) (hb : b < nT y) (hO : XO x y o b st) {n : Nat} (hn : n < 4) (hB : XB y o b g n st) {t : Nat} (ht : t < 2) {E : Nat → Nat → Option Nat} (hE : ∀ s f, s < 2 → f < 8 → st.1 (159 + 1 + (n + 1)) (8 * s + f) = oI (E s f)) (hE0 : ∀ f, E t f = none) :
    ∃ st', fX9_weighMoves (x.2.2 0 9) (nI (n + 1)) (nI t) st = some st' ∧ FX st st' ∧ (∀ k j, k < 160 → st'.1 k j = st.1 k j) ∧ XO x y o b st' ∧ XB y o b g n st' ∧ ∀ s f, s < 2 → f < 8 → st'.1 (159 + 1 + (n + 1)) (8 * s + f) = oI (if s = t then bsg y o b g (n + 1) t f else E s f) := by
  have hw := h.wf
  have hM := nM17 hw
  have hF := nF9 hw
  have hp4 := p100 (n := n) (by omega)
  have hp5 := p100 (n := n + 1) (by omega)
  unfold fX9_weighMoves
  obtain ⟨s, _, e, hp⟩ := lp (fun k (s : Int32 × gS) => hX9_weighMoves_3 (x.2.2 0 9) (nI (n + 1)) (nI t) k s.1 s.2) (nM y) (fun i s => s.1 = nI i ∧ FX st s.2 ∧ (∀ k j, k < 160 → s.2.1 k j = st.1 k j) ∧ XO x y o b s.2 ∧ XB y o b g n s.2 ∧ ∀ r f, r < 2 → f < 8 → s.2.1 (159 + 1 + (n + 1)) (8 * r + f) = oI (if r = t then bsF y o b (bsg y o b g n (1 - t)) t f i else E r f)) (by
    intro k i ⟨l4, st1⟩ hi ⟨q1, q2, q7, q3, q4, q5⟩
    dsimp only at q1 q2 q7 q3 q4 q5
    subst q1
    have hxs := q3.1.xt h
    have f1 := fr_lt hw hi
    have f2 := tO_lt hw hi
    have e8 : (1 - nI t) * 8 + nI (tO y i) = nI (8 * (1 - t) + tO y i) := by
      rw [e1t ht, show nI (1 - t) * 8 = nI ((1 - t) * 8) from pk_mul (1 - t) 8, nI_ad, Nat.mul_comm]
    have e9 : nI t * 8 + nI (fr y i) = nI (8 * t + fr y i) := by
      rw [show nI t * 8 = nI (t * 8) from pk_mul t 8, nI_ad, Nat.mul_comm]
    have en : nI (n + 1) - 1 = nI n := pk_sub (a := n + 1) (b := 1) (by omega)
    -- nothing changes
    have stay : (fr y i = fr y i → cnb y (pr o b t) i = true → bsg y o b g n (1 - t) (tO y i) = none) → ∃ s' : Int32 × gS, hX9_weighMoves_3 (x.2.2 0 9) (nI (n + 1)) (nI t) k (nI (i + 1)) st1 = hX9_weighMoves_3 (x.2.2 0 9) (nI (n + 1)) (nI t) k s'.1 s'.2 ∧ s'.1 = nI (i + 1) ∧ FX st s'.2 ∧ (∀ k j, k < 160 → s'.2.1 k j = st.1 k j) ∧ XO x y o b s'.2 ∧ XB y o b g n s'.2 ∧ ∀ r f, r < 2 → f < 8 → s'.2.1 (159 + 1 + (n + 1)) (8 * r + f) = oI (if r = t then bsF y o b (bsg y o b g n (1 - t)) t f (i + 1) else E r f) := fun hh => by
      refine ⟨(_, _), rfl, rfl, q2, q7, q3, q4, fun r f hr hf => ?_⟩
      show st1.1 (159 + 1 + (n + 1)) (8 * r + f) = _
      rw [q5 r f hr hf]
      by_cases z : r = t
      · rw [if_pos z, if_pos z, bsF]
        by_cases w : fr y i = f ∧ cnb y (pr o b t) i = true
        · rw [if_pos w, hh rfl w.2]
        · rw [if_neg w]
      · rw [if_neg z, if_neg z]
    show ∃ s', fX9_weighMoves_3 (x.2.2 0 9) (nI (n + 1)) (nI t) (hX9_weighMoves_3 (x.2.2 0 9) (nI (n + 1)) (nI t) k) (nI i) st1 = _ ∧ _
    unfold fX9_weighMoves_3 gl
    dsimp only
    rw [xM hw hxs, if_neg (nle hi (by omega)), nI_clamp (show i < 2 ^ 31 by omega), nI_clamp (show t < 2 ^ 31 by omega), q3.2.1 t ht, Xcan hw hxs (pr_lt ho hb) hi, bd]
    dsimp only
    rw [xtO_e hw hxs hi, xfr_e hw hxs hi, e8, e9, en, nI_clamp (show n < 2 ^ 31 by omega), nI_clamp (show n + 1 < 2 ^ 31 by omega), nI_clamp (show 8 * (1 - t) + tO y i < 2 ^ 31 by omega), nI_clamp (show 8 * t + fr y i < 2 ^ 31 by omega), q4 n (1 - t) (tO y i) (Nat.le_refl _) (by omega) (by omega), q3.2.2 t i ht hi, q5 t (fr y i) ht (by omega), if_pos rfl, nI_s i]
    simp only [gc_p (gI_nI (show n < 5 by omega) (by decide)), gc_p (gI_nI (show n + 1 < 5 by omega) (by decide)), gc_p (gI_nI (show i < 16 by omega) (by decide)), gc_p (gI_nI (show 8 * (1 - t) + tO y i < 16 by omega) (by decide)), gc_p (gI_nI (show 8 * t + fr y i < 16 by omega) (by decide)), gc_p (gI_nI ht (by decide))]
    cases hR : bsg y o b g n (1 - t) (tO y i) with
    | none =>
      rw [if_pos (show oI none = -1 from rfl)]
      exact stay fun _ _ => hR
    | some v =>
      have hv := bsg_le hR
      rw [if_neg (show ¬ oI (some v) = -1 from nI_m1 (by omega))]
      cases z2 : cnb y (pr o b t) i
      · rw [if_pos zero0']
        exact stay fun _ q => by rw [z2] at q; cases q
      · rw [if_neg one0']
        have hod : od y o b t i * v ≤ 100000000 := by
          have := Nat.mul_le_mul (od_le (y := y) (o := o) (b := b) t i) hv
          rw [Nat.pow_succ, Nat.mul_comm] at hp5
          omega
        have hmx : (if oI (bsF y o b (bsg y o b g n (1 - t)) t (fr y i) i) < nI (od y o b t i) * oI (some v) then nI (od y o b t i) * oI (some v) else oI (bsF y o b (bsg y o b g n (1 - t)) t (fr y i) i)) = oI (omx (bsF y o b (bsg y o b g n (1 - t)) t (fr y i) i) (od y o b t i * v)) := by
          rw [show nI (od y o b t i) * oI (some v) = nI (od y o b t i * v) from pk_mul _ _]
          cases hu : bsF y o b (bsg y o b g n (1 - t)) t (fr y i) i with
          | none =>
            rw [if_pos (show oI none < nI (od y o b t i * v) by
              rw [Int32.lt_iff_toInt_lt, nI_toInt (by omega)]
              show (-1 : Int) < _
              omega)]
            rfl
          | some u =>
            obtain ⟨m', v', -, -, -, g4, g5⟩ := bsF_ex hu
            have hv' := bsg_le g4
            have hu2 : u ≤ 100000000 := by
              rw [g5]
              have := Nat.mul_le_mul (od_le (y := y) (o := o) (b := b) t m') hv'
              rw [Nat.pow_succ, Nat.mul_comm] at hp5
              omega
            show (if nI u < nI (od y o b t i * v) then _ else nI u) = nI (if u < od y o b t i * v then _ else u)
            by_cases z : u < od y o b t i * v
            · rw [if_pos ((nI_lt' (by omega) (by omega)).mpr z), if_pos z]
            · rw [if_neg (fun q => z ((nI_lt' (by omega) (by omega)).mp q)), if_neg z]
        rw [hmx]
        refine ⟨(_, _), rfl, rfl, q2.tr (FX_wi (by unfold scrX; omega)), fun k j hk => ?_, ⟨q3.1.tr (FXw_wi (by unfold scrX; omega)), fun s hs => ?_, fun s m hs hm => ?_⟩, fun k s f hk hs hf => ?_, fun r f hr hf => ?_⟩
        · show (wi st1 (159 + 1 + (n + 1)) _ _).1 k j = _
          rw [wi_ne (by omega)]; exact q7 k j hk
        · show (wi st1 (159 + 1 + (n + 1)) _ _).1 151 s = _
          rw [wi_ne (by omega)]; exact q3.2.1 s hs
        · show (wi st1 (159 + 1 + (n + 1)) _ _).1 (156 + 1 + s) m = _
          rw [wi_ne (by omega)]; exact q3.2.2 s m hs hm
        · show (wi st1 (159 + 1 + (n + 1)) _ _).1 (159 + 1 + k) _ = _
          rw [wi_ne (by omega)]; exact q4 k s f hk hs hf
        · show (wi st1 (159 + 1 + (n + 1)) _ _).1 (159 + 1 + (n + 1)) (8 * r + f) = _
          rw [wi_1]
          by_cases z : 8 * r + f = 8 * t + fr y i
          · rw [if_pos ⟨rfl, z⟩, if_pos (show r = t by omega), show f = fr y i by omega, bsF, if_pos ⟨rfl, z2⟩, hR]
          · rw [if_neg (fun q => z q.2), q5 r f hr hf]
            by_cases w : r = t
            · rw [if_pos w, if_pos w, bsF, if_neg (fun q => z (by rw [w, q.1]))]
            · rw [if_neg w, if_neg w]) 0 (0, st) FU (by omega) ⟨rfl, FX.rf st, fun _ _ _ => rfl, hO, hB, fun r f hr hf => by
          rw [hE r f hr hf]
          by_cases z : r = t
          · rw [if_pos z, z, hE0]; rfl
          · rw [if_neg z]⟩ (FU_gt (by omega))
  obtain ⟨l4, s2⟩ := s
  obtain ⟨q1, q2, q7, q3, q4, q5⟩ := hp
  dsimp only at q1 q2 q7 q3 q4 q5
  subst q1
  refine ⟨s2, e.trans ?_, q2, q7, q3, q4, q5⟩
  show fX9_weighMoves_3 (x.2.2 0 9) (nI (n + 1)) (nI t) _ (nI (nM y)) s2 = _
  unfold fX9_weighMoves_3
  rw [xM hw (q3.1.xt h), if_pos (yle _)]
theorem gnbest {n : Nat} (hn : n < 5) : gN 0 (159 + 1 + n) = 16 := by
  match n, hn with
  | 0, _ => exact gn0_160
  | 1, _ => exact gn0_161
  | 2, _ => exact gn0_162
  | 3, _ => exact gn0_163
  | 4, _ => exact gn0_164
  | n + 5, h => exact absurd h (by omega)
theorem Xweigh {x y st : gS} (h : Inv x y) {o b g : Nat} (ho : o < nT y) (hb : b < nT y) (hg : g < nF y) (hf : FX x st) (hpr : ∀ t, t < 2 → st.1 151 t = nI (pr o b t)) : ∃ st', fX9_weigh (x.2.2 0 9) 20 (nI g) st = some st' ∧ FX x st' ∧ XO x y o b st' ∧ XB y o b g 4 st' := by
  have hw := h.wf
  have hM := nM17 hw
  have hF := nF9 hw
  unfold fX9_weigh
  obtain ⟨s, _, e, hp⟩ := lp (fun k (s : Int32 × gS) => hX9_weigh_3 (x.2.2 0 9) 20 (nI g) k s.1 s.2) (nM y) (fun i s => s.1 = nI i ∧ FX x s.2 ∧ (∀ t, t < 2 → s.2.1 151 t = nI (pr o b t)) ∧ ∀ t m, t < 2 → m < i → s.2.1 (156 + 1 + t) m = nI (od y o b t m)) (by
    intro k i ⟨l4, st1⟩ hi ⟨q1, q2, q3, q4⟩
    dsimp only at q1 q2 q3 q4
    subst q1
    have hxs := q2.w.xt h
    show ∃ s', fX9_weigh_3 (x.2.2 0 9) 20 (nI g) (hX9_weigh_3 (x.2.2 0 9) 20 (nI g) k) (nI i) st1 = _ ∧ _
    unfold fX9_weigh_3
    obtain ⟨s2, a1, a2, a3⟩ := XslW h q2.w (k := pr o b 0) (pr_lt ho hb) hi
    have p0 : st1.1 151 0 = nI (pr o b 0) := q3 0 (by decide)
    rw [xM hw hxs, if_neg (nle hi (by omega)), gc_p (by decide), gc_p (by decide), show (0 : Int32).toNatClampNeg = 0 from rfl, show (1 : Int32).toNatClampNeg = 1 from rfl, p0, a1, bd]
    dsimp only
    rw [gc_p (gI_nI (show i < 16 by omega) (by decide)), gc_p (by decide), gc_p (by decide), nI_clamp (show i < 2 ^ 31 by omega), od_e]
    have fx3 : FX x (wi s2 (156 + 1 + 0) i (nI (od y o b 0 i))) := (q2.tr a2).tr (FX_wi (by unfold scrX; omega))
    have p1 : (wi s2 (156 + 1 + 0) i (nI (od y o b 0 i))).1 151 1 = nI (pr o b 1) := by
      rw [wi_ne (by decide), a3 151 1 (by omega)]; exact q3 1 (by decide)
    obtain ⟨s4, b1, b2, b3⟩ := XslW h fx3.w (k := pr o b 1) (pr_lt ho hb) hi
    rw [p1, b1, bd]
    dsimp only
    rw [gc_p (gI_nI (show i < 16 by omega) (by decide)), od_e, nI_s]
    refine ⟨(_, _), rfl, rfl, (fx3.tr b2).tr (FX_wi (by unfold scrX; omega)), fun t ht => ?_, fun t m ht hm => ?_⟩
    · show (wi s4 (156 + 1 + 1) i _).1 151 t = _
      rw [wi_ne (by decide), b3 151 t (by omega), wi_ne (by decide), a3 151 t (by omega)]; exact q3 t ht
    · show (wi s4 (156 + 1 + 1) i _).1 (156 + 1 + t) m = _
      rw [wi_1]
      match t, ht with
      | 0, _ =>
        rw [if_neg (by omega), b3 _ m (by omega), wi_1]
        by_cases z : m = i
        · rw [if_pos ⟨rfl, z⟩, z]
        · rw [if_neg (fun q => z q.2), a3 _ m (by omega)]; exact q4 0 m (by decide) (by omega)
      | 1, _ =>
        by_cases z : m = i
        · rw [if_pos ⟨rfl, z⟩, z]
        · rw [if_neg (fun q => z q.2), b3 _ m (by omega), wi_ne (by decide), a3 _ m (by omega)]; exact q4 1 m (by decide) (by omega)
      | n + 2, ht => exact absurd ht (by omega)) 0 (0, st) FU (by omega) ⟨rfl, hf, hpr, fun t m ht hm => absurd hm (by omega)⟩ (FU_gt (by omega))
  obtain ⟨l4, s1⟩ := s
  obtain ⟨q1, q2, q3, q4⟩ := hp
  dsimp only at q1 q2 q3 q4
  subst q1
  -- best[0]
  obtain ⟨s2, f1, f2, f3⟩ := fill_spec (r := 159 + 1 + 0) gn0_160 (by decide) (-1) s1
  have e2 : hX9_weigh_3 (x.2.2 0 9) 20 (nI g) FU 0 st = hX9_weigh_102 (x.2.2 0 9) 20 (nI g) FU 1 (wi (wi s2 (159 + 1 + 0) g 1) (159 + 1 + 0) (8 + g) 1) := e.trans (by
    show fX9_weigh_3 (x.2.2 0 9) 20 (nI g) _ (nI (nM y)) s1 = _
    unfold fX9_weigh_3
    rw [xM hw (q2.w.xt h), if_pos (yle _), gc_p (by decide), show (0 : Int32).toNatClampNeg = 0 from rfl, f1, bd, gc_p (by decide), gc_p (gI_nI (show g < 16 by omega) (by decide)), gc_p (by decide), show 8 + nI g = nI (8 + g) from nI_ad 8 g, gc_p (gI_nI (show 8 + g < 16 by omega) (by decide)), nI_clamp (show g < 2 ^ 31 by omega), nI_clamp (show 8 + g < 2 ^ 31 by omega)])
  rw [e2]
  have fx0 : FX x (wi (wi s2 (159 + 1 + 0) g 1) (159 + 1 + 0) (8 + g) 1) := by
    refine q2.tr ⟨by show s2.2.2 = _; rw [f2], fun k j hk => ?_⟩
    unfold scrX at hk
    rw [wi_1, if_neg (by omega), wi_1, if_neg (by omega), f3, if_neg (by omega)]
  have xo0 : XO x y o b (wi (wi s2 (159 + 1 + 0) g 1) (159 + 1 + 0) (8 + g) 1) := by
    refine ⟨fx0.w, fun t ht => ?_, fun t m ht hm => ?_⟩
    · rw [wi_1, if_neg (by omega), wi_1, if_neg (by omega), f3, if_neg (by omega)]; exact q3 t ht
    · rw [wi_1, if_neg (by omega), wi_1, if_neg (by omega), f3, if_neg (by omega)]; exact q4 t m ht hm
  have xb0 : XB y o b g 0 (wi (wi s2 (159 + 1 + 0) g 1) (159 + 1 + 0) (8 + g) 1) := by
    intro k t f hk ht hf8
    rw [show k = 0 by omega, wi_1, wi_1, f3]
    show _ = oI (if f = g then some 1 else none)
    by_cases z : f = g
    · rw [if_pos z]
      match t, ht with
      | 0, _ => rw [if_neg (by omega), if_pos ⟨rfl, by omega⟩]; rfl
      | 1, _ => rw [if_pos ⟨rfl, by omega⟩]; rfl
      | n + 2, ht => exact absurd ht (by omega)
    · rw [if_neg z, if_neg (by omega), if_neg (by omega), if_pos ⟨rfl, by omega⟩]; rfl
  generalize wi (wi s2 (159 + 1 + 0) g 1) (159 + 1 + 0) (8 + g) 1 = s3 at fx0 xo0 xb0
  obtain ⟨s, _, e, hp⟩ := lp (fun k (s : Int32 × gS) => hX9_weigh_102 (x.2.2 0 9) 20 (nI g) k s.1 s.2) 4 (fun i s => s.1 = nI (i + 1) ∧ FX x s.2 ∧ XO x y o b s.2 ∧ XB y o b g i s.2) (by
    intro k i ⟨l4, st1⟩ hi ⟨q1, q2, q3, q4⟩
    dsimp only at q1 q2 q3 q4
    subst q1
    show ∃ s', fX9_weigh_102 (x.2.2 0 9) 20 (nI g) (hX9_weigh_102 (x.2.2 0 9) 20 (nI g) k) (nI (i + 1)) st1 = _ ∧ _
    unfold fX9_weigh_102
    obtain ⟨s4, f1, f2, f3⟩ := fill_spec (r := 159 + 1 + (i + 1)) (gnbest (by omega)) (by decide) (-1) st1
    have fx4 : FX x s4 := q2.tr ⟨by rw [f2], fun k j hk => by unfold scrX at hk; rw [f3, if_neg (by omega)]⟩
    have xo4 : XO x y o b s4 := ⟨fx4.w, fun t ht => by rw [f3, if_neg (by omega)]; exact q3.2.1 t ht, fun t m ht hm => by rw [f3, if_neg (by omega)]; exact q3.2.2 t m ht hm⟩
    have xb4 : XB y o b g i s4 := fun k t f hk ht hf8 => by rw [f3, if_neg (by omega)]; exact q4 k t f hk ht hf8
    obtain ⟨s5, a1, a2, -, a3, a4, a5⟩ := XweighM h g ho hb xo4 hi xb4 (t := 0) (by decide) (E := fun _ _ => none) (fun s f hs hf8 => by rw [f3, if_pos ⟨rfl, by omega⟩]; rfl) (fun _ => rfl)
    obtain ⟨s6, b1, b2, -, b3, b4, b5⟩ := XweighM h g ho hb a3 hi a4 (t := 1) (by decide) (E := fun s f => if s = 0 then bsg y o b g (i + 1) 0 f else none) a5 (fun f => rfl)
    have a1 : fX9_weighMoves (x.2.2 0 9) (nI (i + 1)) 0 s4 = some s5 := a1
    have b1 : fX9_weighMoves (x.2.2 0 9) (nI (i + 1)) 1 s5 = some s6 := b1
    rw [if_neg (show ¬ 4 < nI (i + 1) from fun q => by have := (nI_lt' (a := 4) (by decide) (by omega)).mp q; omega), gc_p (gI_nI (show i + 1 < 5 by omega) (by decide)), nI_clamp (show i + 1 < 2 ^ 31 by omega), f1, bd, a1, bd, b1, bd, nI_s]
    refine ⟨(_, _), rfl, rfl, (fx4.tr a2).tr b2, b3, fun k t f hk ht hf8 => ?_⟩
    by_cases z : k = i + 1
    · rw [z]
      have := b5 t f ht hf8
      dsimp only at this ⊢
      rw [this]
      match t, ht with
      | 0, _ => rfl
      | 1, _ => rfl
      | n + 2, ht => exact absurd ht (by omega)
    · exact b4 k t f (by omega) ht hf8) 0 (1, s3) FU (by omega) ⟨rfl, fx0, xo0, xb0⟩ (FU_gt (by omega))
  obtain ⟨l4, s4⟩ := s
  obtain ⟨q1, q2, q3, q4⟩ := hp
  dsimp only at q1 q2 q3 q4
  subst q1
  refine ⟨s4, e.trans ?_, q2, q3, q4⟩
  show fX9_weigh_102 (x.2.2 0 9) 20 (nI g) _ (nI 5) s4 = _
  unfold fX9_weigh_102
  rw [if_pos (show (4 : Int32) < nI 5 by decide)]
