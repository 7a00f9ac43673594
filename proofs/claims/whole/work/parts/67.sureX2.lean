/-! ===== surest: the class goes on ===== -/
theorem Xpower {n : Nat} (hn : n ≤ 4) (st : gS) : fX9_power (nI n) st = some (nI (100 ^ n), st) := by
  unfold fX9_power
  obtain ⟨s, _, e, hp⟩ := lp (fun k (s : Int32 × Int32 × gS) => hX9_power_4 (nI n) k s.1 s.2.1 s.2.2) n (fun i s => s = (nI (100 ^ i), nI i, st)) (by
    intro k i s hi hs
    subst hs
    refine ⟨(_, _, _), ?_, rfl⟩
    show fX9_power_4 (nI n) (hX9_power_4 (nI n) k) (nI (100 ^ i)) (nI i) st = hX9_power_4 (nI n) k (nI (100 ^ (i + 1))) (nI (i + 1)) st
    unfold fX9_power_4
    rw [if_neg (nle hi (by omega)), nI_s, show nI (100 ^ i) * 100 = nI (100 ^ i * 100) from pk_mul _ 100, ← Nat.pow_succ]) 0 (1, 0, st) FU (by omega) rfl (FU_gt (by omega))
  subst hp
  refine e.trans ?_
  show fX9_power_4 (nI n) _ _ (nI n) st = _
  unfold fX9_power_4
  rw [if_pos (yle _)]
theorem Ypower {m n : Nat} (hn : n ≤ 4) (st : gS) : fX11_power (nI m) (nI n) st = some (nI (m ^ n), st) := by
  unfold fX11_power
  obtain ⟨s, _, e, hp⟩ := lp (fun k (s : Int32 × Int32 × gS) => hX11_power_4 (nI m) (nI n) k s.1 s.2.1 s.2.2) n (fun i s => s = (nI (m ^ i), nI i, st)) (by
    intro k i s hi hs
    subst hs
    refine ⟨(_, _, _), ?_, rfl⟩
    show fX11_power_4 (nI m) (nI n) (hX11_power_4 (nI m) (nI n) k) (nI (m ^ i)) (nI i) st = hX11_power_4 (nI m) (nI n) k (nI (m ^ (i + 1))) (nI (i + 1)) st
    unfold fX11_power_4
    rw [if_neg (nle hi (by omega)), nI_s, show nI (m ^ i) * nI m = nI (m ^ i * m) from pk_mul _ m, ← Nat.pow_succ]) 0 (1, 0, st) FU (by omega) rfl (FU_gt (by omega))
  subst hp
  refine e.trans ?_
  show fX11_power_4 (nI m) (nI n) _ _ (nI n) st = _
  unfold fX11_power_4
  rw [if_pos (yle _)]
/-- the best of the lengths below n, and how good it is -/
def llV (y : gS) (o b g f : Nat) : Nat → Option (Nat × Nat)
  | 0 => none
  | n + 1 => match bsg y o b g n 0 f with
    | none => llV y o b g f n
    | some w => match llV y o b g f n with
      | none => some (n, w * 100 ^ (4 - n))
      | some q => if q.2 < w * 100 ^ (4 - n) then some (n, w * 100 ^ (4 - n)) else some q
theorem sc_le {w n : Nat} (hn : n ≤ 4) (hw : w ≤ 100 ^ n) : w * 100 ^ (4 - n) ≤ 100000000 := by
  have h1 : w * 100 ^ (4 - n) ≤ 100 ^ n * 100 ^ (4 - n) := Nat.mul_le_mul_right _ hw
  rw [← Nat.pow_add, show n + (4 - n) = 4 by omega] at h1
  exact h1
theorem llV_s {y : gS} {o b g f n : Nat} {q : Nat × Nat} (h : llV y o b g f n = some q) : q.1 < n ∧ ∃ w, bsg y o b g q.1 0 f = some w ∧ q.2 = w * 100 ^ (4 - q.1) := by
  induction n generalizing q with
  | zero => cases h
  | succ n ih =>
    rw [llV] at h
    cases hB : bsg y o b g n 0 f with
    | none =>
      rw [hB] at h
      obtain ⟨h1, h2⟩ := ih h
      exact ⟨by omega, h2⟩
    | some w =>
      rw [hB] at h
      dsimp only at h
      cases hL : llV y o b g f n with
      | none =>
        rw [hL] at h
        have h := Option.some.inj h
        subst h
        exact ⟨by show n < n + 1; omega, w, hB, rfl⟩
      | some p =>
        rw [hL] at h
        dsimp only at h
        by_cases z : p.2 < w * 100 ^ (4 - n)
        · rw [if_pos z] at h
          have h := Option.some.inj h
          subst h
          exact ⟨by show n < n + 1; omega, w, hB, rfl⟩
        · rw [if_neg z] at h
          have h := Option.some.inj h
          subst h
          obtain ⟨h1, h2⟩ := ih hL
          exact ⟨by omega, h2⟩
theorem llV_le {y : gS} {o b g f n : Nat} {q : Nat × Nat} (h : llV y o b g f n = some q) (hn : n ≤ 5) : q.2 ≤ 100000000 := by
  obtain ⟨h1, w, h2, h3⟩ := llV_s h
  rw [h3]
  exact sc_le (by omega) (bsg_le h2)
theorem m1lt {v : Nat} (h : v < 2 ^ 31) : ¬ nI v ≤ -1 := by
  rw [Int32.le_iff_toInt_le, nI_toInt h]
  show ¬ (v : Int) ≤ -1
  omega
theorem XlikeL {x y st : gS} {o b g f : Nat} (hB : XB y o b g 4 st) (hf : f < 8) : fX9_likeliestLength (nI f) st = some (oI ((llV y o b g f 5).map Prod.fst), st) := by
  unfold fX9_likeliestLength
  obtain ⟨s, _, e, hp⟩ := lp (fun k (s : Int32 × Int32 × Int32 × gS) => hX9_likeliestLength_7 (nI f) k s.1 s.2.1 s.2.2.1 s.2.2.2) 5 (fun i s => s = (oI ((llV y o b g f i).map Prod.fst), oI ((llV y o b g f i).map Prod.snd), nI i, st)) (by
    intro k i s hi hs
    subst hs
    refine ⟨(_, _, _, _), ?_, rfl⟩
    show fX9_likeliestLength_7 (nI f) (hX9_likeliestLength_7 (nI f) k) _ _ (nI i) st = hX9_likeliestLength_7 (nI f) k (oI ((llV y o b g f (i + 1)).map Prod.fst)) (oI ((llV y o b g f (i + 1)).map Prod.snd)) (nI (i + 1)) st
    have hrow : st.1 (159 + 1 + i) f = oI (bsg y o b g i 0 f) := by
      have := hB i 0 f (by omega) (by decide) hf
      rwa [show 8 * 0 + f = f by omega] at this
    unfold fX9_likeliestLength_7 fX9_likeliestLength_44 gl
    dsimp only
    rw [if_neg (show ¬ 4 < nI i from fun q => by have := (nI_lt' (a := 4) (by decide) (by omega)).mp q; omega), gc_p (gI_nI hi (by decide)), gc_p (gI_nI (show f < 16 by omega) (by decide)), nI_clamp (show i < 2 ^ 31 by omega), nI_clamp (show f < 2 ^ 31 by omega), hrow, show (4 : Int32) - nI i = nI (4 - i) from pk_sub (a := 4) (by omega), Xpower (by omega), bd, nI_s]
    dsimp only
    rw [llV]
    cases hb : bsg y o b g i 0 f with
    | none =>
      rw [if_pos (show oI none = -1 from rfl)]
      have hle : (-1 : Int32) ≤ oI ((llV y o b g f i).map Prod.snd) := by
        cases hL : llV y o b g f i with
        | none => exact Int32.le_iff_toInt_le.mpr (Int.le_refl _)
        | some p =>
          have := llV_le hL (by omega)
          show (-1 : Int32) ≤ nI p.2
          rw [Int32.le_iff_toInt_le, nI_toInt (by omega)]
          show (-1 : Int) ≤ _
          omega
      rw [if_pos hle]
    | some w =>
      have hw := bsg_le hb
      have h8 := p100 (n := i) (by omega)
      have hsc := sc_le (n := i) (by omega) hw
      rw [if_neg (show ¬ oI (some w) = -1 from nI_m1 (by omega)), show oI (some w) * nI (100 ^ (4 - i)) = nI (w * 100 ^ (4 - i)) from pk_mul _ _]
      cases hL : llV y o b g f i with
      | none =>
        rw [if_neg (show ¬ nI (w * 100 ^ (4 - i)) ≤ oI ((none : Option (Nat × Nat)).map Prod.snd) from m1lt (by omega))]
        rfl
      | some p =>
        have hp2 := llV_le hL (by omega)
        dsimp only
        show (if nI (w * 100 ^ (4 - i)) ≤ nI p.2 then _ else _) = _
        by_cases z : p.2 < w * 100 ^ (4 - i)
        · rw [if_neg (fun q => by have := (nI_le' (by omega) (by omega)).mp q; omega), if_pos z]; rfl
        · rw [if_pos ((nI_le' (by omega) (by omega)).mpr (by omega)), if_neg z]) 0 (-1, -1, 0, st) FU (by omega) rfl (FU_gt (by omega))
  subst hp
  refine e.trans ?_
  show fX9_likeliestLength_7 (nI f) _ _ _ (nI 5) st = _
  unfold fX9_likeliestLength_7
  rw [if_pos (show (4 : Int32) < nI 5 by decide)]
/-- the least move by which it can still be p -/
theorem XpickM {x y st : gS} (h : Inv x y) {o b g : Nat} (ho : o < nT y) (hb : b < nT y) (hO : XO x y o b st) (hB : XB y o b g 4 st) {l i t f d p m : Nat} (f0 : Int32) (hl : l ≤ 4) (hi : i < l) (ht : t < 2) (hf : f < 8) (hp : p ≤ 100000000) (h7 : st.1 150 7 = nI i) (hm : m < nM y) (hg : gdM y o b g (l - i - 1) t f d p m) (h1 : ∀ j, j < m → ¬ gdM y o b g (l - i - 1) t f d p j) (hu : Up y o b g (l - i - 1 + 1) t f d p) (K : Int32 → Int32 → Int32 → gS → Option gS) :
    hX9_layLikeliest_32 (x.2.2 0 9) f0 (nI l) (nI p) K FU (nI f) (nI d) (nI i) (nI t) (-1) (nI (nM y) - 1) st = K (nI (tO y m)) (nI (d * od y o b t m)) (nI (i + 1)) (wi (wi st 152 i (nI m)) 150 7 (nI (i + 1))) := by
  have hw := h.wf
  have hM := nM17 hw
  have hF := nF9 hw
  have hxs := hO.1.xt h
  have en : nI l - nI i - 1 = nI (l - i - 1) := by
    rw [show nI l - nI i = nI (l - i) from pk_sub (by omega)]
    exact pk_sub (a := l - i) (b := 1) (by omega)
  have ev : ∀ j l9 k32, j < nM y → (gdM y o b g (l - i - 1) t f d p j → fX9_layLikeliest_32 (x.2.2 0 9) f0 (nI l) (nI p) K k32 (nI f) (nI d) (nI i) (nI t) l9 (nI j) st = k32 (nI f) (nI d) (nI i) (nI t) (nI j) (nI j + -1) st) ∧ (¬ gdM y o b g (l - i - 1) t f d p j → fX9_layLikeliest_32 (x.2.2 0 9) f0 (nI l) (nI p) K k32 (nI f) (nI d) (nI i) (nI t) l9 (nI j) st = k32 (nI f) (nI d) (nI i) (nI t) l9 (nI j + -1) st) := by
    intro j l9 k32 hj
    have f1 := fr_lt hw hj
    have f2 := tO_lt hw hj
    have e8 : (1 - nI t) * 8 + nI (tO y j) = nI (8 * (1 - t) + tO y j) := by
      rw [e1t ht, show nI (1 - t) * 8 = nI ((1 - t) * 8) from pk_mul (1 - t) 8, nI_ad, Nat.mul_comm]
    have ex : fX9_layLikeliest_32 (x.2.2 0 9) f0 (nI l) (nI p) K k32 (nI f) (nI d) (nI i) (nI t) l9 (nI j) st = if nI (fr y j) = nI f then (if oI (bsg y o b g (l - i - 1) (1 - t) (tO y j)) = -1 then k32 (nI f) (nI d) (nI i) (nI t) l9 (nI j + -1) st else (if b2 (cnb y (pr o b t) j) = 0 then k32 (nI f) (nI d) (nI i) (nI t) l9 (nI j + -1) st else (if nI d * nI (od y o b t j) * oI (bsg y o b g (l - i - 1) (1 - t) (tO y j)) = nI p then k32 (nI f) (nI d) (nI i) (nI t) (nI j) (nI j + -1) st else k32 (nI f) (nI d) (nI i) (nI t) l9 (nI j + -1) st))) else k32 (nI f) (nI d) (nI i) (nI t) l9 (nI j + -1) st := by
      unfold fX9_layLikeliest_32 gl
      dsimp only
      rw [if_neg (nI_nn (show j < 2 ^ 31 by omega)), nI_clamp (show j < 2 ^ 31 by omega), nI_clamp (show t < 2 ^ 31 by omega), hO.2.1 t ht, Xcan hw hxs (pr_lt ho hb) hj, bd]
      dsimp only
      rw [xtO_e hw hxs hj, xfr_e hw hxs hj, e8, en, nI_clamp (show l - i - 1 < 2 ^ 31 by omega), nI_clamp (show 8 * (1 - t) + tO y j < 2 ^ 31 by omega), hB (l - i - 1) (1 - t) (tO y j) (by omega) (by omega) (by omega), hO.2.2 t j ht hj]
      simp only [gc_p (gI_nI (show l - i - 1 < 5 by omega) (by decide)), gc_p (gI_nI (show j < 16 by omega) (by decide)), gc_p (gI_nI (show 8 * (1 - t) + tO y j < 16 by omega) (by decide)), gc_p (gI_nI ht (by decide))]
    rw [ex]
    by_cases z1 : fr y j = f
    rotate_left
    · rw [if_neg (fun q => z1 ((nI_inj (by omega) (by omega)).mp q))]
      exact ⟨fun q => absurd q.1 z1, fun _ => rfl⟩
    rw [if_pos (by rw [z1])]
    cases hR : bsg y o b g (l - i - 1) (1 - t) (tO y j) with
    | none =>
      rw [if_pos (show oI none = -1 from rfl)]
      exact ⟨fun q => (by obtain ⟨-, -, w, q3, -⟩ := q; rw [hR] at q3; cases q3), fun _ => rfl⟩
    | some w =>
      have hwb := bsg_le hR
      have h8 := p100 (n := l - i - 1) (by omega)
      rw [if_neg (show ¬ oI (some w) = -1 from nI_m1 (by omega))]
      cases z2 : cnb y (pr o b t) j
      · rw [if_pos zero0']
        exact ⟨fun q => (by have := q.2.1; rw [z2] at this; cases this), fun _ => rfl⟩
      rw [if_neg one0', show nI d * nI (od y o b t j) = nI (d * od y o b t j) from pk_mul _ _, show nI (d * od y o b t j) * oI (some w) = nI (d * od y o b t j * w) from pk_mul _ _]
      obtain ⟨r', g1, g2⟩ := bsg_ex hR
      have hle : d * od y o b t j * w ≤ p := by
        have := hu _ _ (mulq hj g1).1 (pvI hj g1 z1 z2 g2)
        rwa [← Nat.mul_assoc] at this
      by_cases z3 : d * od y o b t j * w = p
      · rw [if_pos (by rw [z3])]
        exact ⟨fun _ => rfl, fun q => absurd ⟨z1, z2, w, hR, z3⟩ q⟩
      · rw [if_neg (fun q => z3 ((nI_inj (by omega) (by omega)).mp q))]
        refine ⟨fun q => ?_, fun _ => rfl⟩
        obtain ⟨-, -, w', q3, q4⟩ := q
        rw [hR] at q3
        rw [← Option.some.inj q3] at q4
        exact absurd q4 z3
  obtain ⟨s, k, e, hq⟩ := lp (fun k (s : Int32 × Int32 × gS) => hX9_layLikeliest_32 (x.2.2 0 9) f0 (nI l) (nI p) K k (nI f) (nI d) (nI i) (nI t) s.1 s.2.1 s.2.2) (nM y) (fun c s => s.2.1 = nI (nM y - c) - 1 ∧ s.2.2 = st ∧ (nM y - c ≤ m → s.1 = nI m)) (by
    intro k c ⟨l9, l10, st1⟩ hc ⟨q1, q2, q3⟩
    dsimp only at q1 q2 q3
    subst q2
    have el : l10 = nI (nM y - c - 1) := q1.trans (pk_sub (a := nM y - c) (b := 1) (by omega))
    subst el
    have ee : nI (nM y - c - 1) + -1 = nI (nM y - (c + 1)) - 1 := by
      rw [show nM y - (c + 1) = nM y - c - 1 by omega, Int32.sub_eq_add_neg]
    obtain ⟨v1, v2⟩ := ev (nM y - c - 1) l9 (hX9_layLikeliest_32 (x.2.2 0 9) f0 (nI l) (nI p) K k) (by omega)
    by_cases z : gdM y o b g (l - i - 1) t f d p (nM y - c - 1)
    · refine ⟨(nI (nM y - c - 1), _, st1), v1 z, ee, rfl, fun hc2 => ?_⟩
      by_cases w : nM y - c - 1 = m
      · show nI (nM y - c - 1) = _
        rw [w]
      · exact absurd z (h1 _ (by omega))
    · refine ⟨(l9, _, st1), v2 z, ee, rfl, fun hc2 => ?_⟩
      by_cases w : nM y - c - 1 = m
      · rw [w] at z; exact absurd hg z
      · exact q3 (by omega)) 0 (-1, nI (nM y) - 1, st) FU (by omega) ⟨rfl, rfl, fun q => absurd q (by omega)⟩ (FU_gt (by omega))
  obtain ⟨l9, l10, st1⟩ := s
  obtain ⟨q1, q2, q3⟩ := hq
  dsimp only at q1 q2 q3
  subst q2
  rw [Nat.sub_self] at q1 q3
  have q3 := q3 (by omega)
  subst q1 q3
  refine e.trans ?_
  show fX9_layLikeliest_32 (x.2.2 0 9) f0 (nI l) (nI p) K _ (nI f) (nI d) (nI i) (nI t) (nI m) (nI 0 - 1) st1 = _
  unfold fX9_layLikeliest_32 gl
  dsimp only
  have hx2 : FXw x (wi (wi st1 152 i (nI m)) 150 7 (nI (i + 1))) := (hO.1.tr (FXw_wi (by omega))).tr (FXw_wi (by omega))
  rw [if_pos (show nI 0 - 1 < 0 by decide), if_neg (nI_m1 (show m < 2 ^ 31 by omega)), Xlay1 _ (by omega) h7, bd, gc_p (gI_nI ht (by decide)), gc_p (gI_nI (show m < 16 by omega) (by decide)), gc_p (gI_nI (show m < 16 by omega) (by decide)), nI_clamp (show t < 2 ^ 31 by omega), nI_clamp (show m < 2 ^ 31 by omega), xtO_e hw (hx2.xt h) hm, wi_ne (by omega), wi_ne (by omega), hO.2.2 t m ht hm, nI_s, show nI d * nI (od y o b t m) = nI (d * od y o b t m) from pk_mul _ _]
theorem XlayL {x y st : gS} (h : Inv x y) {o b g f l p r : Nat} (ho : o < nT y) (hb : b < nT y) (hO : XO x y o b st) (hB : XB y o b g 4 st) (h7 : st.1 150 7 = nI 0) (hf : f < nF y) (hl : l ≤ 4) (hp : p ≤ 100000000) (hr : fR y o b g l 0 f 1 p r) (hu : Up y o b g l 0 f 1 p) : ∃ st', fX9_layLikeliest (x.2.2 0 9) (nI f) (nI l) (nI p) st = some st' ∧ FXw x st' ∧ st'.1 150 7 = nI l ∧ ∀ j, j < l → st'.1 152 j = nI (dg (nM y) l r j) := by
  have hw := h.wf
  have hM := nM17 hw
  have hF := nF9 hw
  unfold fX9_layLikeliest
  obtain ⟨s, _, e, hq⟩ := lp (fun k (s : Int32 × Int32 × Int32 × gS) => hX9_layLikeliest_9 (x.2.2 0 9) (nI f) (nI l) (nI p) k s.1 s.2.1 s.2.2.1 s.2.2.2) l (fun i s => s.2.2.1 = nI i ∧ XO x y o b s.2.2.2 ∧ XB y o b g 4 s.2.2.2 ∧ s.2.2.2.1 150 7 = nI i ∧ (∀ j, j < i → s.2.2.2.1 152 j = nI (dg (nM y) l r j)) ∧ ∃ f' d, s.1 = nI f' ∧ s.2.1 = nI d ∧ f' < nF y ∧ fR y o b g (l - i) (i % 2) f' d p (r % nM y ^ (l - i)) ∧ Up y o b g (l - i) (i % 2) f' d p) (by
    intro k i ⟨l5, l6, l7, st1⟩ hi ⟨q1, q2, q3, q4, q5, f', d, q6, q7, q8, q9, q10⟩
    dsimp only at q1 q2 q3 q4 q5 q6 q7
    subst q1 q6 q7
    have hxs := q2.1.xt h
    have ht : i % 2 < 2 := Nat.mod_lt _ (by decide)
    have el : l - i = l - i - 1 + 1 := by omega
    obtain ⟨d1, d2⟩ := dg_e (M := nM y) (n := l) (r := r) hi
    rw [show l - (i + 1) = l - i - 1 by omega] at d1 d2
    have q9' : fR y o b g (l - i - 1 + 1) (i % 2) f' d p (r % nM y ^ (l - i)) := by rw [← el]; exact q9
    have q10' : Up y o b g (l - i - 1 + 1) (i % 2) f' d p := by rw [← el]; exact q10
    obtain ⟨u1, u2, u3, u4, u5⟩ := fR_s q9' q10'
    rw [d1] at u1 u2 u3 u4 u5
    rw [d2] at u4
    show ∃ s', fX9_layLikeliest_9 (x.2.2 0 9) (nI f) (nI l) (nI p) (hX9_layLikeliest_9 (x.2.2 0 9) (nI f) (nI l) (nI p) k) (nI f') (nI d) (nI i) st1 = _ ∧ _
    unfold fX9_layLikeliest_9 gl
    dsimp only
    rw [if_neg (nle hi (by omega)), xM hw hxs, bit1 i (by omega), XpickM h ho hb q2 q3 (nI f) hl hi ht (by omega) hp q4 u1 u2 u3 q10']
    refine ⟨(_, _, _, _), rfl, rfl, ⟨(q2.1.tr (FXw_wi (by omega))).tr (FXw_wi (by omega)), fun t ht => ?_, fun t m ht hm => ?_⟩, fun k t f hk ht hf => ?_, ?_, fun j hj => ?_, _, _, rfl, rfl, tO_lt hw u1, ?_, ?_⟩
    · show (wi (wi st1 152 i _) 150 7 _).1 151 t = _
      rw [wi_ne (by decide), wi_ne (by decide)]; exact q2.2.1 t ht
    · show (wi (wi st1 152 i _) 150 7 _).1 (156 + 1 + t) m = _
      rw [wi_ne (by omega), wi_ne (by omega)]; exact q2.2.2 t m ht hm
    · show (wi (wi st1 152 i _) 150 7 _).1 (159 + 1 + k) _ = _
      rw [wi_ne (by omega), wi_ne (by omega)]; exact q3 k t f hk ht hf
    · show (wi (wi st1 152 i _) 150 7 _).1 150 7 = _
      rw [wi_1, if_pos ⟨rfl, rfl⟩]
    · show (wi (wi st1 152 i _) 150 7 _).1 152 j = _
      rw [wi_ne (by decide), wi_1]
      by_cases z : j = i
      · rw [if_pos ⟨rfl, z⟩, z]
      · rw [if_neg (fun q => z q.2)]; exact q5 j (by omega)
    · rw [show l - (i + 1) = l - i - 1 by omega, show (i + 1) % 2 = 1 - i % 2 by omega]; exact u4
    · rw [show l - (i + 1) = l - i - 1 by omega, show (i + 1) % 2 = 1 - i % 2 by omega]; exact u5) 0 (nI f, 1, 0, st) FU (by omega) ⟨rfl, hO, hB, h7, fun j hj => absurd hj (by omega), f, 1, rfl, rfl, hf, by
      rw [Nat.sub_zero, Nat.mod_eq_of_lt hr.1]; exact hr, by rw [Nat.sub_zero]; exact hu⟩ (FU_gt (by omega))
  obtain ⟨l5, l6, l7, s2⟩ := s
  obtain ⟨q1, q2, q3, q4, q5, f', d, q6, q7, q8, q9, q10⟩ := hq
  dsimp only at q1 q2 q3 q4 q5 q6 q7
  subst q1
  refine ⟨s2, e.trans ?_, q2.1, q4, q5⟩
  show fX9_layLikeliest_9 (x.2.2 0 9) (nI f) (nI l) (nI p) _ l5 l6 (nI l) s2 = _
  unfold fX9_layLikeliest_9
  rw [if_pos (yle _)]
theorem Xcommon {p w : Nat} (hp : p ≤ 100000000) (hw : w ≤ 100000000) (h0 : 0 < w) (st : gS) : fX9_commonPart (nI p) (nI w) st = some (nI (Nat.gcd w p), st) := by
  unfold fX9_commonPart
  have key := eu_end (P := fun n a b => a ≤ 100000000 → b ≤ 100000000 → 0 < Nat.gcd a b → ∀ k i, n < k → i + n ≤ 40 → hX9_commonPart_7 (nI p) (nI w) k (nI a) (nI b) (nI i) st = some (nI (Nat.gcd a b), st)) (by
      intro n a ha _ h0 k i hk hi
      rw [Nat.gcd_zero_right] at h0 ⊢
      obtain ⟨k, rfl⟩ : ∃ m, k = m + 1 := ⟨k - 1, by omega⟩
      show fX9_commonPart_7 (nI p) (nI w) (hX9_commonPart_7 (nI p) (nI w) k) (nI a) (nI 0) (nI i) st = _
      unfold fX9_commonPart_7 fX9_commonPart_34
      rw [if_pos (show nI 0 = 0 from rfl), if_neg (show ¬ nI a = 0 from fun q => by have := (nI_eq0 (by omega)).mp q; omega)]
      by_cases z : 40 ≤ nI i
      · rw [if_pos z]
      · rw [if_neg z]) (by
      intro n a b hb ih ha hb2 h0 k i hk hi
      obtain ⟨k, rfl⟩ : ∃ m, k = m + 1 := ⟨k - 1, by omega⟩
      have hr : a % b < b := Nat.mod_lt _ hb
      have hgg : Nat.gcd b (a % b) = Nat.gcd a b := by
        rw [Nat.gcd_comm a b, Nat.gcd_rec b a, Nat.gcd_comm]
      have := ih hb2 (by omega) (by rw [hgg]; exact h0) k (i + 1) (by omega) (by omega)
      show fX9_commonPart_7 (nI p) (nI w) (hX9_commonPart_7 (nI p) (nI w) k) (nI a) (nI b) (nI i) st = _
      unfold fX9_commonPart_7 gl
      dsimp only
      have hb0 : ¬ nI b = 0 := fun q => by have := (nI_eq0 (by omega)).mp q; omega
      rw [if_neg (show ¬ 40 ≤ nI i from nI_ge (b := 40) (by omega) (by omega)), if_neg hb0, gc_p hb0, show nI a - nI a / nI b * nI b = nI (a % b) from pk_rem (by omega) (by omega) (by omega), nI_s, this, hgg])
  have hg : 0 < Nat.gcd w p := Nat.gcd_pos_of_pos_left _ h0
  exact key 38 w p (Nat.lt_of_le_of_lt hp eG38) hw hp hg FU 0 (FU_gt (by omega)) (by omega)
theorem Ydiv {p w : Nat} (hp : p ≤ 100000000) (hw : w ≤ 100000000) (st : gS) : fX11_divisor (nI w) (nI p) st = some (nI (Nat.gcd w p), st) := by
  unfold fX11_divisor
  have key := eu_end (P := fun n a b => a ≤ 100000000 → b ≤ 100000000 → ∀ k, n < k → hX11_divisor_4 (nI w) (nI p) k (nI a) (nI b) st = some (nI (Nat.gcd a b), st)) (by
      intro n a ha _ k hk
      rw [Nat.gcd_zero_right]
      obtain ⟨k, rfl⟩ : ∃ m, k = m + 1 := ⟨k - 1, by omega⟩
      show fX11_divisor_4 (nI w) (nI p) (hX11_divisor_4 (nI w) (nI p) k) (nI a) (nI 0) st = _
      unfold fX11_divisor_4
      rw [if_pos (show nI 0 ≤ 0 by decide)]) (by
      intro n a b hb ih ha hb2 k hk
      obtain ⟨k, rfl⟩ : ∃ m, k = m + 1 := ⟨k - 1, by omega⟩
      have hr : a % b < b := Nat.mod_lt _ hb
      have hgg : Nat.gcd b (a % b) = Nat.gcd a b := by
        rw [Nat.gcd_comm a b, Nat.gcd_rec b a, Nat.gcd_comm]
      have := ih hb2 (by omega) k (by omega)
      show fX11_divisor_4 (nI w) (nI p) (hX11_divisor_4 (nI w) (nI p) k) (nI a) (nI b) st = _
      unfold fX11_divisor_4 gl
      dsimp only
      have hb0 : ¬ nI b = 0 := fun q => by have := (nI_eq0 (by omega)).mp q; omega
      rw [if_neg (show ¬ nI b ≤ 0 from fun q => by have := (nI_le' (b := 0) (by omega) (by decide)).mp q; omega), gc_p hb0, show nI a - nI a / nI b * nI b = nI (a % b) from pk_rem (by omega) (by omega) (by omega), this, hgg])
  exact key 38 w p (Nat.lt_of_le_of_lt hp eG38) hw hp FU (FU_gt (by omega))
