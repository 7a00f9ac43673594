/-! ===== rows: the reference ===== -/
def PY (y : gS) : Prop := isN (y.1 0 73) 31 ∧ ∀ i, i < vN (y.1 0 73) → gB (y.1 42 i)
theorem Inv.py {x y : gS} (h : Inv x y) : PY y := ⟨h.past.1, fun i hi => (h.past.2.2.2.2 i hi).2.1⟩
theorem FY.py {y s : gS} (h : FY y s) (hp : PY y) : PY s := by
  unfold PY
  rw [h 0 73 (by unfold scrY; omega)]
  exact ⟨hp.1, fun i hi => by rw [h 42 i (by unfold scrY; omega)]; exact hp.2 i hi⟩
theorem alN_u (y : gS) (K : Int32) (s n o j : Nat) : alN y K s n o (j + 1) = (alN y K s n o j && (!(decide (y.1 37 j = nI s) && decide (y.1 38 j = nI n) && cts y K j) || (decide (y.1 39 j = nI o) == decide (y.1 42 j = 1)))) := rfl
theorem al_u (y : gS) (K : Int32) (s n o : Nat) : al y K s n o = alN y K s n o (vN (y.1 0 73)) := rfl
theorem FY.alN {y s : gS} (h : FY y s) (K : Int32) (a n o j : Nat) : alN s K a n o j = alN y K a n o j := by
  induction j with
  | zero => rfl
  | succ j ih =>
    rw [alN_u, alN_u, ih]
    unfold cts
    rw [h 37 j (by unfold scrY; omega), h 38 j (by unfold scrY; omega), h 39 j (by unfold scrY; omega), h 40 j (by unfold scrY; omega), h 41 j (by unfold scrY; omega), h 42 j (by unfold scrY; omega)]
theorem FY.al {y s : gS} (h : FY y s) (K : Int32) (a n o : Nat) : al s K a n o = al y K a n o := by
  rw [al_u, al_u, h.alN, h 0 73 (by unfold scrY; omega)]
theorem FY.fg {y s : gS} (h : FY y s) (m : Nat) : fg s m = fg y m := by show vN (s.1 23 m) = vN (y.1 23 m); rw [h 23 m (by unfold scrY; omega)]
theorem Yallows {y : gS} (hp : PY y) (K : Int32) (a n o : Nat) : fX11_allows (nI a) (nI n) (nI o) K y = some (b2 (al y K a n o), y) := by
  obtain ⟨p1, p2⟩ := hp
  have hl := p1.2
  have e73 := p1.1
  unfold fX11_allows
  show hX11_allows_6 (nI a) (nI n) (nI o) K FU 1 0 y = some (b2 (alN y K a n o (vN (y.1 0 73))), y)
  generalize vN (y.1 0 73) = N at *
  refine lpx (fun k (s : Int32 × Int32 × gS) => hX11_allows_6 (nI a) (nI n) (nI o) K k s.1 s.2.1 s.2.2) N (fun i s => s = (b2 (alN y K a n o i), nI i, y)) (fun r => r = some (b2 (alN y K a n o N), y)) ?_ ?_ 0 (1, 0, y) FU (by omega) rfl (FU_gt (by omega))
  · intro k i s hi hs
    subst hs
    cases hc : alN y K a n o i
    · left
      show fX11_allows_6 _ _ _ _ _ (b2 false) (nI i) y = _
      unfold fX11_allows_6
      rw [e73, if_neg (nle hi (by omega)), if_pos zero0', gc_p (b2_B _), alN_f hc (by omega)]
    · right
      refine ⟨_, ?_, rfl⟩
      show fX11_allows_6 (nI a) (nI n) (nI o) K (hX11_allows_6 (nI a) (nI n) (nI o) K k) (b2 true) (nI i) y = _
      have g30 : gI (nI i) 30 := gI_nI (by omega) (by decide)
      unfold fX11_allows_6 fX11_allows_79 fX11_allows_95
      simp only [gc_p g30, nI_clamp (show i < 2 ^ 31 by omega), nI_s]
      rw [e73, if_neg (nle hi (by omega)), if_neg one0', alN, hc, Bool.true_and]
      have fin : (if y.1 39 i = nI o then (if (1 : Int32) = y.1 42 i then hX11_allows_6 (nI a) (nI n) (nI o) K k 1 (nI (i + 1)) y else hX11_allows_6 (nI a) (nI n) (nI o) K k 0 (nI (i + 1)) y) else (if (0 : Int32) = y.1 42 i then hX11_allows_6 (nI a) (nI n) (nI o) K k 1 (nI (i + 1)) y else hX11_allows_6 (nI a) (nI n) (nI o) K k 0 (nI (i + 1)) y)) = hX11_allows_6 (nI a) (nI n) (nI o) K k (b2 (decide (y.1 39 i = nI o) == decide (y.1 42 i = 1))) (nI (i + 1)) y := by
        by_cases z : y.1 39 i = nI o
        · rw [if_pos z, decide_eq_true z]
          rcases p2 i hi with w | w <;> rw [w] <;> rfl
        · rw [if_neg z, decide_eq_false z]
          rcases p2 i hi with w | w <;> rw [w] <;> rfl
      unfold cts
      by_cases z1 : y.1 37 i = nI a
      · rw [if_pos z1, decide_eq_true z1]
        by_cases z2 : y.1 38 i = nI n
        · rw [if_pos z2, decide_eq_true z2]
          by_cases z3 : K < y.1 40 i
          · rw [if_pos z3]; simp [z3]
          · rw [if_neg z3]
            by_cases z4 : y.1 41 i < 0
            · rw [if_pos z4, fin]; simp [z3, z4]
            · rw [if_neg z4]
              by_cases z5 : K < y.1 41 i
              · rw [if_pos z5, fin]; simp [z3, z5]
              · rw [if_neg z5]; simp [z3, z4, z5]
        · rw [if_neg z2]; simp [z2]
      · rw [if_neg z1]; simp [z1]
  · intro k s hs
    subst hs
    show fX11_allows_6 _ _ _ _ _ _ _ y = _
    unfold fX11_allows_6
    rw [e73, if_pos (yle _), gc_p (b2_B _)]
theorem Yal0 {y : gS} (hp : PY y) (K : Int32) (n o : Nat) : fX11_allows 0 (nI n) (nI o) K y = some (b2 (al y K 0 n o), y) := Yallows hp K 0 n o
theorem Yal1 {y : gS} (hp : PY y) (K : Int32) (n o : Nat) : fX11_allows 1 (nI n) (nI o) K y = some (b2 (al y K 1 n o), y) := Yallows hp K 1 n o
theorem b2_nI (b : Bool) : b2 b = nI (if b then 1 else 0) := by cases b <;> rfl
theorem e8n (n f : Nat) : 8 * nI n + nI f = nI (8 * n + f) := by rw [show 8 * nI n = nI (8 * n) from pk_mul 8 n, nI_ad]
theorem YlayRows {x y : gS} (h : Inv x y) (K : Int32) : ∃ y', fX11_layRows K y = some (nI (rwT y K), y') ∧ FY y y' ∧ (∀ n f, n ≤ 6 → f < nF y → y'.1 43 (8 * n + f) = nI (cme y K n f) ∧ y'.1 44 (8 * n + f) = nI (onD y K (6 - n) f)) := by
  have hw := h.wf
  have hp := h.py
  have hM := nM17 hw
  have hF := nF9 hw
  unfold fX11_layRows
  obtain ⟨s, _, e, hpp⟩ := lp (fun k (s : Int32 × gS) => hX11_layRows_2 K k s.1 s.2) 56 (fun i s => s.1 = nI i ∧ FY y s.2 ∧ ∀ j, j < i → s.2.1 43 j = 0 ∧ s.2.1 44 j = 0) (by
    intro k i ⟨l2, st⟩ hi ⟨q1, q2, q3⟩
    dsimp only at q1 q2 q3
    subst q1
    show ∃ s', fX11_layRows_2 K (hX11_layRows_2 K k) (nI i) st = _ ∧ _
    unfold fX11_layRows_2
    rw [if_neg (show ¬ 56 ≤ nI i from nI_ge (b := 56) (by omega) (by omega)), gc_p (gI_nI (by omega) (by decide)), gc_p (gI_nI (by omega) (by decide)), nI_clamp (by omega), nI_s]
    refine ⟨(_, _), rfl, rfl, (q2.tr (FY_wi (by unfold scrY; omega))).tr (FY_wi (by unfold scrY; omega)), fun j hj => ?_⟩
    show (wi (wi st 43 i 0) 44 i 0).1 43 j = 0 ∧ (wi (wi st 43 i 0) 44 i 0).1 44 j = 0
    rw [wi_ne (by decide), wi_1, wi_1, wi_ne (show (44 : Nat) ≠ 43 by decide)]
    by_cases z : j = i
    · rw [if_pos ⟨rfl, z⟩, if_pos ⟨rfl, z⟩]; exact ⟨rfl, rfl⟩
    · rw [if_neg (fun q => z q.2), if_neg (fun q => z q.2)]; exact q3 j (by omega)) 0 (0, y) FU (by omega) ⟨rfl, FY.rf y, fun j hj => absurd hj (by omega)⟩ (FU_gt (by omega))
  obtain ⟨l2, s1⟩ := s
  obtain ⟨q1, q2, q3⟩ := hpp
  dsimp only at q1 q2 q3
  subst q1
  have hw1 := q2.wf hw
  have e1 : hX11_layRows_2 K FU 0 y = _ := e.trans (by
    show fX11_layRows_2 K _ (nI 56) s1 = _
    unfold fX11_layRows_2
    rw [if_pos (show (56 : Int32) ≤ nI 56 by decide), eF hw1, q2.nF])
  rw [e1]
  by_cases zF : nF y = 0
  · rw [zF, if_pos nI0]
    have : rwT y K = 0 := sM_0 fun i _ _ => Classical.byContradiction fun z => by have := cme_F (K := K) hw z; omega
    rw [this]
    exact ⟨s1, rfl, q2, fun n f _ hf => absurd hf (by omega)⟩
  rw [if_neg (fun q => zF ((nI_eq0 (by omega)).mp q)), show fX11_allows 0 0 0 K s1 = some (b2 (al y K 0 0 0), s1) by
    have := Yallows (q2.py hp) K 0 0 0
    rw [q2.al] at this
    exact this, bd]
  dsimp only
  rw [Ytruth, bd, gc_p (by decide), show (0 : Int32).toNatClampNeg = 0 from rfl]
  dsimp only
  -- forth
  obtain ⟨s, _, e, hpp⟩ := lp (fun k (s : Int32 × gS) => hX11_layRows_56 K k s.1 s.2) 6 (fun i s => s.1 = nI (i + 1) ∧ FY y s.2 ∧ (∀ n f, n ≤ 6 → f < 8 → s.2.1 43 (8 * n + f) = if n ≤ i then nI (cme y K n f) else 0) ∧ ∀ j, j < 56 → s.2.1 44 j = 0) (by
    intro k i ⟨l2, st⟩ hi ⟨q1, q2, q3, q4⟩
    dsimp only at q1 q2 q3 q4
    subst q1
    show ∃ s', fX11_layRows_56 K (hX11_layRows_56 K k) (nI (i + 1)) st = _ ∧ _
    unfold fX11_layRows_56
    rw [if_neg (show ¬ 6 < nI (i + 1) from fun q => by have := (nI_lt' (a := 6) (by decide) (by omega)).mp q; omega)]
    obtain ⟨s, _, e, hpp⟩ := lp (fun k2 (s : Int32 × gS) => hX11_layRows_64 K (hX11_layRows_56 K k) k2 (nI (i + 1)) s.1 s.2) (nM y) (fun m s => s.1 = nI m ∧ FY y s.2 ∧ (∀ n f, n ≤ 6 → f < 8 → s.2.1 43 (8 * n + f) = if n ≤ i then nI (cme y K n f) else if n = i + 1 then nI (sM (fun m => fit y K (i + 1) m && decide (tO y m = f)) (fun m => cme y K i (fr y m)) m) else 0) ∧ ∀ j, j < 56 → s.2.1 44 j = 0) (by
      intro k2 m ⟨l3, st⟩ hm ⟨q1, q2, q3, q4⟩
      dsimp only at q1 q2 q3 q4
      subst q1
      have hw2 := q2.wf hw
      have hp2 := q2.py hp
      have f1 := fr_lt hw hm
      have f2 := tO_lt hw hm
      have f3 := fg_lt hw hm
      have hm2 : m < nM st := by rw [q2.nM]; exact hm
      show ∃ s', fX11_layRows_64 K (hX11_layRows_56 K k) (hX11_layRows_64 K (hX11_layRows_56 K k) k2) (nI (i + 1)) (nI m) st = _ ∧ _
      unfold fX11_layRows_64
      rw [eM hw2, q2.nM, if_neg (nle hm (by omega)), gc_p (gI_nI (by omega) (by decide)), nI_clamp (by omega), fg_e hw2 hm2, q2.fg, Yal1 hp2, bd]
      dsimp only
      rw [gc_p (gI_nI (by omega) (by decide)), tO_e hw2 hm2, q2.tO, Yal0 hp2, bd]
      dsimp only
      rw [gc_p (gI_nI (by omega) (by decide)), tO_e hw2 hm2, fr_e hw2 hm2, q2.tO, q2.fr, e8n, show nI (i + 1) - 1 = nI i from pk_sub (b := 1) (by omega), e8n, gc_p (gI_nI (by omega) (by decide)), gc_p (gI_nI (by omega) (by decide)), gc_p (gI_nI (by omega) (by decide)), gc_p (gI_nI (by omega) (by decide)), nI_clamp (show 8 * (i + 1) + tO y m < 2 ^ 31 by omega), nI_clamp (show 8 * i + fr y m < 2 ^ 31 by omega), q3 (i + 1) (tO y m) (by omega) (by omega), if_neg (show ¬ i + 1 ≤ i by omega), if_pos rfl, q3 i (fr y m) (by omega) (by omega), if_pos (Nat.le_refl _), nI_ad, nI_s, q2.al, q2.al]
      -- what is added
      have add : (∀ f, f < 8 → (if (fit y K (i + 1) m && decide (tO y m = f)) then cme y K i (fr y m) else 0) = 0) → (∀ n f, n ≤ 6 → f < 8 → st.1 43 (8 * n + f) = if n ≤ i then nI (cme y K n f) else if n = i + 1 then nI (sM (fun m => fit y K (i + 1) m && decide (tO y m = f)) (fun m => cme y K i (fr y m)) (m + 1)) else 0) := by
        intro h0 n f hn hf
        rw [q3 n f hn hf, sM, h0 f hf]; rfl
      cases z1 : al y K 1 (i + 1) (fg y m)
      · rw [if_pos zero0']
        exact ⟨(_, _), rfl, rfl, q2, add (fun f _ => by simp [fit, z1]), q4⟩
      · rw [if_neg one0']
        cases z2 : al y K 0 (i + 1) (tO y m)
        · rw [if_pos zero0']
          exact ⟨(_, _), rfl, rfl, q2, add (fun f _ => by simp [fit, z2]), q4⟩
        · rw [if_neg one0']
          have hfit : fit y K (i + 1) m = true := by unfold fit; rw [z1, z2]; rfl
          refine ⟨(_, _), rfl, rfl, q2.tr (FY_wi (by unfold scrY; omega)), fun n f hn hf => ?_, fun j hj => ?_⟩
          · show (wi st 43 (8 * (i + 1) + tO y m) _).1 43 (8 * n + f) = _
            rw [wi_1]
            by_cases z : n = i + 1 ∧ f = tO y m
            · rw [if_pos ⟨rfl, by omega⟩, if_neg (by omega), if_pos z.1, sM, hfit, z.2, if_pos (by simp)]
            · rw [if_neg (by omega), q3 n f hn hf]
              by_cases zn : n = i + 1
              · rw [sM, if_neg (show ¬ (fit y K (i + 1) m && decide (tO y m = f)) = true by
                  have : ¬ tO y m = f := fun q => z ⟨zn, q.symm⟩
                  simp [this])]
                rfl
              · rw [if_neg zn, if_neg zn]
          · show (wi st 43 _ _).1 44 j = 0
            rw [wi_ne (by decide)]; exact q4 j hj) 0 (0, st) FU (by omega) ⟨rfl, q2, fun n f hn hf => by
              show st.1 43 _ = _
              rw [q3 n f hn hf]
              by_cases z : n ≤ i
              · rw [if_pos z, if_pos z]
              · rw [if_neg z, if_neg z]; split <;> rfl, q4⟩ (FU_gt (by omega))
    obtain ⟨l3, s2⟩ := s
    obtain ⟨p1, p2, p3, p4⟩ := hpp
    dsimp only at p1 p2 p3 p4
    subst p1
    refine ⟨(nI (i + 1 + 1), s2), e.trans ?_, rfl, p2, fun n f hn hf => ?_, p4⟩
    · show fX11_layRows_64 K (hX11_layRows_56 K k) _ (nI (i + 1)) _ s2 = _
      unfold fX11_layRows_64
      rw [eM (p2.wf hw), p2.nM, if_pos (yle _), nI_s]
    · show s2.1 43 _ = _
      rw [p3 n f hn hf]
      by_cases z : n ≤ i
      · rw [if_pos z, if_pos (by omega)]
      · rw [if_neg z]
        by_cases z2 : n = i + 1
        · rw [if_pos z2, if_pos (by omega), z2, cmeS]
        · rw [if_neg z2, if_neg (by omega)]) 0 (1, wi s1 43 0 (b2 (al y K 0 0 0))) FU (by omega) ⟨rfl, q2.tr (FY_wi (by unfold scrY; omega)), fun n f hn hf => by
      show (wi s1 43 0 _).1 43 (8 * n + f) = _
      rw [wi_1]
      by_cases z : n = 0 ∧ f = 0
      · rw [if_pos ⟨rfl, by omega⟩, if_pos (by omega), z.1, z.2, cme0, b2_nI]
        cases al y K 0 0 0
        · rw [if_neg (by decide), if_neg (show ¬ (0 < nF y ∧ 0 = 0 ∧ false = true) from fun q => absurd q.2.2 (by decide))]
        · rw [if_pos rfl, if_pos (show 0 < nF y ∧ 0 = 0 ∧ true = true from ⟨by omega, rfl, rfl⟩)]
      · rw [if_neg (by omega), (q3 _ (by omega)).1]
        by_cases z2 : n ≤ 0
        · rw [if_pos z2, show n = 0 by omega, cme0, if_neg (fun q => z ⟨by omega, q.2.1⟩)]; rfl
        · rw [if_neg z2], fun j hj => by
      show (wi s1 43 0 _).1 44 j = 0
      rw [wi_ne (by decide)]; exact (q3 j hj).2⟩ (FU_gt (by omega))
  obtain ⟨l2, s2⟩ := s
  obtain ⟨r1, r2, r3, r4⟩ := hpp
  dsimp only at r1 r2 r3 r4
  subst r1
  have e2 : hX11_layRows_56 K FU 1 (wi s1 43 0 (b2 (al y K 0 0 0))) = hX11_layRows_158 K FU 0 s2 := e.trans (by
    show fX11_layRows_56 K _ (nI 7) s2 = _
    unfold fX11_layRows_56
    rw [if_pos (show (6 : Int32) < nI 7 by decide)])
  rw [e2]
  have r3' : ∀ n f, n ≤ 6 → f < 8 → s2.1 43 (8 * n + f) = nI (cme y K n f) := fun n f hn hf => by rw [r3 n f hn hf, if_pos hn]
  -- the last of on
  obtain ⟨s, _, e, hpp⟩ := lp (fun k (s : Int32 × gS) => hX11_layRows_158 K k s.1 s.2) (nF y) (fun i s => s.1 = nI i ∧ FY y s.2 ∧ (∀ n f, n ≤ 6 → f < 8 → s.2.1 43 (8 * n + f) = nI (cme y K n f)) ∧ ∀ n f, n ≤ 6 → f < 8 → s.2.1 44 (8 * n + f) = if n = 6 ∧ f < i then nI (onD y K 0 f) else 0) (by
    intro k i ⟨l2, st⟩ hi ⟨q1, q2, q3, q4⟩
    dsimp only at q1 q2 q3 q4
    subst q1
    have hw2 := q2.wf hw
    show ∃ s', fX11_layRows_158 K (hX11_layRows_158 K k) (nI i) st = _ ∧ _
    unfold fX11_layRows_158
    rw [eF hw2, q2.nF, if_neg (nle hi (by omega)), show fX11_allows 0 6 (nI i) K st = some (b2 (al y K 0 6 i), st) by
      have := Yallows (q2.py hp) K 0 6 i
      rw [q2.al] at this
      exact this, bd]
    dsimp only
    rw [Ytruth, bd, show 48 + nI i = nI (48 + i) from nI_ad 48 i, gc_p (gI_nI (by omega) (by decide)), nI_clamp (by omega), nI_s]
    refine ⟨(_, _), rfl, rfl, q2.tr (FY_wi (by unfold scrY; omega)), fun n f hn hf => ?_, fun n f hn hf => ?_⟩
    · show (wi st 44 _ _).1 43 _ = _
      rw [wi_ne (by decide)]; exact q3 n f hn hf
    · show (wi st 44 (48 + i) (b2 (al y K 0 6 i))).1 44 (8 * n + f) = _
      rw [wi_1]
      by_cases z : n = 6 ∧ f = i
      · rw [if_pos ⟨rfl, by omega⟩, if_pos ⟨z.1, by omega⟩, z.2, onD0, b2_nI]
        cases al y K 0 6 i <;> simp [hi]
      · rw [if_neg (by omega), q4 n f hn hf]
        by_cases z2 : n = 6 ∧ f < i
        · rw [if_pos z2, if_pos ⟨z2.1, by omega⟩]
        · rw [if_neg z2, if_neg (by omega)]) 0 (0, s2) FU (by omega) ⟨rfl, r2, r3', fun n f hn hf => by
      show s2.1 44 _ = _
      rw [r4 _ (by omega), if_neg (by omega)]⟩ (FU_gt (by omega))
  obtain ⟨l2, s3⟩ := s
  obtain ⟨t1, t2, t3, t4⟩ := hpp
  dsimp only at t1 t2 t3 t4
  subst t1
  have e3 : hX11_layRows_158 K FU 0 s2 = hX11_layRows_196 K FU 6 s3 := e.trans (by
    show fX11_layRows_158 K _ _ s3 = _
    unfold fX11_layRows_158
    rw [eF (t2.wf hw), t2.nF, if_pos (yle _)])
  rw [e3]
  have onF0 : ∀ d f, nF y ≤ f → onD y K d f = 0 := fun d f hf => by
    cases d with
    | zero => rw [onD0, if_neg (by omega)]
    | succ d =>
      rw [onDS]
      refine sM_0 fun m hm hq => ?_
      rw [Bool.and_eq_true, decide_eq_true_eq] at hq
      have := fr_lt hw hm
      omega
  -- back; d steps are done
  obtain ⟨s, _, e, hpp⟩ := lp (fun k (s : Int32 × gS) => hX11_layRows_196 K k s.1 s.2) 6 (fun d s => s.1 = nI (6 - d) ∧ FY y s.2 ∧ (∀ n f, n ≤ 6 → f < 8 → s.2.1 43 (8 * n + f) = nI (cme y K n f)) ∧ ∀ n f, n ≤ 6 → f < 8 → s.2.1 44 (8 * n + f) = if 6 - d ≤ n then nI (onD y K (6 - n) f) else 0) (by
    intro k d ⟨l2, st⟩ hd ⟨q1, q2, q3, q4⟩
    dsimp only at q1 q2 q3 q4
    subst q1
    show ∃ s', fX11_layRows_196 K (hX11_layRows_196 K k) (nI (6 - d)) st = _ ∧ _
    unfold fX11_layRows_196
    rw [if_neg (show ¬ nI (6 - d) ≤ 0 from fun q => by have := (nI_le' (b := 0) (by omega) (by decide)).mp q; omega)]
    obtain ⟨s, _, e, hpp⟩ := lp (fun k2 (s : Int32 × gS) => hX11_layRows_202 K (hX11_layRows_196 K k) k2 (nI (6 - d)) s.1 s.2) (nM y) (fun m s => s.1 = nI m ∧ FY y s.2 ∧ (∀ n f, n ≤ 6 → f < 8 → s.2.1 43 (8 * n + f) = nI (cme y K n f)) ∧ ∀ n f, n ≤ 6 → f < 8 → s.2.1 44 (8 * n + f) = if 6 - d ≤ n then nI (onD y K (6 - n) f) else if n = 5 - d then nI (sM (fun m => (al y K 1 (6 - d) (fg y m) && al y K 0 (5 - d) (fr y m)) && decide (fr y m = f)) (fun m => onD y K d (tO y m)) m) else 0) (by
      intro k2 m ⟨l3, st⟩ hm ⟨q1, q2, q3, q4⟩
      dsimp only at q1 q2 q3 q4
      subst q1
      have hw2 := q2.wf hw
      have hp2 := q2.py hp
      have f1 := fr_lt hw hm
      have f2 := tO_lt hw hm
      have f3 := fg_lt hw hm
      have hm2 : m < nM st := by rw [q2.nM]; exact hm
      show ∃ s', fX11_layRows_202 K (hX11_layRows_196 K k) (hX11_layRows_202 K (hX11_layRows_196 K k) k2) (nI (6 - d)) (nI m) st = _ ∧ _
      unfold fX11_layRows_202
      have e5 : nI (6 - d) - 1 = nI (5 - d) := by
        have := pk_sub (a := 6 - d) (b := 1) (by omega)
        rw [show 6 - d - 1 = 5 - d by omega] at this
        exact this
      rw [eM hw2, q2.nM, if_neg (nle hm (by omega)), gc_p (gI_nI (by omega) (by decide)), nI_clamp (by omega), fg_e hw2 hm2, q2.fg, Yal1 hp2, bd]
      dsimp only
      rw [gc_p (gI_nI (by omega) (by decide)), fr_e hw2 hm2, q2.fr, e5, Yal0 hp2, bd]
      dsimp only
      rw [gc_p (gI_nI (by omega) (by decide)), tO_e hw2 hm2, fr_e hw2 hm2, q2.tO, q2.fr, e8n, e8n, gc_p (gI_nI (by omega) (by decide)), gc_p (gI_nI (by omega) (by decide)), gc_p (gI_nI (by omega) (by decide)), gc_p (gI_nI (by omega) (by decide)), nI_clamp (show 8 * (5 - d) + fr y m < 2 ^ 31 by omega), nI_clamp (show 8 * (6 - d) + tO y m < 2 ^ 31 by omega), q4 (5 - d) (fr y m) (by omega) (by omega), if_neg (show ¬ 6 - d ≤ 5 - d by omega), if_pos rfl, q4 (6 - d) (tO y m) (by omega) (by omega), if_pos (Nat.le_refl _), show 6 - (6 - d) = d by omega, nI_ad, nI_s, q2.al, q2.al]
      have add : (∀ f, f < 8 → (if ((al y K 1 (6 - d) (fg y m) && al y K 0 (5 - d) (fr y m)) && decide (fr y m = f)) then onD y K d (tO y m) else 0) = 0) → (∀ n f, n ≤ 6 → f < 8 → st.1 44 (8 * n + f) = if 6 - d ≤ n then nI (onD y K (6 - n) f) else if n = 5 - d then nI (sM (fun m => (al y K 1 (6 - d) (fg y m) && al y K 0 (5 - d) (fr y m)) && decide (fr y m = f)) (fun m => onD y K d (tO y m)) (m + 1)) else 0) := by
        intro h0 n f hn hf
        rw [q4 n f hn hf, sM, h0 f hf]; rfl
      cases z1 : al y K 1 (6 - d) (fg y m)
      · rw [if_pos zero0']
        exact ⟨(_, _), rfl, rfl, q2, q3, add (fun f _ => by simp [z1])⟩
      · rw [if_neg one0']
        cases z2 : al y K 0 (5 - d) (fr y m)
        · rw [if_pos zero0']
          exact ⟨(_, _), rfl, rfl, q2, q3, add (fun f _ => by simp [z2])⟩
        · rw [if_neg one0']
          refine ⟨(_, _), rfl, rfl, q2.tr (FY_wi (by unfold scrY; omega)), fun n f hn hf => ?_, fun n f hn hf => ?_⟩
          · show (wi st 44 _ _).1 43 _ = _
            rw [wi_ne (by decide)]; exact q3 n f hn hf
          · show (wi st 44 (8 * (5 - d) + fr y m) _).1 44 (8 * n + f) = _
            rw [wi_1]
            by_cases z : n = 5 - d ∧ f = fr y m
            · rw [if_pos ⟨rfl, by omega⟩, if_neg (by omega), if_pos z.1, sM, z.2, if_pos (by simp [z1, z2])]
            · rw [if_neg (by omega), q4 n f hn hf]
              by_cases zn : n = 5 - d
              · rw [sM, if_neg (show ¬ ((al y K 1 (6 - d) (fg y m) && al y K 0 (5 - d) (fr y m)) && decide (fr y m = f)) = true by
                  have : ¬ fr y m = f := fun q => z ⟨zn, q.symm⟩
                  simp [this])]
                rfl
              · rw [if_neg zn, if_neg zn]) 0 (0, st) FU (by omega) ⟨rfl, q2, q3, fun n f hn hf => by
              show st.1 44 _ = _
              rw [q4 n f hn hf]
              by_cases z : 6 - d ≤ n
              · rw [if_pos z, if_pos z]
              · rw [if_neg z, if_neg z]; split <;> rfl⟩ (FU_gt (by omega))
    obtain ⟨l3, s2⟩ := s
    obtain ⟨p1, p2, p3, p4⟩ := hpp
    dsimp only at p1 p2 p3 p4
    subst p1
    refine ⟨(nI (6 - (d + 1)), s2), e.trans ?_, rfl, p2, p3, fun n f hn hf => ?_⟩
    · show fX11_layRows_202 K (hX11_layRows_196 K k) _ (nI (6 - d)) _ s2 = _
      unfold fX11_layRows_202
      rw [eM (p2.wf hw), p2.nM, if_pos (yle _), show 6 - d = (6 - (d + 1)) + 1 by omega, pk_m1]
    · show s2.1 44 _ = _
      rw [p4 n f hn hf]
      by_cases z : 6 - d ≤ n
      · rw [if_pos z, if_pos (by omega)]
      · rw [if_neg z]
        by_cases z2 : n = 5 - d
        · rw [if_pos z2, if_pos (by omega), show 6 - n = d + 1 by omega, onDS]
        · rw [if_neg z2, if_neg (by omega)]) 0 (6, s3) FU (by omega) ⟨rfl, t2, t3, fun n f hn hf => by
      show s3.1 44 _ = _
      rw [t4 n f hn hf]
      by_cases z : 6 - 0 ≤ n
      · rw [if_pos z, show n = 6 by omega]
        by_cases z2 : f < nF y
        · rw [if_pos ⟨rfl, z2⟩]
        · rw [if_neg (fun q => z2 q.2), onF0 _ _ (by omega)]; rfl
      · rw [if_neg z, if_neg (by omega)]⟩ (FU_gt (by omega))
  obtain ⟨l2, s4⟩ := s
  obtain ⟨v1, v2, v3, v4⟩ := hpp
  dsimp only at v1 v2 v3 v4
  subst v1
  have v43 := v3 0 0 (by omega) (by omega)
  have v44 := v4 0 0 (by omega) (by omega)
  rw [if_pos (by omega)] at v44
  refine ⟨s4, e.trans ?_, v2, fun n f hn hf => ⟨v3 n f hn (by omega), by rw [v4 n f hn (by omega), if_pos (by omega)]⟩⟩
  show fX11_layRows_196 K _ (nI (6 - 6)) s4 = _
  unfold fX11_layRows_196
  rw [if_pos (show nI (6 - 6) ≤ 0 by decide), gc_p (by decide), gc_p (by decide), show (0 : Int32).toNatClampNeg = 8 * 0 + 0 from rfl, v43, v44, rwT_0 hw]
  have c1 := cme_le (K := K) hw 0 0
  by_cases z : cme y K 0 0 = 0
  · rw [z, if_pos nI0, if_pos rfl]; rfl
  · rw [if_neg (fun q => z ((nI_eq0 (by omega)).mp q)), if_neg z, onD_goD hw 6 (Nat.le_refl _) 0 (by omega), show 6 - 6 = 0 from rfl, cme_al z, if_pos rfl]
