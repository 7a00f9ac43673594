/-! ===== the same, by the reference ===== -/
theorem rem8 {i : Nat} (h : i < 2 ^ 31) : nI i - nI i / 8 * 8 = nI (i % 8) := pk_rem (d := 8) h (by decide) (by decide)
theorem div8 {i : Nat} (h : i < 2 ^ 31) : nI i / 8 = nI (i / 8) := pk_div (d := 8) h (by decide) (by decide)
def YH (y : gS) (H : Nat → Bool) (st : gS) : Prop := FY y st ∧ ∀ i, i < 8 * nT y → st.1 34 i = b2 (H i)
def SndY (y : gS) (S b F0 : Nat) (H : Nat → Bool) : Prop := (∀ f, F0.testBit f = true → H (8 * b + f) = true) ∧ ∀ i, i < 8 * nT y → H i = true → Rch y S b F0 (i / 8) (i % 8)
def CT (y : gS) (S : Nat) (H : Nat → Bool) (k m t : Nat) : Prop := H k = true → fr y m = k % 8 → S.testBit t = true → t ≠ k / 8 → cnb y t m = true → H (8 * t + tO y m) = true
def PS (y : gS) (S b F0 : Nat) (H0 : Nat → Bool) (P : Nat → Nat → Nat → Prop) (c : Bool) (H : Nat → Bool) (st : gS) : Prop :=
  YH y H st ∧ SndY y S b F0 H ∧ cnt H0 (8 * nT y) ≤ cnt H (8 * nT y) ∧ (c = true → cnt H0 (8 * nT y) < cnt H (8 * nT y)) ∧ (c = false → H = H0 ∧ ∀ k m t, P k m t → CT y S H0 k m t)
theorem PS_w {y : gS} {S b F0 : Nat} {H0 H : Nat → Bool} {P Q : Nat → Nat → Nat → Prop} {c : Bool} {st : gS} (h : PS y S b F0 H0 P c H st) (hq : c = false → H = H0 → ∀ k m t, Q k m t → P k m t ∨ CT y S H0 k m t) : PS y S b F0 H0 Q c H st :=
  ⟨h.1, h.2.1, h.2.2.1, h.2.2.2.1, fun hc => ⟨(h.2.2.2.2 hc).1, fun k m t q => by
    rcases hq hc (h.2.2.2.2 hc).1 k m t q with w | w
    · exact (h.2.2.2.2 hc).2 k m t w
    · exact w⟩⟩
theorem Yspreads {x y st : gS} (h : Inv x y) {S b F0 : Nat} (hS : S < 2 ^ 31) {H : Nat → Bool} (hh : YH y H st) (hs : SndY y S b F0 H) : ∃ c H' st', fX11_spreads (nI S) st = some (b2 c, st') ∧ PS y S b F0 H (fun k m t => k < 8 * nT y ∧ m < nM y ∧ t < nT y) c H' st' := by
  have hw := h.wf
  have hT := nT6 hw
  have hM := nM17 hw
  have hF := nF9 hw
  unfold fX11_spreads
  have e8T : ∀ s : gS, FY y s → 8 * s.1 0 49 = nI (8 * nT y) := fun s hs => by
    rw [eT (hs.wf hw), hs.nT]; exact pk_mul 8 (nT y)
  obtain ⟨s, _, e, hp⟩ := lp (fun n (s : Int32 × Int32 × gS) => hX11_spreads_4 (nI S) n s.1 s.2.1 s.2.2) (8 * nT y) (fun i s => s.2.1 = nI i ∧ ∃ c H', s.1 = b2 c ∧ PS y S b F0 H (fun k m t => k < i ∧ m < nM y ∧ t < nT y) c H' s.2.2) (by
    intro n i ⟨l2, l3, st⟩ hi ⟨q1, c, H1, q2, q3⟩
    dsimp only at q1 q2 q3
    subst q1 q2
    have f1 := q3.1.1
    show ∃ s', fX11_spreads_4 (nI S) (hX11_spreads_4 (nI S) n) (b2 c) (nI i) st = _ ∧ _
    unfold fX11_spreads_4
    rw [e8T st f1, if_neg (nle hi (by omega)), gc_p (gI_nI (by omega) (by decide)), nI_clamp (by omega), q3.1.2 i hi]
    cases hHi : H1 i
    · rw [if_pos zero0', nI_s]
      refine ⟨(_, _, _), rfl, rfl, c, H1, rfl, PS_w q3 (fun _ eH k m t q => ?_)⟩
      by_cases z : k = i
      · right
        intro w
        rw [← eH, z, hHi] at w; cases w
      · left; exact ⟨by omega, q.2⟩
    · rw [if_neg one0']
      -- the moves
      obtain ⟨s, _, e, hp⟩ := lp (fun n2 (s : Int32 × Int32 × gS) => hX11_spreads_30 (nI S) (hX11_spreads_4 (nI S) n) n2 s.1 (nI i) s.2.1 s.2.2) (nM y) (fun j s => s.2.1 = nI j ∧ ∃ c H', s.1 = b2 c ∧ H' i = true ∧ PS y S b F0 H (fun k m t => (k < i ∧ m < nM y ∧ t < nT y) ∨ (k = i ∧ m < j ∧ t < nT y)) c H' s.2.2) (by
        intro n2 j ⟨l2, l4, st⟩ hj ⟨q1, c, H1, q2, qi, q3⟩
        dsimp only at q1 q2 q3
        subst q1 q2
        have f1 := q3.1.1
        show ∃ s', fX11_spreads_30 (nI S) (hX11_spreads_4 (nI S) n) (hX11_spreads_30 (nI S) (hX11_spreads_4 (nI S) n) n2) (b2 c) (nI i) (nI j) st = _ ∧ _
        unfold fX11_spreads_30
        have hjs : j < nM st := by rw [f1.nM]; exact hj
        rw [eM (f1.wf hw), f1.nM, if_neg (nle hj (by omega))]
        have g16 : gI (nI j) 16 := gI_nI (by omega) (by decide)
        have e1 := fr_lt hw hj
        have e2 := tO_lt hw hj
        by_cases zf : fr y j = i % 8
        · -- the tribes
          obtain ⟨s, _, e, hp⟩ := lp (fun n3 (s : Int32 × Int32 × gS) => hX11_spreads_42 (nI S) (hX11_spreads_4 (nI S) n) (hX11_spreads_30 (nI S) (hX11_spreads_4 (nI S) n) n2) n3 s.1 (nI i) (nI j) s.2.1 s.2.2) (nT y) (fun u s => s.2.1 = nI u ∧ ∃ c H', s.1 = b2 c ∧ H' i = true ∧ PS y S b F0 H (fun k m t => (k < i ∧ m < nM y ∧ t < nT y) ∨ (k = i ∧ m < j ∧ t < nT y) ∨ (k = i ∧ m = j ∧ t < u)) c H' s.2.2) (by
            intro n3 u ⟨l2, l5, st⟩ hu ⟨q1, c, H1, q2, qi, q3⟩
            dsimp only at q1 q2 q3
            subst q1 q2
            have f1 := q3.1.1
            have hjs : j < nM st := by rw [f1.nM]; exact hj
            have hus : u < nT st := by rw [f1.nT]; exact hu
            show ∃ s', fX11_spreads_42 (nI S) (hX11_spreads_4 (nI S) n) (hX11_spreads_30 (nI S) (hX11_spreads_4 (nI S) n) n2) (hX11_spreads_42 (nI S) (hX11_spreads_4 (nI S) n) (hX11_spreads_30 (nI S) (hX11_spreads_4 (nI S) n) n2) n3) (b2 c) (nI i) (nI j) (nI u) st = _ ∧ _
            unfold fX11_spreads_42
            have hx : 8 * u + tO y j < 40 := by omega
            rw [eT (f1.wf hw), f1.nT, if_neg (nle hu (by omega)), gc_p g16, gc_p g16, nI_clamp (by omega), fr_e (f1.wf hw) hjs, f1.fr, rem8 (show i < 2 ^ 31 by omega), if_pos (by rw [zf]), tO_e (f1.wf hw) hjs, f1.tO, e8n, div8 (show i < 2 ^ 31 by omega), b_bit hS (by omega), Ycan (f1.wf hw) hus hjs]
            unfold gl
            dsimp only
            rw [bd]
            dsimp only
            rw [f1.cnb, gc_p (gI_nI hx (by decide)), gc_p (gI_nI hx (by decide)), nI_clamp (by omega), q3.1.2 _ (by omega), nI_s]
            have nar1' : vp_nar .boolean 1 = b2 true := rfl
            cases zS : S.testBit u
            · rw [if_pos zero0']
              refine ⟨(_, _, _), rfl, rfl, c, H1, rfl, qi, PS_w q3 (fun _ _ k m t q => ?_)⟩
              by_cases z : k = i ∧ m = j ∧ t = u
              · right
                intro _ _ w; rw [z.2.2, zS] at w; cases w
              · left; omega
            · rw [if_neg one0']
              by_cases zu : u = i / 8
              · rw [if_pos (by rw [zu])]
                refine ⟨(_, _, _), rfl, rfl, c, H1, rfl, qi, PS_w q3 (fun _ _ k m t q => ?_)⟩
                by_cases z : k = i ∧ m = j ∧ t = u
                · right
                  intro _ _ _ w; exact absurd (by rw [z.1, z.2.2]; exact zu) w
                · left; omega
              · rw [if_neg (fun q => zu ((nI_inj (by omega) (by omega)).mp q))]
                cases zc : cnb y u j
                · rw [if_pos zero0']
                  refine ⟨(_, _, _), rfl, rfl, c, H1, rfl, qi, PS_w q3 (fun _ _ k m t q => ?_)⟩
                  by_cases z : k = i ∧ m = j ∧ t = u
                  · right
                    intro _ _ _ _ w; rw [z.2.2, z.2.1, zc] at w; cases w
                  · left; omega
                · rw [if_neg one0']
                  cases zH : H1 (8 * u + tO y j)
                  · rw [if_pos zero0', nar1']
                    obtain ⟨⟨f2, f3⟩, s1, s2, s3, s4⟩ := q3
                    have hcnt : cnt H1 (8 * nT y) < cnt (fun a => if a = 8 * u + tO y j then true else H1 a) (8 * nT y) := cnt_lt (j := 8 * u + tO y j) (fun a _ q => by
                        split
                        · rfl
                        · exact q) (by omega) zH (if_pos rfl)
                    refine ⟨(_, _, _), rfl, rfl, true, (fun a => if a = 8 * u + tO y j then true else H1 a), rfl, ?_, ⟨f2.tr (FY_wi (by unfold scrY; omega)), fun a ha => ?_⟩, ⟨fun f hf => ?_, fun a ha hq => ?_⟩, by omega, fun _ => by omega, fun q => by cases q⟩
                    · dsimp only
                      split
                      · rfl
                      · exact qi
                    · show (wi st 34 _ _).1 34 a = b2 (if a = 8 * u + tO y j then true else H1 a)
                      rw [wi_1]
                      by_cases z : a = 8 * u + tO y j
                      · rw [if_pos ⟨rfl, z⟩, if_pos z]
                      · rw [if_neg (fun q => z q.2), if_neg z]; exact f3 a ha
                    · dsimp only
                      split
                      · rfl
                      · exact s1.1 f hf
                    · dsimp only at hq
                      by_cases z : a = 8 * u + tO y j
                      · have r := s1.2 i hi qi
                        rw [z, show (8 * u + tO y j) / 8 = u by omega, show (8 * u + tO y j) % 8 = tO y j by omega]
                        exact (Rch_clo y S b F0).2 (i / 8) (i % 8) u j (by omega) r hu zS zu hj zf zc
                      · rw [if_neg z] at hq; exact s1.2 a ha hq
                  · rw [if_neg one0']
                    refine ⟨(_, _, _), rfl, rfl, c, H1, rfl, qi, PS_w q3 (fun _ eH k m t q => ?_)⟩
                    by_cases z : k = i ∧ m = j ∧ t = u
                    · right
                      intro _ _ _ _ _; rw [← eH, z.2.2, z.2.1]; exact zH
                    · left; omega) 0 (b2 c, 0, st) FU (by omega) ⟨rfl, c, H1, rfl, qi, PS_w q3 (fun _ _ k m t q => Or.inl (by omega))⟩ (FU_gt (by omega))
          obtain ⟨l2, l5, s2⟩ := s
          obtain ⟨p1, c2, H2, p2, pi, p3⟩ := hp
          dsimp only at p1 p2 p3
          subst p1 p2
          refine ⟨(b2 c2, nI (j + 1), s2), e.trans ?_, rfl, c2, H2, rfl, pi, PS_w p3 (fun _ _ k m t q => Or.inl (by omega))⟩
          show fX11_spreads_42 (nI S) (hX11_spreads_4 (nI S) n) (hX11_spreads_30 (nI S) (hX11_spreads_4 (nI S) n) n2) _ (b2 c2) (nI i) (nI j) _ s2 = _
          unfold fX11_spreads_42
          rw [eT (p3.1.1.wf hw), p3.1.1.nT, if_pos (yle _), nI_s]
        · -- another figure
          have skip : hX11_spreads_42 (nI S) (hX11_spreads_4 (nI S) n) (hX11_spreads_30 (nI S) (hX11_spreads_4 (nI S) n) n2) FU (b2 c) (nI i) (nI j) 0 st = hX11_spreads_30 (nI S) (hX11_spreads_4 (nI S) n) n2 (b2 c) (nI i) (nI (j + 1)) st := by
            obtain ⟨mm, hm⟩ : ∃ m, FU = m + 1 := ⟨69999, rfl⟩
            rw [hm]
            show fX11_spreads_42 (nI S) (hX11_spreads_4 (nI S) n) (hX11_spreads_30 (nI S) (hX11_spreads_4 (nI S) n) n2) _ (b2 c) (nI i) (nI j) 0 st = _
            unfold fX11_spreads_42
            rw [gc_p g16, nI_clamp (by omega), fr_e (f1.wf hw) hjs, f1.fr, rem8 (show i < 2 ^ 31 by omega), if_neg (fun q => zf ((nI_inj (by omega) (by omega)).mp q)), nI_s]
            split <;> rfl
          rw [skip]
          refine ⟨(_, _, _), rfl, rfl, c, H1, rfl, qi, PS_w q3 (fun _ _ k m t q => ?_)⟩
          by_cases z : k = i ∧ m = j
          · right
            intro _ w; rw [z.1, z.2] at w; exact absurd w zf
          · left; omega) 0 (b2 c, 0, st) FU (by omega) ⟨rfl, c, H1, rfl, hHi, PS_w q3 (fun _ _ k m t q => Or.inl (by omega))⟩ (FU_gt (by omega))
      obtain ⟨l2, l4, s2⟩ := s
      obtain ⟨p1, c2, H2, p2, pi, p3⟩ := hp
      dsimp only at p1 p2 p3
      subst p1 p2
      refine ⟨(b2 c2, nI (i + 1), s2), e.trans ?_, rfl, c2, H2, rfl, PS_w p3 (fun _ _ k m t q => Or.inl (by omega))⟩
      show fX11_spreads_30 (nI S) (hX11_spreads_4 (nI S) n) _ (b2 c2) (nI i) _ s2 = _
      unfold fX11_spreads_30
      rw [eM (p3.1.1.wf hw), p3.1.1.nM, if_pos (yle _), nI_s]) 0 (0, 0, st) FU (by omega) ⟨rfl, false, H, rfl, hh, hs, Nat.le_refl _, fun q => (by cases q), fun _ => ⟨rfl, fun k m t q => absurd q.1 (by omega)⟩⟩ (FU_gt (by omega))
  obtain ⟨l2, l3, s2⟩ := s
  obtain ⟨p1, c2, H2, p2, p3⟩ := hp
  dsimp only at p1 p2 p3
  subst p1 p2
  refine ⟨c2, H2, s2, e.trans ?_, p3⟩
  show fX11_spreads_4 (nI S) _ (b2 c2) _ s2 = _
  unfold fX11_spreads_4
  rw [e8T s2 p3.1.1, if_pos (yle _), gc_p (b2_B _)]
theorem bit8 {v f : Nat} (hv : v < 2 ^ 8) (hf : v.testBit f = true) : f < 8 := by
  refine Classical.byContradiction fun q => ?_
  have := Nat.testBit_lt_two_pow (x := v) (i := f) (Nat.lt_of_lt_of_le hv (Nat.pow_le_pow_right (by decide) (by omega)))
  rw [this] at hf
  cases hf
theorem SndY_all {y : gS} (hw : WFy y) {S b F0 : Nat} (hF0 : F0 < 2 ^ 8) {H : Nat → Bool} (h : SndY y S b F0 H) (hc : ∀ k m t, k < 8 * nT y → m < nM y → t < nT y → CT y S H k m t) {k f : Nat} (hk : k < nT y) : Rch y S b F0 k f ↔ (f < 8 ∧ H (8 * k + f) = true) := by
  have hF := nF9 hw
  constructor
  · intro hr
    refine hr (fun k f => f < 8 ∧ H (8 * k + f) = true) ⟨fun f hf => ⟨bit8 hF0 hf, h.1 f hf⟩, fun j g t m h1 h2 h3 h4 h5 h6 h7 h8 => ⟨by have := tO_lt hw h6; omega, ?_⟩⟩
    have h21 := h2.1
    exact hc (8 * j + g) m t (by omega) h6 h3 h2.2 (by rw [h7]; omega) h4 (by rw [show (8 * j + g) / 8 = j by omega]; exact h5) h8
  · intro hq
    have hq1 := hq.1
    have := h.2 (8 * k + f) (by omega) hq.2
    rw [show (8 * k + f) / 8 = k by omega, show (8 * k + f) % 8 = f by omega] at this
    exact this
theorem Ymz {y st : gS} (hf : FY y st) (S0 : Nat) : ∃ k s1, fX11_madeBy (nI S0) st = fX11_madeBy_4 (nI S0) k 0 (nI 40) s1 ∧ FY y s1 ∧ ∀ j, j < 40 → s1.1 34 j = 0 := by
  unfold fX11_madeBy
  obtain ⟨s, _, e, hp⟩ := lp (fun n (s : Int32 × Int32 × gS) => hX11_madeBy_4 (nI S0) n s.1 s.2.1 s.2.2) 40 (fun i s => s.1 = 0 ∧ s.2.1 = nI i ∧ FY y s.2.2 ∧ ∀ j, j < i → s.2.2.1 34 j = 0) (by
    intro n i ⟨l2, l3, st⟩ hi ⟨q1, q2, q3, q4⟩
    dsimp only at q1 q2 q3 q4
    subst q1 q2
    show ∃ s', fX11_madeBy_4 (nI S0) (hX11_madeBy_4 (nI S0) n) 0 (nI i) st = _ ∧ _
    unfold fX11_madeBy_4
    rw [if_neg (show ¬ 40 ≤ nI i from nI_ge (b := 40) (by omega) (by omega)), gc_p (gI_nI hi (by decide)), nI_clamp (by omega), nI_s, nar0]
    refine ⟨(_, _, _), rfl, rfl, rfl, q3.tr (FY_wi (by unfold scrY; omega)), fun j hj => ?_⟩
    show (wi st 34 i 0).1 34 j = 0
    rw [wi_1]
    by_cases z : j = i
    · rw [if_pos ⟨rfl, z⟩]
    · rw [if_neg (fun q => z q.2)]; exact q4 j (by omega)) 0 (0, 0, st) FU (by omega) ⟨rfl, rfl, hf, fun j hj => absurd hj (by omega)⟩ (FU_gt (by omega))
  obtain ⟨l2, l3, s1⟩ := s
  obtain ⟨q1, q2, q3, q4⟩ := hp
  dsimp only at q1 q2 q3 q4
  subst q1 q2
  exact ⟨_, s1, e, q3, q4⟩
theorem Ymade {x y st : gS} (h : Inv x y) (hf : FY y st) {b f0 S0 : Nat} (hb : b < nT y) (h1 : y.1 28 1 = nI b) (hf0 : f0 < nF y) (h0 : y.1 28 0 = nI f0) (hS0 : S0 < 2 ^ 5) : ∃ v st', fX11_madeBy (nI S0) st = some (nI v, st') ∧ FY y st' ∧ Mk y (S0 ||| 2 ^ b) b (2 ^ f0) v := by
  have hw := h.wf
  have hT := nT6 hw
  have hF := nF9 hw
  have hS : S0 ||| 2 ^ b < 2 ^ 31 := Nat.or_lt_two_pow (Nat.lt_trans hS0 (by decide)) (Nat.pow_lt_pow_right (by decide) (by omega))
  obtain ⟨kk, s1, e, q3, q4⟩ := Ymz hf S0
  have hx : 8 * b + f0 < 40 := by omega
  have e1 : fX11_madeBy (nI S0) st = hX11_madeBy_83 (nI S0) FU 0 1 (wi s1 34 (8 * b + f0) 1) := e.trans (by
    unfold fX11_madeBy_4
    rw [if_pos (show (40 : Int32) ≤ nI 40 by decide), eT (q3.wf hw), q3.nT, if_neg (fun q => by have := (nI_eq0 (by omega)).mp q; omega), eF (q3.wf hw), q3.nF, if_neg (fun q => by have := (nI_eq0 (by omega)).mp q; omega), gc_p (show gI 1 18 by decide), gc_p (show gI 0 18 by decide), show (1 : Int32).toNatClampNeg = 1 from rfl, show (0 : Int32).toNatClampNeg = 0 from rfl, q3.now, q3.now, h1, h0, e8n, gc_p (gI_nI hx (by decide)), nI_clamp (by omega), nar1])
  rw [e1]
  generalize hSS : S0 ||| 2 ^ b = S at *
  have hF0 : 2 ^ f0 < 2 ^ 8 := Nat.pow_lt_pow_right (by decide) (by omega)
  have hh0 : YH y (fun i => decide (i = 8 * b + f0)) (wi s1 34 (8 * b + f0) 1) := ⟨q3.tr (FY_wi (by unfold scrY; omega)), fun i hi => by
    dsimp only
    rw [wi_1]
    by_cases z : i = 8 * b + f0
    · rw [if_pos ⟨rfl, z⟩, decide_eq_true z]; rfl
    · rw [if_neg (fun q => z q.2), decide_eq_false z, q4 i (by omega)]; rfl⟩
  have hs0 : SndY y S b (2 ^ f0) (fun i => decide (i = 8 * b + f0)) := ⟨fun f hq => by
    rw [Nat.testBit_two_pow] at hq
    rw [← of_decide_eq_true hq]
    exact decide_eq_true rfl, fun i hi hq => by
    have := of_decide_eq_true hq
    rw [this, show (8 * b + f0) / 8 = b by omega, show (8 * b + f0) % 8 = f0 by omega]
    exact (Rch_clo y S b (2 ^ f0)).1 f0 (by rw [Nat.testBit_two_pow]; simp)⟩
  have fin : ∀ (s2 : gS) (H : Nat → Bool), YH y H s2 → SndY y S b (2 ^ f0) H → (∀ k m t, k < 8 * nT y → m < nM y → t < nT y → CT y S H k m t) → ∃ v st', hX11_madeBy_108 (nI S0) FU 0 0 s2 = some (nI v, st') ∧ FY y st' ∧ Mk y S b (2 ^ f0) v := by
    intro s2 H hh hs hc
    have e8T : 8 * s2.1 0 49 = nI (8 * nT y) := by
      rw [eT (hh.1.wf hw), hh.1.nT]; exact pk_mul 8 (nT y)
    obtain ⟨s, _, e, hp⟩ := lp (fun n (s : Int32 × Int32 × gS) => hX11_madeBy_108 (nI S0) n s.1 s.2.1 s.2.2) (8 * nT y) (fun i s => s = (nI (oS H (fun i => i % 8) i), nI i, s2)) (by
      intro n i s hi hs
      subst hs
      refine ⟨_, ?_, rfl⟩
      show fX11_madeBy_108 (nI S0) (hX11_madeBy_108 (nI S0) n) _ (nI i) s2 = _
      unfold fX11_madeBy_108
      rw [e8T, if_neg (nle hi (by omega)), gc_p (gI_nI (by omega) (by decide)), nI_clamp (by omega), hh.2 i hi, rem8 (show i < 2 ^ 31 by omega), b_1 (by omega), nI_s]
      unfold gl
      rw [oS]
      cases H i
      · rw [if_pos zero0', if_neg (by decide), Nat.or_zero]
      · rw [if_neg one0', if_pos rfl, b_or]) 0 (0, 0, s2) FU (by omega) rfl (FU_gt (by omega))
    subst hp
    refine ⟨oS H (fun i => i % 8) (8 * nT y), s2, e.trans ?_, hh.1, oS_lt (fun i _ => by omega), fun f => ?_⟩
    · show fX11_madeBy_108 (nI S0) _ _ _ s2 = _
      unfold fX11_madeBy_108
      rw [e8T, if_pos (yle _)]
    · rw [oS_t]
      constructor
      · rintro ⟨i, i1, i2, i3⟩
        refine ⟨i / 8, by omega, (SndY_all hw hF0 hs hc (by omega)).mpr ⟨by omega, ?_⟩⟩
        rw [show 8 * (i / 8) + f = i by omega]; exact i2
      · rintro ⟨k, k1, k2⟩
        have := (SndY_all hw hF0 hs hc k1).mp k2
        have h8 := this.1
        exact ⟨8 * k + f, by omega, this.2, by omega⟩
  have key : ∀ d n (c : Bool) (s2 : gS) (H : Nat → Bool), d < n → YH y H s2 → SndY y S b (2 ^ f0) H → (c = true → 41 ≤ cnt H (8 * nT y) + d) → (c = false → ∀ k m t, k < 8 * nT y → m < nM y → t < nT y → CT y S H k m t) → ∃ v st', hX11_madeBy_83 (nI S0) n 0 (b2 c) s2 = some (nI v, st') ∧ FY y st' ∧ Mk y S b (2 ^ f0) v := by
    intro d
    induction d with
    | zero =>
      intro n c s2 H hn hh hs g1 g2
      obtain ⟨n, rfl⟩ : ∃ k, n = k + 1 := ⟨n - 1, by omega⟩
      cases c
      · show ∃ v st', fX11_madeBy_83 (nI S0) _ 0 (b2 false) s2 = _ ∧ _
        unfold fX11_madeBy_83
        rw [if_pos zero0']
        exact fin s2 H hh hs (g2 rfl)
      · have := g1 rfl
        have := cnt_le H (8 * nT y)
        omega
    | succ d ih =>
      intro n c s2 H hn hh hs g1 g2
      obtain ⟨n, rfl⟩ : ∃ k, n = k + 1 := ⟨n - 1, by omega⟩
      show ∃ v st', fX11_madeBy_83 (nI S0) (hX11_madeBy_83 (nI S0) n) 0 (b2 c) s2 = _ ∧ _
      unfold fX11_madeBy_83
      cases c
      · rw [if_pos zero0']
        exact fin s2 H hh hs (g2 rfl)
      · rw [if_neg one0', gc_p (by decide), show (1 : Int32).toNatClampNeg = 1 from rfl, hh.1.now, h1, b_1 (by omega), b_or, hSS]
        obtain ⟨c', H', s3, r1, r2, r3, r4, r5, r6⟩ := Yspreads h hS hh hs
        rw [r1, bd]
        dsimp only
        refine ih n c' s3 H' (by omega) r2 r3 (fun q => by have := r5 q; have := g1 rfl; omega) (fun q k m t k1 k2 k3 => ?_)
        obtain ⟨w1, w2⟩ := r6 q
        rw [w1]
        exact w2 k m t ⟨k1, k2, k3⟩
  exact key 41 FU true _ _ (FU_gt (by decide)) hh0 hs0 (fun _ => by omega) (fun q => by cases q)
