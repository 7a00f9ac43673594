/-! ===== way: the reference ===== -/
def YL (y : gS) (L : Nat → Nat → Nat) (st : gS) : Prop := FY y st ∧ (∀ t f, L t f ≤ 1000000) ∧ ∀ t f, t < 2 → f < 8 → st.1 31 (8 * t + f) = nI (L t f)
def lfV (y : gS) (L : Nat → Nat → Nat) (k t f : Nat) : Nat → Nat
  | 0 => 1000000
  | m + 1 => if fr y m = f ∧ cnb y k m = true ∧ L (1 - t) (tO y m) + 1 < lfV y L k t f m then L (1 - t) (tO y m) + 1 else lfV y L k t f m
theorem lfV_le {y : gS} {L : Nat → Nat → Nat} {k t f : Nat} (n : Nat) : lfV y L k t f n ≤ 1000000 := by
  induction n with
  | zero => exact Nat.le_refl _
  | succ n ih =>
    rw [lfV]
    split
    · rename_i z; omega
    · exact ih
theorem lfV_m {y : gS} {L : Nat → Nat → Nat} {k t n : Nat} {m : Nat} (hm : m < n) (hc : cnb y k m = true) (hL : L (1 - t) (tO y m) ≤ 1000000) : lfV y L k t (fr y m) n ≤ L (1 - t) (tO y m) + 1 := by
  induction n with
  | zero => omega
  | succ n ih =>
    rw [lfV]
    by_cases z : m = n
    · subst z
      split
      · exact Nat.le_refl _
      · rename_i w
        by_cases v : L (1 - t) (tO y m) + 1 < lfV y L k t (fr y m) m
        · exact absurd ⟨rfl, hc, v⟩ w
        · omega
    · have := ih (by omega)
      split
      · rename_i w; omega
      · exact this
theorem lfV_s {y : gS} {L : Nat → Nat → Nat} {k t f n : Nat} (h : lfV y L k t f n < 1000000) : ∃ m, m < n ∧ fr y m = f ∧ cnb y k m = true ∧ lfV y L k t f n = L (1 - t) (tO y m) + 1 := by
  induction n with
  | zero => exact absurd h (by show ¬ 1000000 < 1000000; omega)
  | succ n ih =>
    rw [lfV] at h ⊢
    by_cases z : fr y n = f ∧ cnb y k n = true ∧ L (1 - t) (tO y n) + 1 < lfV y L k t f n
    · rw [if_pos z]
      exact ⟨n, by omega, z.1, z.2.1, rfl⟩
    · rw [if_neg z] at h ⊢
      obtain ⟨m, h1, h2⟩ := ih h
      exact ⟨m, by omega, h2⟩
theorem YleastFrom {y st : gS} (hw : WFy y) {L : Nat → Nat → Nat} (hl : YL y L st) {o b t f : Nat} (ht : t < 2) (hb : y.1 28 1 = nI b) (ho : o < nT y) (hbT : b < nT y) (hf : f < nF y) : fX11_leastFrom (nI f) (nI t) (nI o) st = some (nI (lfV y L (pr o b t) t f (nM y)), st) := by
  have hM := nM17 hw
  have hF := nF9 hw
  have hw2 := hl.1.wf hw
  unfold fX11_leastFrom
  obtain ⟨s, _, e, hp⟩ := lp (fun n (s : Int32 × Int32 × gS) => hX11_leastFrom_8 (nI f) (nI t) (nI o) n s.1 s.2.1 s.2.2) (nM y) (fun i s => s = (nI (lfV y L (pr o b t) t f i), nI i, st)) (by
    intro n i s hi hs
    subst hs
    refine ⟨(_, _, _), ?_, rfl⟩
    show fX11_leastFrom_8 (nI f) (nI t) (nI o) (hX11_leastFrom_8 (nI f) (nI t) (nI o) n) _ (nI i) st = hX11_leastFrom_8 (nI f) (nI t) (nI o) n (nI (lfV y L (pr o b t) t f (i + 1))) (nI (i + 1)) st
    have f1 := fr_lt hw hi
    have f2 := tO_lt hw hi
    have a1 := hl.2.1 (1 - t) (tO y i)
    have a2 := lfV_le (y := y) (L := L) (k := pr o b t) (t := t) (f := f) i
    have e8 : 8 * (1 - nI t) + nI (tO y i) = nI (8 * (1 - t) + tO y i) := by
      rw [e1t ht, show 8 * nI (1 - t) = nI (8 * (1 - t)) from pk_mul 8 (1 - t), nI_ad]
    unfold fX11_leastFrom_8 gl
    dsimp only
    rw [eM hw2, hl.1.nM, if_neg (nle hi (by omega)), nI_clamp (show i < 2 ^ 31 by omega), YtakerAt ht ((hl.1.now 1).trans hb), bd]
    dsimp only
    rw [Ycan hw2 (by rw [hl.1.nT]; exact pr_lt ho hbT) (by rw [hl.1.nM]; exact hi), bd]
    dsimp only
    rw [tO_e hw2 (by rw [hl.1.nM]; exact hi), fr_e hw2 (by rw [hl.1.nM]; exact hi), hl.1.tO, hl.1.fr, hl.1.cnb, e8, nI_clamp (show 8 * (1 - t) + tO y i < 2 ^ 31 by omega), hl.2.2 (1 - t) _ (by omega) (by omega), nI_s i, nI_s (L (1 - t) (tO y i))]
    simp only [gc_p (gI_nI (show i < 16 by omega) (by decide)), gc_p (gI_nI (show 8 * (1 - t) + tO y i < 16 by omega) (by decide))]
    rw [lfV]
    by_cases z1 : fr y i = f
    · rw [if_pos (by rw [z1])]
      cases z2 : cnb y (pr o b t) i
      · rw [if_pos zero0', if_neg (by simp)]
      · rw [if_neg one0']
        by_cases z3 : L (1 - t) (tO y i) + 1 < lfV y L (pr o b t) t f i
        · rw [if_neg (fun q => by have := (nI_le' (by omega) (by omega)).mp q; omega), if_pos ⟨z1, rfl, z3⟩]
        · rw [if_pos ((nI_le' (by omega) (by omega)).mpr (by omega)), if_neg (fun q => z3 q.2.2)]
    · rw [if_neg (fun q => z1 ((nI_inj (by omega) (by omega)).mp q)), if_neg (fun q => z1 q.1)]) 0 (1000000, 0, st) FU (by omega) rfl (FU_gt (by omega))
  subst hp
  refine e.trans ?_
  show fX11_leastFrom_8 (nI f) (nI t) (nI o) _ _ _ st = _
  unfold fX11_leastFrom_8
  rw [eM hw2, hl.1.nM, if_pos (yle _)]
theorem YL_up {y st : gS} {t f v : Nat} {L : Nat → Nat → Nat} (h : YL y L st) (ht : t < 2) (hf : f < 8) (hv : v ≤ 1000000) : YL y (up2 L t f v) (wi st 31 (8 * t + f) (nI v)) := by
  refine ⟨h.1.tr (FY_wi (by unfold scrY; omega)), fun s g => ?_, fun s g hs hg => ?_⟩
  · unfold up2
    split
    · exact hv
    · exact h.2.1 s g
  · rw [wi_1]
    unfold up2
    by_cases z : s = t ∧ g = f
    · rw [if_pos ⟨rfl, by omega⟩, if_pos z]
    · rw [if_neg (fun q => z (by omega)), if_neg z]; exact h.2.2 s g hs hg
theorem Yround {y st : gS} (hw : WFy y) {o b g : Nat} (ho : o < nT y) (hbT : b < nT y) (hb : y.1 28 1 = nI b) (hg : g < nF y) {L : Nat → Nat → Nat} (hl : YL y L st) (hs : Sn y o b g 1000000 L) (h0 : ∀ t, t < 2 → L t g = 0) (K : Int32 → gS → Option gS) :
    ∃ c L' st', hX11_layLeft_46 (nI o) (nI g) K FU 0 0 st = K (b2 c) st' ∧ YL y L' st' ∧ Sn y o b g 1000000 L' ∧ (∀ t f, L' t f ≤ L t f) ∧ (∀ t m, t < 2 → m < nM y → cnb y (pr o b t) m = true → L' t (fr y m) ≤ L (1 - t) (tO y m) + 1) ∧ (c = false → L' = L) ∧ ((∀ n, Cn y o b g L n) → c = false) := by
  have hM := nM17 hw
  have hF := nF9 hw
  obtain ⟨s, _, e, hp⟩ := lp (fun n (s : Int32 × Int32 × gS) => hX11_layLeft_46 (nI o) (nI g) K n s.1 s.2.1 s.2.2) 16 (fun i s => s.2.1 = nI i ∧ ∃ c L', s.1 = b2 c ∧ YL y L' s.2.2 ∧ Sn y o b g 1000000 L' ∧ (∀ t f, L' t f ≤ L t f) ∧ (∀ t m, t < 2 → m < nM y → 8 * t + fr y m < i → cnb y (pr o b t) m = true → L' t (fr y m) ≤ L (1 - t) (tO y m) + 1) ∧ (c = false → L' = L) ∧ ((∀ n, Cn y o b g L n) → c = false)) (by
    intro n i ⟨l3, l4, st⟩ hi ⟨q1, c, L1, q2, q3, q4, q5, q6, q7, q8⟩
    dsimp only at q1 q2 q3
    subst q1 q2
    have hw2 := q3.1.wf hw
    have t2 : i / 8 < 2 := by omega
    have ei : 8 * (i / 8) + i % 8 = i := by omega
    have rowi : st.1 31 i = nI (L1 (i / 8) (i % 8)) := by
      have := q3.2.2 (i / 8) (i % 8) t2 (by omega)
      rwa [ei] at this
    have b1 := q3.2.1 (i / 8) (i % 8)
    have ev97 : ∀ v, v ≤ 1000000 → fX11_layLeft_97 (nI o) (nI g) K (hX11_layLeft_46 (nI o) (nI g) K n) (b2 c) (nI i) (nI v) st = if v < L1 (i / 8) (i % 8) then hX11_layLeft_46 (nI o) (nI g) K n 1 (nI (i + 1)) (wi st 31 i (nI v)) else hX11_layLeft_46 (nI o) (nI g) K n (b2 c) (nI (i + 1)) st := by
      intro v hv
      unfold fX11_layLeft_97
      rw [gc_p (gI_nI hi (by decide)), gc_p (gI_nI hi (by decide)), nI_clamp (show i < 2 ^ 31 by omega), rowi, nI_s]
      by_cases z : v < L1 (i / 8) (i % 8)
      · rw [if_pos ((nI_lt' (by omega) (by omega)).mpr z), if_pos z]
      · rw [if_neg (fun q => z ((nI_lt' (by omega) (by omega)).mp q)), if_neg z]
    have ev75 : fX11_layLeft_75 (nI o) (nI g) K (hX11_layLeft_46 (nI o) (nI g) K n) (b2 c) (nI i) st = hX11_layLeft_46 (nI o) (nI g) K n (b2 c) (nI (i + 1)) st := by
      unfold fX11_layLeft_75
      rw [gc_p (gI_nI hi (by decide)), nI_clamp (show i < 2 ^ 31 by omega), rowi, ev97 _ b1, if_neg (Nat.lt_irrefl _)]
    -- nothing changes
    have stay : (∀ m, m < nM y → fr y m = i % 8 → cnb y (pr o b (i / 8)) m = true → L1 (i / 8) (fr y m) ≤ L (1 - i / 8) (tO y m) + 1) → ∃ s' : Int32 × Int32 × gS, hX11_layLeft_46 (nI o) (nI g) K n (b2 c) (nI (i + 1)) st = hX11_layLeft_46 (nI o) (nI g) K n s'.1 s'.2.1 s'.2.2 ∧ s'.2.1 = nI (i + 1) ∧ ∃ c L', s'.1 = b2 c ∧ YL y L' s'.2.2 ∧ Sn y o b g 1000000 L' ∧ (∀ t f, L' t f ≤ L t f) ∧ (∀ t m, t < 2 → m < nM y → 8 * t + fr y m < i + 1 → cnb y (pr o b t) m = true → L' t (fr y m) ≤ L (1 - t) (tO y m) + 1) ∧ (c = false → L' = L) ∧ ((∀ n, Cn y o b g L n) → c = false) := fun hh => by
      refine ⟨(_, _, _), rfl, rfl, c, L1, rfl, q3, q4, q5, fun t m ht hm hlt hc => ?_, q7, q8⟩
      have := fr_lt hw hm
      by_cases z : 8 * t + fr y m = i
      · have e1 : t = i / 8 := by omega
        have e2 : fr y m = i % 8 := by omega
        rw [e1] at hc ⊢
        exact hh m hm e2 hc
      · exact q6 t m ht hm (by omega) hc
    show ∃ s', fX11_layLeft_46 (nI o) (nI g) K (hX11_layLeft_46 (nI o) (nI g) K n) (b2 c) (nI i) st = _ ∧ _
    unfold fX11_layLeft_46 gl
    dsimp only
    rw [if_neg (show ¬ 16 ≤ nI i from nI_ge (b := 16) (by omega) (by omega)), (k8 hi).1, (k8 hi).2, ev75, eF hw2, q3.1.nF]
    by_cases z1 : i % 8 = g
    · rw [if_pos (by rw [z1])]
      refine stay fun m hm e1 hc => ?_
      rw [e1, z1]
      have := q5 (i / 8) g
      rw [h0 _ t2] at this
      omega
    · rw [if_neg (fun q => z1 ((nI_inj (by omega) (by omega)).mp q))]
      by_cases z2 : i % 8 < nF y
      · rw [if_pos ((nI_lt' (by omega) (by omega)).mpr z2), YleastFrom hw q3 t2 hb ho hbT z2, bd]
        dsimp only
        have v1 := lfV_le (y := y) (L := L1) (k := pr o b (i / 8)) (t := i / 8) (f := i % 8) (nM y)
        rw [ev97 _ v1]
        by_cases z3 : lfV y L1 (pr o b (i / 8)) (i / 8) (i % 8) (nM y) < L1 (i / 8) (i % 8)
        · rw [if_pos z3]
          have hv2 : wy y o b g (lfV y L1 (pr o b (i / 8)) (i / 8) (i % 8) (nM y)) (i / 8) (i % 8) := by
            obtain ⟨m, m1, m2, m3, m4⟩ := lfV_s (show lfV y L1 (pr o b (i / 8)) (i / 8) (i % 8) (nM y) < 1000000 by omega)
            have := tO_lt hw m1
            rw [m4]
            exact Or.inr ⟨m, m1, m2, m3, q4 _ _ (by omega) (by omega) (by omega)⟩
          have hup := YL_up (t := i / 8) (f := i % 8) q3 t2 (by omega) v1
          rw [ei] at hup
          refine ⟨(_, _, _), rfl, rfl, true, up2 L1 (i / 8) (i % 8) (lfV y L1 (pr o b (i / 8)) (i / 8) (i % 8) (nM y)), rfl, hup, fun t f ht hf hl => ?_, fun t f => ?_, fun t m ht hm hlt hc => ?_, fun q => (by cases q), fun hcn => ?_⟩
          · unfold up2 at hl ⊢
            by_cases z : t = i / 8 ∧ f = i % 8
            · rw [if_pos z, z.1, z.2]; exact hv2
            · rw [if_neg z] at hl ⊢; exact q4 t f ht hf hl
          · unfold up2
            by_cases z : t = i / 8 ∧ f = i % 8
            · rw [if_pos z, z.1, z.2]
              have := q5 (i / 8) (i % 8)
              omega
            · rw [if_neg z]; exact q5 t f
          · have := fr_lt hw hm
            have hto := tO_lt hw hm
            unfold up2
            by_cases z : t = i / 8 ∧ fr y m = i % 8
            · rw [if_pos z, ← z.1, ← z.2]
              have w1 := lfV_m (y := y) (L := L1) (k := pr o b t) (t := t) hm hc (q3.2.1 _ _)
              have w2 := q5 (1 - t) (tO y m)
              omega
            · rw [if_neg z]
              exact q6 t m ht hm (by omega) hc
          · have hc := q8 hcn
            have hL := q7 hc
            have := hcn _ _ (i / 8) (i % 8) (Nat.le_refl _) t2 hv2
            rw [hL] at z3 this
            omega
        · rw [if_neg z3]
          refine stay fun m hm e1 hc => ?_
          have w1 := lfV_m (y := y) (L := L1) (k := pr o b (i / 8)) (t := i / 8) hm hc (q3.2.1 _ _)
          have w2 := q5 (1 - i / 8) (tO y m)
          rw [e1] at w1 ⊢
          omega
      · rw [if_neg (fun q => z2 ((nI_lt' (by omega) (by omega)).mp q))]
        refine stay fun m hm e1 hc => ?_
        have := fr_lt hw hm
        omega) 0 (0, 0, st) FU (by omega) ⟨rfl, false, L, rfl, hl, hs, fun _ _ => Nat.le_refl _, fun t m ht hm hlt => absurd hlt (by omega), fun _ => rfl, fun _ => rfl⟩ (FU_gt (by omega))
  obtain ⟨l3, l4, s2⟩ := s
  obtain ⟨q1, c, L1, q2, q3, q4, q5, q6, q7, q8⟩ := hp
  dsimp only at q1 q2 q3
  subst q1 q2
  refine ⟨c, L1, s2, e.trans ?_, q3, q4, q5, fun t m ht hm hc => q6 t m ht hm (by have := fr_lt hw hm; omega) hc, q7, q8⟩
  show fX11_layLeft_46 (nI o) (nI g) K _ (b2 c) (nI 16) s2 = _
  unfold fX11_layLeft_46
  rw [if_pos (show (16 : Int32) ≤ nI 16 by decide)]
theorem YlayLeft {y st : gS} (hw : WFy y) {o b g : Nat} (ho : o < nT y) (hbT : b < nT y) (hb : y.1 28 1 = nI b) (hg : g < nF y) (hf : FY y st) : ∃ L st', fX11_layLeft (nI o) (nI g) st = some st' ∧ YL y L st' ∧ Ex y o b g 1000000 L := by
  have hF := nF9 hw
  unfold fX11_layLeft
  obtain ⟨s, _, e, hp⟩ := lp (fun n (s : Int32 × gS) => hX11_layLeft_2 (nI o) (nI g) n s.1 s.2) 16 (fun i s => s.1 = nI i ∧ FY y s.2 ∧ ∀ k, k < i → s.2.1 31 k = nI (if k % 8 = g then 0 else 1000000)) (by
    intro n i ⟨l3, st⟩ hi ⟨q1, q2, q3⟩
    dsimp only at q1 q2 q3
    subst q1
    show ∃ s', fX11_layLeft_2 (nI o) (nI g) (hX11_layLeft_2 (nI o) (nI g) n) (nI i) st = _ ∧ _
    unfold fX11_layLeft_2 fX11_layLeft_28
    rw [if_neg (show ¬ 16 ≤ nI i from nI_ge (b := 16) (by omega) (by omega)), (k8 hi).1, gc_p (gI_nI hi (by decide)), gc_p (gI_nI hi (by decide)), nI_clamp (show i < 2 ^ 31 by omega), nI_s]
    have fin : ∀ v : Nat, v = (if i % 8 = g then 0 else 1000000) → ∃ s' : Int32 × gS, hX11_layLeft_2 (nI o) (nI g) n (nI (i + 1)) (wi st 31 i (nI v)) = hX11_layLeft_2 (nI o) (nI g) n s'.1 s'.2 ∧ s'.1 = nI (i + 1) ∧ FY y s'.2 ∧ ∀ k, k < i + 1 → s'.2.1 31 k = nI (if k % 8 = g then 0 else 1000000) := fun v hv => by
      refine ⟨(_, _), rfl, rfl, q2.tr (FY_wi (by unfold scrY; omega)), fun k hk => ?_⟩
      show (wi st 31 i (nI v)).1 31 k = _
      rw [wi_1]
      by_cases z : k = i
      · rw [if_pos ⟨rfl, z⟩, hv, z]
      · rw [if_neg (fun q => z q.2)]; exact q3 k (by omega)
    by_cases z : i % 8 = g
    · rw [if_pos (by rw [z])]
      exact fin 0 (if_pos z).symm
    · rw [if_neg (fun q => z ((nI_inj (by omega) (by omega)).mp q))]
      exact fin 1000000 (if_neg z).symm) 0 (0, st) FU (by omega) ⟨rfl, hf, fun k hk => absurd hk (by omega)⟩ (FU_gt (by omega))
  obtain ⟨l3, st⟩ := s
  obtain ⟨q1, q2, q3⟩ := hp
  dsimp only at q1 q2 q3
  subst q1
  have e2 : hX11_layLeft_2 (nI o) (nI g) FU 0 _ = hX11_layLeft_37 (nI o) (nI g) FU 1 st := e.trans (by
    show fX11_layLeft_2 (nI o) (nI g) _ (nI 16) st = _
    unfold fX11_layLeft_2
    rw [if_pos (show (16 : Int32) ≤ nI 16 by decide)])
  rw [e2]
  have hl0 : YL y (fun _ f => if f = g then 0 else 1000000) st := ⟨q2, fun t f => by dsimp only; split <;> omega, fun t f ht hf => by
    rw [q3 _ (by omega), show (8 * t + f) % 8 = f by omega]⟩
  refine lpx (fun n (s : Int32 × gS) => hX11_layLeft_37 (nI o) (nI g) n s.1 s.2) 17 (fun i s => ∃ L, YL y L s.2 ∧ Sn y o b g 1000000 L ∧ (∀ t, t < 2 → L t g = 0) ∧ ((s.1 = 1 ∧ Cn y o b g L i ∧ i ≤ 16) ∨ (s.1 = 0 ∧ ∀ n, Cn y o b g L n))) (fun r => ∃ L st', r = some st' ∧ YL y L st' ∧ Ex y o b g 1000000 L) ?_ ?_ 0 (1, st) FU (by omega) ⟨_, hl0, ?_, ?_, Or.inl ⟨rfl, ?_, by omega⟩⟩ (FU_gt (by omega))
  · intro n i ⟨l3, st⟩ hi ⟨L, p2, p3, p0, p4⟩
    dsimp only at p2 p4
    rcases p4 with ⟨rfl, p4, p5⟩ | ⟨rfl, p4⟩
    · right
      obtain ⟨c, L1, st1, u1, u2, u3, u4, u5, u6, u7⟩ := Yround hw ho hbT hb hg p2 p3 p0 (hX11_layLeft_37 (nI o) (nI g) n)
      have h0 : ∀ t, t < 2 → L1 t g = 0 := fun t ht => by
        have := u4 t g
        rw [p0 t ht] at this
        omega
      have ex : hX11_layLeft_37 (nI o) (nI g) (n + 1) 1 st = hX11_layLeft_37 (nI o) (nI g) n (b2 c) st1 := by
        show fX11_layLeft_37 (nI o) (nI g) (hX11_layLeft_37 (nI o) (nI g) n) 1 st = _
        unfold fX11_layLeft_37
        rw [if_neg one0, u1]
      cases hc : c
      · rw [hc] at ex
        have e1 := u6 hc
        refine ⟨(_, _), ex, L1, u2, u3, h0, Or.inr ⟨rfl, ?_⟩⟩
        rw [e1] at u5 ⊢
        exact Cn_cl p0 u5
      · rw [hc] at ex
        have hi16 : i ≠ 16 := fun z => by
          rw [z] at p4
          have := u7 (Cn_16 hw hg p4)
          rw [hc] at this; cases this
        exact ⟨(_, _), ex, L1, u2, u3, h0, Or.inl ⟨rfl, Cn_s p4 (fun t f _ => u4 t f) u5, by omega⟩⟩
    · left
      refine ⟨L, st, ?_, p2, p3, p4⟩
      show fX11_layLeft_37 (nI o) (nI g) (hX11_layLeft_37 (nI o) (nI g) n) 0 st = _
      unfold fX11_layLeft_37
      rw [if_pos rfl]
  · intro n ⟨l3, st⟩ ⟨L, p2, p3, p0, p4⟩
    dsimp only at p2 p4
    rcases p4 with ⟨rfl, p4, p5⟩ | ⟨rfl, p4⟩
    · exact absurd p5 (by omega)
    · refine ⟨L, st, ?_, p2, p3, p4⟩
      show fX11_layLeft_37 (nI o) (nI g) (hX11_layLeft_37 (nI o) (nI g) n) 0 st = _
      unfold fX11_layLeft_37
      rw [if_pos rfl]
  · intro t f ht hf8 hl
    dsimp only at hl ⊢
    by_cases z : f = g
    · rw [if_pos z]; exact z
    · rw [if_neg z] at hl; exact absurd hl (by omega)
  · intro t ht
    exact if_pos rfl
  · intro k t f hk ht hy
    rw [show k = 0 by omega] at hy ⊢
    have hy : f = g := hy
    dsimp only
    rw [if_pos hy]
    exact Nat.le_refl _
