/-! ===== way: the class ===== -/
def XL (x : gS) (o b : Nat) (A : Nat → Nat → Nat) (st : gS) : Prop := FX x st ∧ (∀ t, t < 2 → st.1 151 t = nI (pr o b t)) ∧ (∀ t f, A t f ≤ 99) ∧ ∀ t f, t < 2 → f < 8 → st.1 (153 + 1 + t) f = nI (A t f)
def up2 (A : Nat → Nat → Nat) (t f v : Nat) : Nat → Nat → Nat := fun s g => if s = t ∧ g = f then v else A s g
theorem XL_up {x st : gS} {o b t f v : Nat} {A : Nat → Nat → Nat} (h : XL x o b A st) (ht : t < 2) (hv : v ≤ 99) : XL x o b (up2 A t f v) (wi st (153 + 1 + t) f (nI v)) := by
  refine ⟨h.1.tr (FX_wi (by unfold scrX; omega)), fun s hs => by rw [wi_ne (by omega)]; exact h.2.1 s hs, fun s g => ?_, fun s g hs hg => ?_⟩
  · unfold up2
    split
    · exact hv
    · exact h.2.2.1 s g
  · rw [wi_1]
    unfold up2
    by_cases z : s = t ∧ g = f
    · rw [if_pos ⟨by omega, z.2⟩, if_pos z]
    · rw [if_neg (fun q => z ⟨by omega, q.2⟩), if_neg z]; exact h.2.2.2 s g hs hg
theorem XmeasM {x y st : gS} (h : Inv x y) {o b : Nat} (g : Nat) (ho : o < nT y) (hb : b < nT y) {A : Nat → Nat → Nat} (hl : XL x o b A st) {t : Nat} (ht : t < 2) :
    ∃ c A' st', fX9_measureMoves (x.2.2 0 9) (nI t) st = some (b2 c, st') ∧ XL x o b A' st' ∧ (∀ f, A' (1 - t) f = A (1 - t) f) ∧ (∀ f, A' t f ≤ A t f) ∧ (Sn y o b g 99 A → Sn y o b g 99 A') ∧ (∀ m, m < nM y → cnb y (pr o b t) m = true → A' t (fr y m) ≤ A (1 - t) (tO y m) + 1) ∧ (c = false → A' = A) := by
  have hw := h.wf
  have hM := nM17 hw
  have hF := nF9 hw
  unfold fX9_measureMoves
  obtain ⟨s, _, e, hp⟩ := lp (fun n (s : Int32 × Int32 × gS) => hX9_measureMoves_5 (x.2.2 0 9) (nI t) n s.1 s.2.1 s.2.2) (nM y) (fun i s => s.2.1 = nI i ∧ ∃ c A', s.1 = b2 c ∧ XL x o b A' s.2.2 ∧ (∀ f, A' (1 - t) f = A (1 - t) f) ∧ (∀ f, A' t f ≤ A t f) ∧ (Sn y o b g 99 A → Sn y o b g 99 A') ∧ (∀ m, m < i → cnb y (pr o b t) m = true → A' t (fr y m) ≤ A (1 - t) (tO y m) + 1) ∧ (c = false → A' = A)) (by
    intro n i ⟨l3, l4, st⟩ hi ⟨q1, c, A1, q2, q3, q4, q5, q6, q7, q8⟩
    dsimp only at q1 q2 q3
    subst q1 q2
    have hxs := q3.1.w.xt h
    have f1 := fr_lt hw hi
    have f2 := tO_lt hw hi
    have a1 := q3.2.2.1 (1 - t) (tO y i)
    have a2 := q3.2.2.1 t (fr y i)
    show ∃ s', fX9_measureMoves_5 (x.2.2 0 9) (nI t) (hX9_measureMoves_5 (x.2.2 0 9) (nI t) n) (b2 c) (nI i) st = _ ∧ _
    unfold fX9_measureMoves_5 gl
    dsimp only
    rw [xM hw hxs, if_neg (nle hi (by omega)), nI_clamp (show i < 2 ^ 31 by omega), nI_clamp (show t < 2 ^ 31 by omega), q3.2.1 t ht, Xcan hw hxs (pr_lt ho hb) hi, bd]
    dsimp only
    rw [e1t ht, nI_clamp (show 1 - t < 2 ^ 31 by omega), xtO_e hw hxs hi, xfr_e hw hxs hi, nI_clamp (show tO y i < 2 ^ 31 by omega), nI_clamp (show fr y i < 2 ^ 31 by omega), q3.2.2.2 (1 - t) _ (by omega) (by omega), q3.2.2.2 t _ ht (by omega), nI_s i, nI_s (A1 (1 - t) (tO y i))]
    simp only [gc_p (gI_nI (show 1 - t < 2 by omega) (by decide)), gc_p (gI_nI (show i < 16 by omega) (by decide)), gc_p (gI_nI (show tO y i < 8 by omega) (by decide)), gc_p (gI_nI ht (by decide)), gc_p (gI_nI (show fr y i < 8 by omega) (by decide))]
    by_cases z1 : A1 t (fr y i) ≤ A1 (1 - t) (tO y i) + 1
    · rw [if_pos ((nI_le' (by omega) (by omega)).mpr z1)]
      refine ⟨(_, _, _), rfl, rfl, c, A1, rfl, q3, q4, q5, q6, fun m hm hc => ?_, q8⟩
      by_cases z : m = i
      · rw [z, ← q4]; exact z1
      · exact q7 m (by omega) hc
    · rw [if_neg (fun q => z1 ((nI_le' (by omega) (by omega)).mp q))]
      cases z2 : cnb y (pr o b t) i
      · rw [if_pos zero0']
        refine ⟨(_, _, _), rfl, rfl, c, A1, rfl, q3, q4, q5, q6, fun m hm hc => ?_, q8⟩
        by_cases z : m = i
        · rw [z, z2] at hc; cases hc
        · exact q7 m (by omega) hc
      · rw [if_neg one0']
        refine ⟨(_, _, _), rfl, rfl, true, up2 A1 t (fr y i) (A1 (1 - t) (tO y i) + 1), rfl, XL_up q3 ht (by omega), fun f => ?_, fun f => ?_, fun hs => ?_, fun m hm hc => ?_, fun q => by cases q⟩
        · unfold up2; rw [if_neg (by omega)]; exact q4 f
        · unfold up2
          by_cases z : t = t ∧ f = fr y i
          · rw [if_pos z, z.2]
            have := q5 (fr y i)
            omega
          · rw [if_neg z]; exact q5 f
        · intro s f hs2 hf hl
          unfold up2 at hl ⊢
          by_cases z : s = t ∧ f = fr y i
          · rw [if_pos z] at hl ⊢
            rw [z.1, z.2]
            exact Or.inr ⟨i, hi, rfl, z2, (q6 hs) (1 - t) _ (by omega) (by omega) (by omega)⟩
          · rw [if_neg z] at hl ⊢
            exact q6 hs s f hs2 hf hl
        · unfold up2
          by_cases z : m = i
          · rw [z, if_pos ⟨rfl, rfl⟩, q4]; exact Nat.le_refl _
          · have := q7 m (by omega) hc
            by_cases w : t = t ∧ fr y m = fr y i
            · rw [if_pos w]
              rw [w.2] at this
              omega
            · rw [if_neg w]; exact this) 0 (0, 0, st) FU (by omega) ⟨rfl, false, A, rfl, hl, fun _ => rfl, fun _ => Nat.le_refl _, fun q => q, fun m hm => absurd hm (by omega), fun _ => rfl⟩ (FU_gt (by omega))
  obtain ⟨l3, l4, s2⟩ := s
  obtain ⟨q1, c, A1, q2, q3, q4, q5, q6, q7, q8⟩ := hp
  dsimp only at q1 q2 q3
  subst q1 q2
  refine ⟨c, A1, s2, e.trans ?_, q3, q4, q5, q6, q7, q8⟩
  show fX9_measureMoves_5 (x.2.2 0 9) (nI t) _ (b2 c) (nI (nM y)) s2 = _
  unfold fX9_measureMoves_5
  rw [xM hw (q3.1.w.xt h), if_pos (yle _), gc_p (b2_B _)]
theorem Xmeasure {x y st : gS} (h : Inv x y) {o b g : Nat} (ho : o < nT y) (hb : b < nT y) (hg : g < nF y) (hf : FX x st) (hp : ∀ t, t < 2 → st.1 151 t = nI (pr o b t)) : ∃ A st', fX9_measure (x.2.2 0 9) (nI g) st = some st' ∧ XL x o b A st' ∧ Ex y o b g 99 A := by
  have hw := h.wf
  have hF := nF9 hw
  unfold fX9_measure
  rw [gc_p (by decide), show (0 : Int32).toNatClampNeg = 0 from rfl]
  obtain ⟨s1, f1, f2, f3⟩ := fill_spec (r := 153 + 1 + 0) gn0_154 (by decide) 99 st
  rw [f1, bd, gc_p (by decide), show (1 : Int32).toNatClampNeg = 1 from rfl]
  obtain ⟨s2, f4, f5, f6⟩ := fill_spec (r := 153 + 1 + 1) gn0_155 (by decide) 99 s1
  rw [f4, bd, gc_p (by decide), gc_p (gI_nI (show g < 8 by omega) (by decide)), gc_p (by decide), gc_p (gI_nI (show g < 8 by omega) (by decide)), nI_clamp (show g < 2 ^ 31 by omega)]
  have hx3 : XL x o b (fun _ f => if f = g then 0 else 99) (wi (wi s2 (153 + 1 + 0) g 0) (153 + 1 + 1) g 0) := by
    refine ⟨hf.tr ⟨?_, fun k j hk => ?_⟩, fun t ht => ?_, fun t f => ?_, fun t f ht hf8 => ?_⟩
    · show s2.2.2 = st.2.2
      rw [f5, f2]
    · unfold scrX at hk
      rw [wi_1, if_neg (by omega), wi_1, if_neg (by omega), f6, if_neg (by omega), f3, if_neg (by omega)]
    · rw [wi_1, if_neg (by omega), wi_1, if_neg (by omega), f6, if_neg (by omega), f3, if_neg (by omega)]
      exact hp t ht
    · dsimp only
      split <;> omega
    · dsimp only
      match t, ht with
      | 0, _ =>
        rw [wi_1, if_neg (by omega), wi_1]
        by_cases z : f = g
        · rw [if_pos ⟨rfl, z⟩, if_pos z]; rfl
        · rw [if_neg (fun q => z q.2), if_neg z, f6, if_neg (by omega), f3, if_pos ⟨rfl, hf8⟩]; rfl
      | 1, _ =>
        rw [wi_1]
        by_cases z : f = g
        · rw [if_pos ⟨rfl, z⟩, if_pos z]; rfl
        · rw [if_neg (fun q => z q.2), if_neg z, wi_1, if_neg (by omega), f6, if_pos ⟨rfl, hf8⟩]; rfl
      | n + 2, ht => exact absurd ht (by omega)
  refine lpx (fun n (s : Int32 × Int32 × gS) => hX9_measure_45 (x.2.2 0 9) (nI g) n s.1 s.2.1 s.2.2) 16 (fun i s => s.2.1 = nI i ∧ ∃ A, XL x o b A s.2.2 ∧ Sn y o b g 99 A ∧ (∀ t, t < 2 → A t g = 0) ∧ ((s.1 = 1 ∧ Cn y o b g A i) ∨ (s.1 = 0 ∧ ∀ n, Cn y o b g A n))) (fun r => ∃ A st', r = some st' ∧ XL x o b A st' ∧ Ex y o b g 99 A) ?_ ?_ 0 (1, 0, _) FU (by omega) ⟨rfl, _, hx3, ?_, ?_, Or.inl ⟨rfl, ?_⟩⟩ (FU_gt (by omega))
  · intro n i ⟨l3, l4, st⟩ hi ⟨q1, A, q2, q3, q0, q4⟩
    dsimp only at q1 q2 q4
    subst q1
    rcases q4 with ⟨rfl, q4⟩ | ⟨rfl, q4⟩
    · right
      obtain ⟨c1, A1, st1, u1, u2, u3, u4, u5, u6, u7⟩ := XmeasM h g ho hb q2 (t := 0) (by decide)
      obtain ⟨c2, A2, st2, v1, v2, v3, v4, v5, v6, v7⟩ := XmeasM h g ho hb u2 (t := 1) (by decide)
      have u1 : fX9_measureMoves (x.2.2 0 9) 0 st = some (b2 c1, st1) := u1
      have v1 : fX9_measureMoves (x.2.2 0 9) 1 st1 = some (b2 c2, st2) := v1
      have u3 : ∀ f, A1 1 f = A 1 f := u3
      have v3 : ∀ f, A2 0 f = A1 0 f := v3
      have u6 : ∀ m, m < nM y → cnb y (pr o b 0) m = true → A1 0 (fr y m) ≤ A 1 (tO y m) + 1 := u6
      have v6 : ∀ m, m < nM y → cnb y (pr o b 1) m = true → A2 1 (fr y m) ≤ A1 0 (tO y m) + 1 := v6
      have hle : ∀ t f, t < 2 → A2 t f ≤ A t f := fun t f ht => by
        match t, ht with
        | 0, _ => rw [v3]; exact u4 f
        | 1, _ => rw [← u3]; exact v4 f
        | n + 2, ht => exact absurd ht (by omega)
      have hmv : ∀ t m, t < 2 → m < nM y → cnb y (pr o b t) m = true → A2 t (fr y m) ≤ A (1 - t) (tO y m) + 1 := fun t m ht hm hc => by
        match t, ht, hc with
        | 0, _, hc => rw [v3]; exact u6 m hm hc
        | 1, _, hc =>
          have w1 := v6 m hm hc
          have w2 := u4 (tO y m)
          show A2 1 (fr y m) ≤ A 0 (tO y m) + 1
          omega
        | n + 2, ht, _ => exact absurd ht (by omega)
      have h0 : ∀ t, t < 2 → A2 t g = 0 := fun t ht => by
        have := hle t g ht
        rw [q0 t ht] at this
        omega
      have hsn := v5 (u5 q3)
      have ex : hX9_measure_45 (x.2.2 0 9) (nI g) (n + 1) 1 (nI i) st = if c1 = false ∧ c2 = false then hX9_measure_45 (x.2.2 0 9) (nI g) n 0 (nI (i + 1)) st2 else hX9_measure_45 (x.2.2 0 9) (nI g) n 1 (nI (i + 1)) st2 := by
        show fX9_measure_45 (x.2.2 0 9) (nI g) (hX9_measure_45 (x.2.2 0 9) (nI g) n) 1 (nI i) st = _
        unfold fX9_measure_45 fX9_measure_82
        rw [if_neg (show ¬ 16 ≤ nI i from nI_ge (b := 16) (by omega) (by omega)), if_neg one0, u1, bd]
        dsimp only
        rw [v1, bd, nI_s]
        dsimp only
        cases c1 <;> cases c2 <;> rfl
      by_cases z : c1 = false ∧ c2 = false
      · refine ⟨(_, _, _), ex.trans (if_pos z), rfl, A2, v2, hsn, h0, Or.inr ⟨rfl, ?_⟩⟩
        have e1 := u7 z.1
        have e2 := v7 z.2
        rw [e1] at e2
        rw [e2] at hmv ⊢
        exact Cn_cl q0 hmv
      · exact ⟨(_, _, _), ex.trans (if_neg z), rfl, A2, v2, hsn, h0, Or.inl ⟨rfl, Cn_s q4 hle hmv⟩⟩
    · left
      refine ⟨A, st, ?_, q2, q3, q4⟩
      show fX9_measure_45 (x.2.2 0 9) (nI g) (hX9_measure_45 (x.2.2 0 9) (nI g) n) 0 (nI i) st = _
      unfold fX9_measure_45
      rw [if_neg (show ¬ 16 ≤ nI i from nI_ge (b := 16) (by omega) (by omega)), if_pos rfl]
  · intro n ⟨l3, l4, st⟩ ⟨q1, A, q2, q3, q0, q4⟩
    dsimp only at q1 q2 q4
    subst q1
    refine ⟨A, st, ?_, q2, q3, ?_⟩
    · show fX9_measure_45 (x.2.2 0 9) (nI g) (hX9_measure_45 (x.2.2 0 9) (nI g) n) l3 (nI 16) st = _
      unfold fX9_measure_45
      rw [if_pos (show (16 : Int32) ≤ nI 16 by decide)]
    · rcases q4 with ⟨-, q4⟩ | ⟨-, q4⟩
      · exact Cn_16 hw hg q4
      · exact q4
  · intro t f ht hf8 hl
    dsimp only at hl ⊢
    by_cases z : f = g
    · rw [if_pos z]; exact z
    · rw [if_neg z] at hl; exact absurd hl (by omega)
  · intro t ht
    exact if_pos rfl
  · intro k t f hk ht hy
    rw [show k = 0 by omega] at hy ⊢
    have hy : f = g := hy
    dsimp only
    rw [if_pos hy]
    exact Nat.le_refl _
theorem XfirstN {x y st : gS} (h : Inv x y) {o b : Nat} (ho : o < nT y) (hb : b < nT y) {A : Nat → Nat → Nat} (hf : FXw x st) (hp : ∀ t, t < 2 → st.1 151 t = nI (pr o b t)) (hA : ∀ t f, A t f ≤ 99) (hr : ∀ t f, t < 2 → f < 8 → st.1 (153 + 1 + t) f = nI (A t f)) {t f d m : Nat} (ht : t < 2) (hf8 : f < 8) (hd : d ≤ 99) (hm : mvP y o b A t f d m) (h1 : ∀ j, j < m → ¬ mvP y o b A t f d j) : fX9_firstNearer (x.2.2 0 9) (nI f) (nI t) (nI d) st = some (nI m, st) := by
  have hw := h.wf
  have hM := nM17 hw
  have hF := nF9 hw
  have hxs := hf.xt h
  have ev : ∀ i K, i < nM y → fX9_firstNearer_3 (x.2.2 0 9) (nI f) (nI t) (nI d) K (nI i) st = if fr y i = f then (if A (1 - t) (tO y i) = d then (if cnb y (pr o b t) i = true then some (nI i, st) else K (nI (i + 1)) st) else K (nI (i + 1)) st) else K (nI (i + 1)) st := by
    intro i K hi
    have f1 := fr_lt hw hi
    have f2 := tO_lt hw hi
    have a1 := hA (1 - t) (tO y i)
    unfold fX9_firstNearer_3
    rw [xM hw hxs, if_neg (nle hi (by omega)), nI_clamp (show i < 2 ^ 31 by omega), nI_clamp (show t < 2 ^ 31 by omega), hp t ht, Xcan hw hxs (pr_lt ho hb) hi, bd]
    dsimp only
    rw [e1t ht, nI_clamp (show 1 - t < 2 ^ 31 by omega), xtO_e hw hxs hi, xfr_e hw hxs hi, nI_clamp (show tO y i < 2 ^ 31 by omega), hr (1 - t) _ (by omega) (by omega), nI_s i]
    simp only [gc_p (gI_nI (show 1 - t < 2 by omega) (by decide)), gc_p (gI_nI (show i < 16 by omega) (by decide)), gc_p (gI_nI (show tO y i < 8 by omega) (by decide)), gc_p (gI_nI ht (by decide))]
    by_cases z1 : fr y i = f
    · rw [if_pos (by rw [z1]), if_pos z1]
      by_cases z2 : A (1 - t) (tO y i) = d
      · rw [if_pos (by rw [z2]), if_pos z2]
        cases cnb y (pr o b t) i
        · rw [if_pos zero0', if_neg (by decide)]
        · rw [if_neg one0', if_pos rfl]
      · rw [if_neg (fun q => z2 ((nI_inj (by omega) (by omega)).mp q)), if_neg z2]
    · rw [if_neg (fun q => z1 ((nI_inj (by omega) (by omega)).mp q)), if_neg z1]
  unfold fX9_firstNearer
  have hmM := hm.1
  obtain ⟨s, k, e, hq⟩ := lp (fun n (s : Int32 × gS) => hX9_firstNearer_3 (x.2.2 0 9) (nI f) (nI t) (nI d) n s.1 s.2) m (fun i s => s = (nI i, st)) (by
    intro n i s hi hs
    subst hs
    refine ⟨(nI (i + 1), st), ?_, rfl⟩
    show fX9_firstNearer_3 (x.2.2 0 9) (nI f) (nI t) (nI d) (hX9_firstNearer_3 (x.2.2 0 9) (nI f) (nI t) (nI d) n) (nI i) st = _
    rw [ev i _ (by omega)]
    have hn := h1 i hi
    by_cases z1 : fr y i = f
    · rw [if_pos z1]
      by_cases z2 : A (1 - t) (tO y i) = d
      · rw [if_pos z2]
        by_cases z3 : cnb y (pr o b t) i = true
        · exact absurd ⟨by omega, z1, z3, z2⟩ hn
        · rw [if_neg z3]
      · rw [if_neg z2]
    · rw [if_neg z1]) 0 (0, st) FU (by omega) rfl (FU_gt (by omega))
  subst hq
  refine e.trans ?_
  show fX9_firstNearer_3 (x.2.2 0 9) (nI f) (nI t) (nI d) _ (nI m) st = _
  rw [ev m _ hmM, if_pos hm.2.1, if_pos hm.2.2.2, if_pos hm.2.2.1]
theorem Xlay1 {st : gS} {i : Nat} (m : Int32) (hi : i < 16) (h7 : st.1 150 7 = nI i) : fX9_lay m st = some (wi (wi st 152 i m) 150 7 (nI (i + 1))) := by
  unfold fX9_lay
  rw [h7, if_neg (show ¬ 16 ≤ nI i from nI_ge (b := 16) (by omega) (by omega)), gc_p (gI_nI hi (by decide)), nI_clamp (by omega), wi_ne (by decide), h7, nI_s]
def XLw (x : gS) (o b : Nat) (A : Nat → Nat → Nat) (ms : Nat → Nat) (i : Nat) (st : gS) : Prop := FXw x st ∧ (∀ t, t < 2 → st.1 151 t = nI (pr o b t)) ∧ (∀ t f, A t f ≤ 99) ∧ (∀ t f, t < 2 → f < 8 → st.1 (153 + 1 + t) f = nI (A t f)) ∧ st.1 150 7 = nI i ∧ ∀ j, j < i → st.1 152 j = nI (ms j)
theorem XlayF {x y st : gS} (h : Inv x y) {o b g f : Nat} (ho : o < nT y) (hb : b < nT y) (hg : g < nF y) (hf : f < nF y) {A : Nat → Nat → Nat} (hA : Ex y o b g 99 A) (hn : A 0 f < 99) (hl : XLw x o b A (mvs y o b A (A 0 f) f) 0 st) : ∃ st', fX9_layFewest (x.2.2 0 9) (nI f) (nI (A 0 f)) st = some st' ∧ XLw x o b A (mvs y o b A (A 0 f) f) (A 0 f) st' := by
  have hw := h.wf
  have hM := nM17 hw
  have hF := nF9 hw
  have h16 := (Ex_eq hw hg hA hA (by decide) (t := 0) (by decide) (by omega) hn).2
  unfold fX9_layFewest
  obtain ⟨s, _, e, hp⟩ := lp (fun n (s : Int32 × Int32 × gS) => hX9_layFewest_6 (x.2.2 0 9) (nI f) (nI (A 0 f)) n s.1 s.2.1 s.2.2) (A 0 f) (fun i s => s.1 = nI (fgs y o b A (A 0 f) f i) ∧ s.2.1 = nI i ∧ XLw x o b A (mvs y o b A (A 0 f) f) i s.2.2) (by
    intro n i ⟨l4, l5, st⟩ hi ⟨q1, q2, q3⟩
    dsimp only at q1 q2 q3
    subst q1 q2
    obtain ⟨p1, p2⟩ := pth hw hA hf hn i (by omega)
    obtain ⟨m1, m2⟩ := pthm hw hA hf hn hi
    obtain ⟨w1, w2, w3, w4, w5, w6⟩ := q3
    have hmM := m1.1
    show ∃ s', fX9_layFewest_6 (x.2.2 0 9) (nI f) (nI (A 0 f)) (hX9_layFewest_6 (x.2.2 0 9) (nI f) (nI (A 0 f)) n) _ (nI i) st = _ ∧ _
    unfold fX9_layFewest_6 gl
    rw [if_neg (nle hi (by omega)), show nI (A 0 f) - nI i = nI (A 0 f - i) from pk_sub (by omega), show nI (A 0 f - i) - 1 = nI (A 0 f - i - 1) from pk_sub (b := 1) (by omega), bit1 i (by omega), XfirstN h ho hb w1 w2 w3 w4 (Nat.mod_lt _ (by decide)) (by omega) (by omega) m1 m2, bd]
    dsimp only
    have hx2 : FXw x (wi (wi st 152 i (nI (mvs y o b A (A 0 f) f i))) 150 7 (nI (i + 1))) := (w1.tr (FXw_wi (by omega))).tr (FXw_wi (by omega))
    rw [if_neg (nI_m1 (by omega)), Xlay1 _ (by omega) w5, bd, gc_p (gI_nI (show mvs y o b A (A 0 f) f i < 16 by omega) (by decide)), nI_clamp (show mvs y o b A (A 0 f) f i < 2 ^ 31 by omega), nI_s, xtO_e hw (hx2.xt h) hmM]
    refine ⟨(_, _, _), rfl, rfl, rfl, hx2, fun t ht => ?_, w3, fun t f ht hf8 => ?_, ?_, fun j hj => ?_⟩
    · show (wi (wi st 152 i _) 150 7 _).1 151 t = _
      rw [wi_ne (by decide), wi_ne (by decide)]; exact w2 t ht
    · show (wi (wi st 152 i _) 150 7 _).1 (153 + 1 + t) f = _
      rw [wi_ne (by omega), wi_ne (by omega)]; exact w4 t f ht hf8
    · show (wi (wi st 152 i _) 150 7 _).1 150 7 = _
      rw [wi_1, if_pos ⟨rfl, rfl⟩]
    · show (wi (wi st 152 i _) 150 7 _).1 152 j = _
      rw [wi_ne (by decide), wi_1]
      by_cases z : j = i
      · rw [if_pos ⟨rfl, z⟩, z]
      · rw [if_neg (fun q => z q.2)]; exact w6 j (by omega)) 0 (nI f, 0, st) FU (by omega) ⟨rfl, rfl, hl⟩ (FU_gt (by omega))
  obtain ⟨l4, l5, s2⟩ := s
  obtain ⟨q1, q2, q3⟩ := hp
  dsimp only at q1 q2 q3
  subst q1 q2
  refine ⟨s2, e.trans ?_, q3⟩
  show fX9_layFewest_6 (x.2.2 0 9) (nI f) (nI (A 0 f)) _ _ (nI (A 0 f)) s2 = _
  unfold fX9_layFewest_6
  rw [if_pos (yle _)]
theorem Xfewest {x y : gS} (h : Inv x y) (h7 : x.1 150 7 = nI 0) {o b f g : Nat} (ho : o < nT y) (hb : b < nT y) (hf : f < nF y) (hg : g < nF y) (h3 : x.1 20 3 = nI b) (h2 : x.1 20 2 = nI f) : ∃ A, Ex y o b g 99 A ∧ ((A 0 f = 99 ∧ ∃ x', fX9_fewest (x.2.2 0 9) 20 (nI o) (nI g) x = some (-1, x') ∧ FX x x') ∨ (A 0 f < 99 ∧ ∃ x', fX9_fewest (x.2.2 0 9) 20 (nI o) (nI g) x = some (nI (A 0 f), x') ∧ XLw x o b A (mvs y o b A (A 0 f) f) (A 0 f) x')) := by
  have hw := h.wf
  have hF := nF9 hw
  unfold fX9_fewest
  rw [h2, Xfig hw h.xt.1 hf, bd]
  dsimp only
  rw [if_neg one0, Xfig hw h.xt.1 hg, bd]
  dsimp only
  obtain ⟨x1, s1, s2, s3⟩ := Xsit h (o := o) h3
  rw [if_neg one0, s1, bd]
  obtain ⟨A, x2, m1, m2, m3⟩ := Xmeasure h ho hb hg s2 s3
  have e20 : x2.1 20 2 = nI f := (m2.1.2 20 2 (by unfold scrX; omega)).trans h2
  have e150 : x2.1 150 7 = nI 0 := (m2.1.2 150 7 (by unfold scrX; omega)).trans h7
  rw [m1, bd, gc_p (by decide), e20, gc_p (gI_nI (show f < 8 by omega) (by decide)), nI_clamp (show f < 2 ^ 31 by omega), show (0 : Int32).toNatClampNeg = 0 from rfl, m2.2.2.2 0 f (by decide) (by omega)]
  unfold gl
  dsimp only
  have hb99 := m2.2.2.1 0 f
  refine ⟨A, m3, ?_⟩
  by_cases z : A 0 f < 99
  · right
    obtain ⟨x3, l1, l2⟩ := XlayF h ho hb hg hf m3 z ⟨m2.1.w, m2.2.1, m2.2.2.1, m2.2.2.2, e150, fun j hj => absurd hj (by omega)⟩
    rw [if_pos (show nI (A 0 f) < 99 from (nI_lt' (b := 99) (by omega) (by decide)).mpr z), l1, bd]
    exact ⟨z, x3, rfl, l2⟩
  · left
    rw [if_neg (show ¬ nI (A 0 f) < 99 from fun q => z ((nI_lt' (b := 99) (by omega) (by decide)).mp q))]
    exact ⟨by omega, x2, rfl, m2.1⟩
