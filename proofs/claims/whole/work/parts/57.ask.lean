/-! ===== rows, sure, ask ===== -/
theorem s_rows (K : Int32) : sOK Inv (fX10_rows K) (fX11_rows K) := by
  intro x y h
  unfold fX10_rows fX11_rows
  obtain ⟨x', a1, a2, -⟩ := Xcount h K
  obtain ⟨y', b1, b2', -⟩ := YlayRows h K
  rw [gc_p h.told8, a1, b1, bd, bd]
  exact ⟨_, _, _, rfl, rfl, Inv_fr h a2 b2'⟩
theorem Xthrough {x y : gS} {K : Int32} (hc : ∀ n f, n < 7 → f < 8 → x.1 (178 + 1 + n) f = nI (cme y K n f) ∧ x.1 (186 + 1 + n) f = nI (goD y K (6 - n) f)) {n f : Nat} (hn : n < 7) (hf : f < 8) : fX2_through (nI n) (nI f) x = some (nI (thr y K n f), x) := by
  unfold fX2_through
  rw [gc_p (gI_nI hn (by decide)), gc_p (gI_nI hf (by decide)), gc_p (gI_nI hn (by decide)), gc_p (gI_nI hf (by decide)), nI_clamp (by omega), nI_clamp (by omega), (hc n f hn hf).1, (hc n f hn hf).2, pk_mul]
  rfl
theorem Ythrough {y s : gS} (hw : WFy y) {K : Int32} (hc : ∀ n f, n ≤ 6 → f < nF y → s.1 43 (8 * n + f) = nI (cme y K n f) ∧ s.1 44 (8 * n + f) = nI (onD y K (6 - n) f)) {n f : Nat} (hn : n < 7) (hf : f < nF y) : fX11_through (nI n) (nI f) s = some (nI (thr y K n f), s) := by
  have hF := nF9 hw
  unfold fX11_through
  have c1 := cme_le (K := K) hw n f
  have c2 : (16 : Nat) ^ n ≤ 16 ^ 6 := Nat.pow_le_pow_right (by decide) (by omega)
  rw [e8n, gc_p (gI_nI (by omega) (by decide)), gc_p (gI_nI (by omega) (by decide)), gc_p (gI_nI (by omega) (by decide)), nI_clamp (by omega), (hc n f (by omega) hf).1, (hc n f (by omega) hf).2, ite0 (by omega), pk_mul, ← thr_on hw (K := K) (show n ≤ 6 by omega) hf]
  by_cases z : cme y K n f = 0
  · rw [if_pos z, if_pos z]; rfl
  · rw [if_neg z, if_neg z]
theorem XhasN {n : Nat} (hn : n < 7) (x : gS) : fX2_hasNumber (nI n) x = some (1, x) := by
  unfold fX2_hasNumber
  rw [if_neg (nI_nn (by omega)), if_neg (fun q => by have := (nI_lt' (a := 6) (by decide) (by omega)).mp q; omega)]
/-- the only figure of the first ones: none, one, more -/
def onl (y : gS) (K : Int32) (n : Nat) : Nat → Option (Option Nat)
  | 0 => some none
  | f + 1 => match onl y K n f with
    | none => none
    | some none => if thr y K n f = 0 then some none else some (some f)
    | some (some g) => if thr y K n f = 0 then some (some g) else none
theorem onl_none {y : gS} {K : Int32} {n i j : Nat} (h : onl y K n i = none) (hj : i ≤ j) : onl y K n j = none := by
  induction j with
  | zero => rw [show i = 0 by omega] at h; exact h
  | succ j ih =>
    by_cases e : i = j + 1
    · rw [← e]; exact h
    · rw [onl, ih (by omega)]
theorem onl_spec (y : gS) (K : Int32) (n i : Nat) : match onl y K n i with
    | none => ∃ f g, f < g ∧ g < i ∧ thr y K n f ≠ 0 ∧ thr y K n g ≠ 0
    | some none => ∀ f, f < i → thr y K n f = 0
    | some (some g) => g < i ∧ thr y K n g ≠ 0 ∧ ∀ f, f < i → f ≠ g → thr y K n f = 0 := by
  induction i with
  | zero => intro f hf; omega
  | succ i ih =>
    rw [onl]
    cases hq : onl y K n i with
    | none =>
      rw [hq] at ih
      obtain ⟨f, g, h1, h2, h3⟩ := ih
      exact ⟨f, g, h1, by omega, h3⟩
    | some v =>
      rw [hq] at ih
      cases v with
      | none =>
        dsimp only at ih ⊢
        by_cases z : thr y K n i = 0
        · rw [if_pos z]
          intro f hf
          by_cases zf : f = i
          · rw [zf]; exact z
          · exact ih f (by omega)
        · rw [if_neg z]
          exact ⟨by omega, z, fun f hf hn => ih f (by omega)⟩
      | some g =>
        dsimp only at ih ⊢
        obtain ⟨h1, h2, h3⟩ := ih
        by_cases z : thr y K n i = 0
        · rw [if_pos z]
          refine ⟨by omega, h2, fun f hf hn => ?_⟩
          by_cases zf : f = i
          · rw [zf]; exact z
          · exact h3 f (by omega) hn
        · rw [if_neg z]
          exact ⟨g, i, h1, by omega, h2, z⟩
def oonI : Option (Option Nat) → Int32
  | none => -2
  | some none => -1
  | some (some f) => nI f
theorem Xonly {x y : gS} (hw : WFy y) {K : Int32} (hc : ∀ n f, n < 7 → f < 8 → x.1 (178 + 1 + n) f = nI (cme y K n f) ∧ x.1 (186 + 1 + n) f = nI (goD y K (6 - n) f)) {n : Nat} (hn : n < 7) : fX2_onlyFigure (nI n) x = some (oonI (onl y K n 8), x) := by
  unfold fX2_onlyFigure
  refine lpx (fun k (s : Int32 × Int32 × gS) => hX2_onlyFigure_4 (nI n) k s.1 s.2.1 s.2.2) 8 (fun i s => s = (oonI (onl y K n i), nI i, x) ∧ onl y K n i ≠ none) (fun r => r = some (oonI (onl y K n 8), x)) ?_ ?_ 0 (-1, 0, x) FU (by omega) ⟨rfl, fun z => by cases z⟩ (FU_gt (by omega))
  · intro k i s hi ⟨hs, hne⟩
    subst hs
    have tb : thr y K n i < 2 ^ 31 := Nat.lt_of_le_of_lt (thr_le hw (by omega) i) (by decide)
    have ex : hX2_onlyFigure_4 (nI n) (k + 1) (oonI (onl y K n i)) (nI i) x = if thr y K n i = 0 then hX2_onlyFigure_4 (nI n) k (oonI (onl y K n i)) (nI (i + 1)) x else if oonI (onl y K n i) = -1 then hX2_onlyFigure_4 (nI n) k (nI i) (nI (i + 1)) x else some (-2, x) := by
      show fX2_onlyFigure_4 (nI n) (hX2_onlyFigure_4 (nI n) k) (oonI (onl y K n i)) (nI i) x = _
      unfold fX2_onlyFigure_4
      rw [if_neg (show ¬ 8 ≤ nI i from nI_ge (b := 8) (by omega) (by omega)), XhasN hn, bd]
      dsimp only
      rw [if_neg one0, Xthrough hc hn hi, bd]
      dsimp only
      rw [ite0 tb, nI_s]
    have nx : onl y K n (i + 1) = match onl y K n i with
      | none => none
      | some none => if thr y K n i = 0 then some none else some (some i)
      | some (some g) => if thr y K n i = 0 then some (some g) else none := rfl
    cases hq : onl y K n i with
    | none => exact absurd hq hne
    | some v =>
      rw [hq] at ex nx
      cases v with
      | none =>
        dsimp only at nx
        right
        by_cases z : thr y K n i = 0
        · rw [if_pos z] at ex nx
          exact ⟨_, ex, by rw [nx], by rw [nx]; intro q; cases q⟩
        · rw [if_neg z] at ex nx
          exact ⟨_, ex.trans (if_pos rfl), by rw [nx, oonI], by rw [nx]; intro q; cases q⟩
      | some g =>
        dsimp only at nx
        have sp := onl_spec y K n i
        rw [hq] at sp
        have hg := sp.1
        by_cases z : thr y K n i = 0
        · right
          rw [if_pos z] at ex nx
          exact ⟨_, ex, by rw [nx], by rw [nx]; intro q; cases q⟩
        · left
          rw [if_neg z] at ex nx
          refine (ex.trans (if_neg (nI_m1 (a := g) (by omega)))).trans ?_
          rw [onl_none nx (by omega)]; rfl
  · intro k s ⟨hs, _⟩
    subst hs
    show fX2_onlyFigure_4 _ _ _ (nI 8) x = _
    unfold fX2_onlyFigure_4
    rw [if_pos (show (8 : Int32) ≤ nI 8 by decide)]
theorem sM_two {v : Nat → Nat} {f g N : Nat} (hfg : f < g) (hg : g < N) : v f + v g ≤ sM tt v N := by
  have one : ∀ N g, g < N → v g ≤ sM tt v N := by
    intro N
    induction N with
    | zero => intro g hg; omega
    | succ N ih =>
      intro g hg
      rw [sM, if_pos rfl]
      by_cases z : g = N
      · rw [z]; omega
      · have := ih g (by omega); omega
  induction N with
  | zero => omega
  | succ N ih =>
    rw [sM, if_pos rfl]
    by_cases z : g = N
    · have := one N f (by omega)
      rw [z]; omega
    · have := ih (by omega); omega
theorem Ysure {x y s : gS} (h : Inv x y) (hs : FY y s) {K : Int32} (hc : ∀ n f, n ≤ 6 → f < nF y → s.1 43 (8 * n + f) = nI (cme y K n f) ∧ s.1 44 (8 * n + f) = nI (onD y K (6 - n) f)) {n : Nat} (hn : n < 7) : hX11_sure_21 (nI n) K FU (nI (rwT y K)) 0 s = some (if rwT y K = 0 then -1 else oonI (onl y K n 8), s) := by
  have hw := h.wf
  have hF := nF9 hw
  have tb : rwT y K < 2 ^ 31 := Nat.lt_of_le_of_lt (rwT_le hw) (by decide)
  have hT := thr_T (K := K) hw (show n ≤ 6 by omega)
  have sp := onl_spec y K n 8
  have e54 : fX11_sure_54 (nI n) K (nI (rwT y K)) s = if rwT y K = 0 then some (-1, s) else some (-2, s) := by
    unfold fX11_sure_54
    rw [ite0 tb]
  by_cases z0 : rwT y K = 0
  · rw [if_pos z0]
    obtain ⟨m, hm⟩ : ∃ m, FU = m + 1 := ⟨69999, rfl⟩
    rw [hm]
    show fX11_sure_21 (nI n) K _ _ _ s = _
    unfold fX11_sure_21
    rw [e54, if_pos z0, z0, if_pos (show nI 0 ≤ 0 by decide)]
    split <;> rfl
  · rw [if_neg z0]
    rw [if_neg z0] at e54
    refine lpx (fun k (s : Int32 × gS) => hX11_sure_21 (nI n) K k (nI (rwT y K)) s.1 s.2) (nF y) (fun i s' => s' = (nI i, s) ∧ ∀ f, f < i → thr y K n f ≠ rwT y K) (fun r => r = some (oonI (onl y K n 8), s)) ?_ ?_ 0 (0, s) FU (by omega) ⟨rfl, fun f hf => absurd hf (by omega)⟩ (FU_gt (by omega))
    · intro k i s' hi ⟨hs', hne⟩
      subst hs'
      have t1 : thr y K n i < 2 ^ 31 := Nat.lt_of_le_of_lt (thr_le hw (by omega) i) (by decide)
      have ex : hX11_sure_21 (nI n) K (k + 1) (nI (rwT y K)) (nI i) s = if thr y K n i = rwT y K then some (nI i, s) else hX11_sure_21 (nI n) K k (nI (rwT y K)) (nI (i + 1)) s := by
        show fX11_sure_21 (nI n) K (hX11_sure_21 (nI n) K k) _ _ s = _
        unfold fX11_sure_21
        rw [eF (hs.wf hw), hs.nF, if_neg (nle hi (by omega)), if_neg (fun q => by have := (nI_le' (b := 0) tb (by decide)).mp q; omega), Ythrough hw hc hn hi, bd]
        dsimp only
        rw [nI_s]
        by_cases q : thr y K n i = rwT y K
        · rw [if_pos q, if_pos (by rw [q])]
        · rw [if_neg q, if_neg (fun w => q ((nI_inj t1 tb).mp w))]
      by_cases q : thr y K n i = rwT y K
      · left
        refine (ex.trans (if_pos q)).trans ?_
        have hni : thr y K n i ≠ 0 := by rw [q]; exact z0
        cases hq : onl y K n 8 with
        | none =>
          rw [hq] at sp
          obtain ⟨f, g, h1, h2, h3, h4⟩ := sp
          exfalso
          -- a third one, or one of the two
          have hfg := sM_two (v := thr y K n) h1 h2
          rw [hT] at hfg
          by_cases zf : f = i
          · rw [zf] at hfg; omega
          · rcases Nat.lt_or_ge f i with w | w
            · have := sM_two (v := thr y K n) w (show i < 8 by omega)
              rw [hT] at this; omega
            · have := sM_two (v := thr y K n) (show i < f by omega) (show f < 8 by omega)
              rw [hT] at this; omega
        | some v =>
          rw [hq] at sp
          cases v with
          | none => exact absurd (sp i (by omega)) hni
          | some g =>
            have : i = g := Classical.byContradiction fun w => hni (sp.2.2 i (by omega) w)
            rw [this]; rfl
      · right
        refine ⟨_, ex.trans (if_neg q), rfl, fun f hf => ?_⟩
        by_cases zf : f = i
        · rw [zf]; exact q
        · exact hne f (by omega)
    · intro k s' ⟨hs', hne⟩
      subst hs'
      show fX11_sure_21 (nI n) K _ _ _ s = _
      unfold fX11_sure_21
      rw [eF (hs.wf hw), hs.nF, if_pos (yle _), e54]
      cases hq : onl y K n 8 with
      | none => rfl
      | some v =>
        rw [hq] at sp
        cases v with
        | none =>
          exfalso
          exact z0 (by rw [← hT]; exact sM_0 fun i hi _ => sp i hi)
        | some g =>
          exfalso
          obtain ⟨g1, g2, g3⟩ := sp
          have hgF := thr_F hw g2
          refine hne g hgF ?_
          rw [← hT]
          have := sM_one (v := thr y K n) (show g < 8 from g1)
          rw [← this]
          apply sM_eq
          intro i hi
          by_cases w : g = i
          · simp [w]
          · rw [g3 i hi (fun q => w q.symm)]; simp
theorem s_sure (a1 K : Int32) : sOK Inv (fX10_sure a1 K) (fX11_sure a1 K) := by
  intro x y h
  have hw := h.wf
  unfold fX10_sure fX11_sure
  rw [isIn_c, bd]
  dsimp only
  by_cases h1 : a1 < 0
  · unfold fX2_hasNumber
    rw [if_pos h1, bd, if_neg (show ¬ (¬ a1 < 0 ∧ ¬ 6 < a1) from fun q => q.1 h1)]
    exact ⟨_, _, _, rfl, rfl, h⟩
  · by_cases h2 : 6 < a1
    · unfold fX2_hasNumber
      rw [if_neg h1, if_pos h2, bd, if_neg (show ¬ (¬ a1 < 0 ∧ ¬ 6 < a1) from fun q => q.2 h2)]
      exact ⟨_, _, _, rfl, rfl, h⟩
    · have hN := rng (u := 6) (by decide) h1 h2
      obtain ⟨n, hn, rfl⟩ : ∃ n, n < 7 ∧ a1 = nI n := ⟨_, hN.2, hN.1⟩
      obtain ⟨x', p1, p2, p3⟩ := Xcount h K
      obtain ⟨y', q1, q2, q3⟩ := YlayRows h K
      have tb : rwT y K < 2 ^ 31 := Nat.lt_of_le_of_lt (rwT_le hw) (by decide)
      rw [XhasN hn, bd]
      dsimp only
      rw [if_neg one0, gc_p h.told8, p1, bd, if_pos (show (¬ nI n < 0 ∧ ¬ 6 < nI n) from ⟨h1, h2⟩), if_neg one0, q1, bd]
      dsimp only
      rw [Ysure h q2 q3 hn, ite0 tb, Xonly hw p3 hn, bd]
      by_cases z : rwT y K = 0
      · rw [if_pos z, if_pos z]
        exact ⟨_, _, _, rfl, rfl, Inv_fr h p2 q2⟩
      · rw [if_neg z, if_neg z]
        exact ⟨_, _, _, rfl, rfl, Inv_fr h p2 q2⟩
/-- the most of the first ones -/
def mxT (y : gS) (K : Int32) (n : Nat) : Nat → Nat
  | 0 => 0
  | f + 1 => if mxT y K n f < thr y K n f then thr y K n f else mxT y K n f
theorem mxT_le {y : gS} (hw : WFy y) {K : Int32} {n : Nat} (hn : n ≤ 6) (i : Nat) : mxT y K n i ≤ 16 ^ 6 := by
  induction i with
  | zero => exact Nat.zero_le _
  | succ i ih => rw [mxT]; split; exact thr_le hw hn i; exact ih
theorem mxT_F {y : gS} (hw : WFy y) (K : Int32) (n : Nat) {i : Nat} (hi : nF y ≤ i) : mxT y K n i = mxT y K n (nF y) := by
  induction i with
  | zero => rw [show nF y = 0 by omega]
  | succ i ih =>
    by_cases e : nF y = i + 1
    · rw [e]
    · have h0 : thr y K n i = 0 := Classical.byContradiction fun z => by have := thr_F hw z; omega
      rw [mxT, h0, if_neg (by omega)]
      exact ih (by omega)
theorem XmostLeft {x y : gS} (hw : WFy y) {K : Int32} (hc : ∀ n f, n < 7 → f < 8 → x.1 (178 + 1 + n) f = nI (cme y K n f) ∧ x.1 (186 + 1 + n) f = nI (goD y K (6 - n) f)) {n : Nat} (hn : n < 7) : fX2_mostLeft (nI n) x = some (nI (mxT y K n (nF y)), x) := by
  have hF := nF9 hw
  unfold fX2_mostLeft
  obtain ⟨s, _, e, hp⟩ := lp (fun k (s : Int32 × Int32 × gS) => hX2_mostLeft_4 (nI n) k s.1 s.2.1 s.2.2) 8 (fun i s => s = (nI (mxT y K n i), nI i, x)) (by
    intro k i s hi hs
    subst hs
    refine ⟨_, ?_, rfl⟩
    show fX2_mostLeft_4 (nI n) (hX2_mostLeft_4 (nI n) k) _ (nI i) x = _
    unfold fX2_mostLeft_4
    have t1 := thr_le (K := K) hw (show n ≤ 6 by omega) i
    have t2 := mxT_le (K := K) hw (show n ≤ 6 by omega) i
    rw [if_neg (show ¬ 8 ≤ nI i from nI_ge (b := 8) (by omega) (by omega)), XhasN hn, bd]
    dsimp only
    rw [if_neg one0, Xthrough hc hn hi, bd]
    unfold gl
    dsimp only
    rw [nI_s, mxT]
    by_cases z : mxT y K n i < thr y K n i
    · rw [if_pos ((nI_lt' (by omega) (by omega)).mpr z), if_pos z]
    · rw [if_neg (fun q => z ((nI_lt' (by omega) (by omega)).mp q)), if_neg z]) 0 (0, 0, x) FU (by omega) rfl (FU_gt (by omega))
  subst hp
  refine e.trans ?_
  show fX2_mostLeft_4 _ _ _ (nI 8) x = _
  unfold fX2_mostLeft_4
  rw [if_pos (show (8 : Int32) ≤ nI 8 by decide), mxT_F hw K n (by omega)]
theorem YmostAt {y s : gS} (hw : WFy y) (hs : FY y s) {K : Int32} (hc : ∀ n f, n ≤ 6 → f < nF y → s.1 43 (8 * n + f) = nI (cme y K n f) ∧ s.1 44 (8 * n + f) = nI (onD y K (6 - n) f)) {n : Nat} (hn : n < 7) : fX11_mostAt (nI n) s = some (nI (mxT y K n (nF y)), s) := by
  have hF := nF9 hw
  unfold fX11_mostAt
  obtain ⟨s', _, e, hp⟩ := lp (fun k (s : Int32 × Int32 × gS) => hX11_mostAt_4 (nI n) k s.1 s.2.1 s.2.2) (nF y) (fun i s' => s' = (nI (mxT y K n i), nI i, s)) (by
    intro k i s' hi hs'
    subst hs'
    refine ⟨_, ?_, rfl⟩
    show fX11_mostAt_4 (nI n) (hX11_mostAt_4 (nI n) k) _ (nI i) s = _
    unfold fX11_mostAt_4
    have t1 := thr_le (K := K) hw (show n ≤ 6 by omega) i
    have t2 := mxT_le (K := K) hw (show n ≤ 6 by omega) i
    rw [eF (hs.wf hw), hs.nF, if_neg (nle hi (by omega)), Ythrough hw hc hn hi, bd]
    dsimp only
    rw [Ythrough hw hc hn hi, bd]
    dsimp only
    rw [nI_s, mxT]
    by_cases z : mxT y K n i < thr y K n i
    · rw [if_neg (fun q => by have := (nI_le' (by omega) (by omega)).mp q; omega), if_pos z]
    · rw [if_pos ((nI_le' (by omega) (by omega)).mpr (by omega)), if_neg z]) 0 (0, 0, s) FU (by omega) rfl (FU_gt (by omega))
  subst hp
  refine e.trans ?_
  show fX11_mostAt_4 _ _ _ _ s = _
  unfold fX11_mostAt_4
  rw [eF (hs.wf hw), hs.nF, if_pos (yle _)]
def bst (y : gS) (K : Int32) : Nat → Nat
  | 0 => 0
  | n + 1 => if mxT y K (n + 1) (nF y) < mxT y K (bst y K n) (nF y) then n + 1 else bst y K n
theorem bst_le (y : gS) (K : Int32) (n : Nat) : bst y K n ≤ n := by
  induction n with
  | zero => exact Nat.le_refl _
  | succ n ih => rw [bst]; split <;> omega
theorem s_ask (a1 K : Int32) : sOK Inv (fX10_ask a1 K) (fX11_ask a1 K) := by
  intro x y h
  have hw := h.wf
  unfold fX10_ask fX11_ask
  obtain ⟨x', p1, p2, p3⟩ := Xcount h K
  obtain ⟨y', q1, q2, q3⟩ := YlayRows h K
  have hI := Inv_fr h p2 q2
  have tb : rwT y K < 2 ^ 31 := Nat.lt_of_le_of_lt (rwT_le hw) (by decide)
  rw [q1, bd]
  dsimp only
  rw [isIn_c, bd]
  dsimp only
  by_cases h1 : a1 < 0
  · rw [if_pos h1, if_neg (show ¬ (¬ a1 < 0 ∧ ¬ 1 < a1) from fun q => q.1 h1), if_pos rfl]
    exact ⟨_, _, _, rfl, rfl, Inv_fr h (FX.rf x) q2⟩
  rw [if_neg h1]
  by_cases h2 : 1 < a1
  · rw [if_pos h2, if_neg (show ¬ (¬ a1 < 0 ∧ ¬ 1 < a1) from fun q => q.2 h2), if_pos rfl]
    exact ⟨_, _, _, rfl, rfl, Inv_fr h (FX.rf x) q2⟩
  rw [if_neg h2, if_pos (show (¬ a1 < 0 ∧ ¬ 1 < a1) from ⟨h1, h2⟩), if_neg one0, gc_p h.told8, p1, bd]
  dsimp only
  rw [ite0 tb, ite0 tb]
  by_cases z : rwT y K = 0
  · rw [if_pos z, if_pos z]
    exact ⟨_, _, _, rfl, rfl, hI⟩
  rw [if_neg z, if_neg z]
  have mb : ∀ n, n < 7 → mxT y K n (nF y) < 2 ^ 31 := fun n hn => Nat.lt_of_le_of_lt (mxT_le hw (by omega) _) (by decide)
  have hX : fX2_bestToKnow x' = some (nI (bst y K 6), x') := by
    unfold fX2_bestToKnow
    obtain ⟨s, _, e, hp⟩ := lp (fun k (s : Int32 × Int32 × gS) => hX2_bestToKnow_4 k s.1 s.2.1 s.2.2) 6 (fun i s => s = (nI (bst y K i), nI (i + 1), x')) (by
      intro k i s hi hs
      subst hs
      refine ⟨_, ?_, rfl⟩
      have b1 := bst_le y K i
      show fX2_bestToKnow_4 (hX2_bestToKnow_4 k) _ (nI (i + 1)) x' = _
      unfold fX2_bestToKnow_4
      rw [if_neg (show ¬ 6 < nI (i + 1) from fun q => by have := (nI_lt' (a := 6) (by decide) (by omega)).mp q; omega), XmostLeft hw p3 (by omega), bd]
      dsimp only
      rw [XmostLeft hw p3 (by omega), bd]
      dsimp only
      rw [nI_s, bst]
      by_cases q : mxT y K (i + 1) (nF y) < mxT y K (bst y K i) (nF y)
      · rw [if_neg (fun w => by have := (nI_le' (mb _ (by omega)) (mb _ (by omega))).mp w; omega), if_pos q]
      · rw [if_pos ((nI_le' (mb _ (by omega)) (mb _ (by omega))).mpr (by omega)), if_neg q]) 0 (0, 1, x') FU (by omega) rfl (FU_gt (by omega))
    subst hp
    refine e.trans ?_
    show fX2_bestToKnow_4 _ _ (nI 7) x' = _
    unfold fX2_bestToKnow_4
    rw [if_pos (show (6 : Int32) < nI 7 by decide)]
  have hY : hX11_ask_27 a1 K FU 0 1 y' = if a1 = 0 then some (nI (bst y K 6), y') else some (nI (mxT y K (bst y K 6) (nF y)), y') := by
    obtain ⟨s, _, e, hp⟩ := lp (fun k (s : Int32 × Int32 × gS) => hX11_ask_27 a1 K k s.1 s.2.1 s.2.2) 6 (fun i s => s = (nI (bst y K i), nI (i + 1), y')) (by
      intro k i s hi hs
      subst hs
      refine ⟨_, ?_, rfl⟩
      have b1 := bst_le y K i
      show fX11_ask_27 a1 K (hX11_ask_27 a1 K k) _ (nI (i + 1)) y' = _
      unfold fX11_ask_27
      rw [if_neg (show ¬ 6 < nI (i + 1) from fun q => by have := (nI_lt' (a := 6) (by decide) (by omega)).mp q; omega), YmostAt hw q2 q3 (by omega), bd]
      dsimp only
      rw [YmostAt hw q2 q3 (by omega), bd]
      dsimp only
      rw [nI_s, bst]
      by_cases q : mxT y K (i + 1) (nF y) < mxT y K (bst y K i) (nF y)
      · rw [if_neg (fun w => by have := (nI_le' (mb _ (by omega)) (mb _ (by omega))).mp w; omega), if_pos q]
      · rw [if_pos ((nI_le' (mb _ (by omega)) (mb _ (by omega))).mpr (by omega)), if_neg q]) 0 (0, 1, y') FU (by omega) rfl (FU_gt (by omega))
    subst hp
    refine e.trans ?_
    have b1 := bst_le y K 6
    show fX11_ask_27 a1 K _ _ (nI 7) y' = _
    unfold fX11_ask_27
    rw [if_pos (show (6 : Int32) < nI 7 by decide), YmostAt hw q2 q3 (by omega), bd]
  have b1 := bst_le y K 6
  rw [hX, bd, hY]
  dsimp only
  rw [XmostLeft hw p3 (by omega), bd]
  exact sp_if (fun _ => ⟨_, _, _, rfl, rfl, hI⟩) (fun _ => ⟨_, _, _, rfl, rfl, hI⟩)
