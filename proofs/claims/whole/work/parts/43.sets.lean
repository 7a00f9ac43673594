/-! ===== sets of figures ===== -/
theorem ite0 {α : Type} {n : Nat} {A B : α} (h : n < 2 ^ 31) : (if nI n = 0 then A else B) = if n = 0 then A else B := by
  by_cases q : n = 0
  · rw [if_pos q, if_pos ((nI_eq0 h).mpr q)]
  · rw [if_neg q, if_neg (fun z => q ((nI_eq0 h).mp z))]
def oS (p : Nat → Bool) (e : Nat → Nat) : Nat → Nat
  | 0 => 0
  | n + 1 => oS p e n ||| (if p n then 2 ^ e n else 0)
theorem oS_lt {p : Nat → Bool} {e : Nat → Nat} {n b : Nat} (h : ∀ i, i < n → e i < b) : oS p e n < 2 ^ b := by
  induction n with
  | zero => exact Nat.two_pow_pos b
  | succ n ih =>
    rw [oS]
    apply Nat.or_lt_two_pow (ih fun i hi => h i (by omega))
    cases p n
    · rw [if_neg (by decide)]; exact Nat.two_pow_pos b
    · rw [if_pos rfl]; exact Nat.pow_lt_pow_right (by decide) (h n (by omega))
theorem oS_eq {p q : Nat → Bool} {e : Nat → Nat} {n : Nat} (h : ∀ i, i < n → p i = q i) : oS p e n = oS q e n := by
  induction n with
  | zero => rfl
  | succ n ih => rw [oS, oS, ih (fun i hi => h i (by omega)), h n (by omega)]
theorem or_0 {a b : Nat} : a ||| b = 0 ↔ a = 0 ∧ b = 0 := by
  constructor
  · intro h
    have h1 : a ≤ a ||| b := Nat.left_le_or
    have h2 : b ≤ a ||| b := Nat.right_le_or
    omega
  · intro h; rw [h.1, h.2]; rfl
theorem oS_0 {p : Nat → Bool} {e : Nat → Nat} {n : Nat} : oS p e n = 0 ↔ ∀ i, i < n → p i = false := by
  induction n with
  | zero => exact ⟨fun _ i hi => absurd hi (by omega), fun _ => rfl⟩
  | succ n ih =>
    rw [oS, or_0, ih]
    constructor
    · intro h i hi
      by_cases e2 : i = n
      · subst e2
        cases hp : p i
        · rfl
        · have := h.2
          rw [if_pos hp] at this
          have := Nat.two_pow_pos (e i)
          omega
      · exact h.1 i (by omega)
    · intro h
      exact ⟨fun i hi => h i (by omega), by rw [if_neg (by rw [h n (by omega)]; decide)]⟩
theorem bS_o (p : Nat → Bool) (n : Nat) : bS p n = oS p id n := by
  induction n with
  | zero => rfl
  | succ n ih => rw [bS, oS, ih]; rfl
theorem bS_0 {p : Nat → Bool} {n : Nat} : bS p n = 0 ↔ ∀ i, i < n → p i = false := by
  rw [bS_o]; exact oS_0
/-- somebody can do the move m -/
def anc (y : gS) (m : Nat) : Bool := bS (fun k => cnb y k m) (nT y) != 0
/-- the figures behind those of S, by anybody -/
def onF (y : gS) (S : Nat) : Nat := oS (fun m => S.testBit (fr y m) && anc y m) (tO y) (nM y)
section LK
variable {x y : gS} {t : Nat}
theorem fr_lt (h : WFy y) {m : Nat} (hm : m < nM y) : fr y m < nF y := (h.2.1 m hm).1.2
theorem tO_lt (h : WFy y) {m : Nat} (hm : m < nM y) : tO y m < nF y := (h.2.1 m hm).2.1.2
theorem fr_e (h : WFy y) {m : Nat} (hm : m < nM y) : y.1 21 m = nI (fr y m) := (h.2.1 m hm).1.1
theorem tO_e (h : WFy y) {m : Nat} (hm : m < nM y) : y.1 22 m = nI (tO y m) := (h.2.1 m hm).2.1.1
theorem xfr_e (h : WFy y) (hx : XT x t y) {m : Nat} (hm : m < nM y) : x.1 (t + 1 + 6) m = nI (fr y m) := (hx.2.2.1 m hm).1.trans (fr_e h hm)
theorem xtO_e (h : WFy y) (hx : XT x t y) {m : Nat} (hm : m < nM y) : x.1 (t + 1 + 7) m = nI (tO y m) := (hx.2.2.1 m hm).2.1.trans (tO_e h hm)
theorem onF_lt (h : WFy y) (S : Nat) : onF y S < 2 ^ 8 := oS_lt fun m hm => by have := tO_lt h hm; have := nF9 h; omega
theorem XableAny (h : WFy y) (hx : XT x t y) : fX8_ableAny t x = some (nI (bS (anc y) (nM y)), x) := by
  unfold fX8_ableAny
  have hT := nT6 h
  obtain ⟨s, _, e, hp⟩ := lp (fun n (s : Int32 × Int32 × gS) => hX8_ableAny_4 t n s.1 s.2.1 s.2.2) (nT y) (fun i s => s = (nI (bS (fun m => bS (fun k => cnb y k m) i != 0) (nM y)), nI i, x)) (by
    intro n i s hi hs
    subst hs
    refine ⟨_, ?_, rfl⟩
    show fX8_ableAny_4 t (hX8_ableAny_4 t n) _ (nI i) x = _
    unfold fX8_ableAny_4
    rw [xT h hx, if_neg (nle hi (by omega)), gc_p (gI_nI (by omega) (by decide)), nI_clamp (by omega), Xable h hx hi, nI_s, b_or]
    unfold gl
    have : bS (fun m => bS (fun k => cnb y k m) i != 0) (nM y) ||| bS (cnb y i) (nM y) = bS (fun m => bS (fun k => cnb y k m) (i + 1) != 0) (nM y) := by
      apply bS_of
      intro m
      rw [Nat.testBit_or, bS_t, bS_t]
      have : ((bS (fun k => cnb y k m) i != 0) || cnb y i m) = (bS (fun k => cnb y k m) (i + 1) != 0) := by
        cases hc : cnb y i m
        · rw [Bool.or_false]
          show _ = (bS (fun k => cnb y k m) i ||| (if cnb y i m then 2 ^ i else 0) != 0)
          rw [hc, if_neg (by decide), Nat.or_zero]
        · rw [Bool.or_true]
          show _ = (bS (fun k => cnb y k m) i ||| (if cnb y i m then 2 ^ i else 0) != 0)
          rw [hc, if_pos rfl]
          have h1 : 2 ^ i ≤ bS (fun k => cnb y k m) i ||| 2 ^ i := Nat.right_le_or
          have h2 := Nat.two_pow_pos i
          simp only [bne_iff_ne, ne_eq, true_eq_decide_iff, eq_comm (a := true)]
          omega
      rw [← this]
      cases decide (m < nM y) <;> simp
    rw [this]) 0 (0, 0, x) FU (by omega) (by
      have : bS (fun m => bS (fun k => cnb y k m) 0 != 0) (nM y) = 0 := bS_0.mpr fun i _ => rfl
      rw [this]; rfl) (FU_gt (by omega))
  subst hp
  refine e.trans ?_
  show fX8_ableAny_4 t _ _ _ x = _
  unfold fX8_ableAny_4
  rw [xT h hx, if_pos (yle _)]
  rfl
theorem Xbehind (h : WFy y) (hx : XT x t y) {S V : Nat} (hS : S < 2 ^ 31) (hV : V < 2 ^ 31) : fX8_behind t (nI S) (nI V) x = some (nI (oS (fun m => V.testBit m && S.testBit (fr y m)) (tO y) (nM y)), x) := by
  unfold fX8_behind
  have hM := nM17 h
  have hF := nF9 h
  obtain ⟨s, _, e, hp⟩ := lp (fun n (s : Int32 × Int32 × gS) => hX8_behind_5 t (nI S) (nI V) n s.1 s.2.1 s.2.2) (nM y) (fun i s => s = (nI (oS (fun m => V.testBit m && S.testBit (fr y m)) (tO y) i), nI i, x)) (by
    intro n i s hi hs
    subst hs
    refine ⟨_, ?_, rfl⟩
    show fX8_behind_5 t _ _ (hX8_behind_5 t _ _ n) _ (nI i) x = _
    have h1 := fr_lt h hi
    have h2 := tO_lt h hi
    unfold fX8_behind_5
    rw [xM h hx, if_neg (nle hi (by omega)), b_bit hV (by omega), gc_p (gI_nI (by omega) (by decide)), gc_p (gI_nI (by omega) (by decide)), nI_clamp (by omega), xfr_e h hx hi, xtO_e h hx hi, b_bit hS (by omega), nI_s, b_1 (by omega)]
    unfold gl
    rw [oS]
    cases hc : V.testBit i
    · rw [if_pos zero0']
      rw [if_neg (by simp), Nat.or_zero]
    · rw [if_neg one0']
      cases hd : S.testBit (fr y i)
      · rw [if_pos zero0', if_neg (by simp), Nat.or_zero]
      · rw [if_neg one0', if_pos (by simp), b_or]) 0 (0, 0, x) FU (by omega) rfl (FU_gt (by omega))
  subst hp
  refine e.trans ?_
  show fX8_behind_5 t _ _ _ _ _ x = _
  unfold fX8_behind_5
  rw [xM h hx, if_pos (yle _)]
/-- by anybody -/
theorem Xon (h : WFy y) (hx : XT x t y) {S : Nat} (hS : S < 2 ^ 31) : fX8_behind t (nI S) (nI (bS (anc y) (nM y))) x = some (nI (onF y S), x) := by
  have hM := nM17 h
  rw [Xbehind h hx hS (Nat.lt_of_lt_of_le (bS_lt _ _) (Nat.pow_le_pow_right (by decide) (by omega)))]
  unfold onF
  rw [oS_eq]
  intro i hi
  rw [bS_t]
  simp [hi, Bool.and_comm]
theorem Yon (h : WFy y) {S : Nat} (hS : S < 2 ^ 31) : fX11_onFrom (nI S) y = some (nI (onF y S), y) := by
  unfold fX11_onFrom
  have hM := nM17 h
  have hT := nT6 h
  have hF := nF9 h
  obtain ⟨s, _, e, hp⟩ := lp (fun n (s : Int32 × Int32 × gS) => hX11_onFrom_4 (nI S) n s.1 s.2.1 s.2.2) (nM y) (fun i s => s = (nI (oS (fun m => S.testBit (fr y m) && anc y m) (tO y) i), nI i, y)) (by
    intro n i s hi hs
    subst hs
    refine ⟨_, ?_, rfl⟩
    show fX11_onFrom_4 _ (hX11_onFrom_4 _ n) _ (nI i) y = _
    have h1 := fr_lt h hi
    have h2 := tO_lt h hi
    unfold fX11_onFrom_4
    rw [eM h, if_neg (nle hi (by omega)), gc_p (gI_nI (by omega) (by decide)), nI_clamp (by omega), fr_e h hi, b_bit hS (by omega), nI_s, YwhoCan h hi, bd]
    dsimp only
    rw [gc_p (gI_nI (by omega) (by decide)), tO_e h hi, b_1 (by omega)]
    unfold gl
    rw [oS]
    cases hd : S.testBit (fr y i)
    · rw [if_neg (by decide), if_neg (by simp), Nat.or_zero]
    · rw [if_pos (show b2 true = 1 from rfl)]
      by_cases h0 : bS (fun k => cnb y k i) (nT y) = 0
      · rw [h0, if_pos nI0, if_neg (by simp [anc, h0]), Nat.or_zero]
      · rw [if_neg (fun q => h0 ((nI_eq0 (Nat.lt_of_lt_of_le (bS_lt _ _) (Nat.pow_le_pow_right (by decide) (by omega)))).mp q)), if_pos (by simp [anc, h0]), b_or]) 0 (0, 0, y) FU (by omega) rfl (FU_gt (by omega))
  subst hp
  refine e.trans ?_
  show fX11_onFrom_4 _ _ _ _ y = _
  unfold fX11_onFrom_4
  rw [eM h, if_pos (yle _)]
  rfl
end LK
/-! idle, ends, near, round -/
theorem bSl (p : Nat → Bool) {n : Nat} (h : n ≤ 31) : bS p n < 2 ^ 31 := Nat.lt_of_lt_of_le (bS_lt _ _) (Nat.pow_le_pow_right (by decide) h)
theorem bS_and0 {p q : Nat → Bool} {n : Nat} (hn : n ≤ 31) : nI (bS p n) &&& nI (bS q n) = 0 ↔ ∀ i, i < n → (p i && q i) = false := by
  rw [bS_and, nI_eq0 (bSl _ hn)]
  exact bS_0
theorem now_n2 {x y : gS} (h : Inv x y) : ¬ y.1 28 0 = -2 := by
  rcases h.now.1.1 with q | q
  · rw [q.2]; decide
  · intro z
    have := q.toInt (by have := nF9 h.wf; omega)
    rw [z] at this
    have z2 : (-2 : Int) = _ := this
    omega
theorem s_idle : sOK Inv fX10_idle fX11_idle := by
  intro x y h
  have hT := nT6 h.wf
  have hM := nM17 h.wf
  have hw := h.wf
  have hx := h.xt
  obtain ⟨r0, r1, -⟩ := h.now.2
  -- whether k is idle
  let P : Nat → Bool := fun k => decide (¬ nI k = y.1 28 1) && (bS (fun m => cnb y k m && decide (y.1 21 m = y.1 28 0)) (nM y) == 0)
  have hX : fX10_idle x = some (nI (bS P (nT y)), x) := by
    unfold fX10_idle
    rw [gc_p h.told8, XmovesFrom hw hx, bd]
    dsimp only
    obtain ⟨s, _, e, hp⟩ := lp (fun n (s : Int32 × Int32 × gS) => hX10_idle_19 n (nI (bS (fun m => decide (y.1 21 m = x.1 20 2)) (nM y))) s.1 s.2.1 s.2.2) (nT y) (fun i s => s = (nI (bS P i), nI i, x)) (by
      intro n i s hi hs
      subst hs
      refine ⟨_, ?_, rfl⟩
      show fX10_idle_19 (hX10_idle_19 n) _ _ (nI i) x = _
      unfold fX10_idle_19
      rw [gc_p h.told8, gc_p h.told8, xT hw hx, if_neg (nle hi (by omega)), r1, gc_p (gI_nI (by omega) (by decide)), nI_clamp (by omega), Xable hw hx hi, nI_s, r0]
      unfold gl
      by_cases q : nI i = y.1 28 1
      · rw [if_pos q, ← bS_s0 (p := P) (n := i) (by simp [P, q])]
      · rw [if_neg q, bS_and, ite0 (bSl _ (by omega))]
        by_cases q2 : bS (fun m => cnb y i m && decide (y.1 21 m = y.1 28 0)) (nM y) = 0
        · rw [if_pos q2, bS_s1 (p := P) (by simp [P, q, q2]) (by omega)]
        · rw [if_neg q2, ← bS_s0 (p := P) (n := i) (by simp [P, q2])]) 0 (0, 0, x) FU (by omega) rfl (FU_gt (by omega))
    subst hp
    refine e.trans ?_
    show fX10_idle_19 _ _ _ _ x = _
    unfold fX10_idle_19
    rw [gc_p h.told8, xT hw hx, if_pos (yle _)]
  have hY : fX11_idle y = some (nI (bS P (nT y)), y) := by
    unfold fX11_idle
    obtain ⟨s, _, e, hp⟩ := lp (fun n (s : Int32 × Int32 × gS) => hX11_idle_4 n s.1 s.2.1 s.2.2) (nT y) (fun i s => s = (nI (bS P i), nI i, y)) (by
      intro n i s hi hs
      subst hs
      refine ⟨_, ?_, rfl⟩
      show fX11_idle_4 (hX11_idle_4 n) _ (nI i) y = _
      unfold fX11_idle_4 fX11_idle_41 fX11_idle_42
      rw [eT hw, if_neg (nle hi (by omega)), gc_p (by decide), gc_p (by decide), YmovesOf hw hi, bd]
      dsimp only
      rw [Yt0, Yt1, bd, bd, nI_s, ← bS_s2 (p := P) (n := i) (by omega)]
      unfold gl
      dsimp only
      rw [show (1 : Int32).toNatClampNeg = 1 from rfl, show (0 : Int32).toNatClampNeg = 0 from rfl]
      have e0 : bS (fun m => cnb y i m && (decide (y.1 28 0 = -2) || decide (y.1 21 m = y.1 28 0))) (nM y) = bS (fun m => cnb y i m && decide (y.1 21 m = y.1 28 0)) (nM y) := bS_eq fun m _ => by simp [now_n2 h]
      rw [e0]
      by_cases q : nI i = y.1 28 1
      · rw [if_pos q, show P i = false by simp [P, q]]; rfl
      · rw [if_neg q, ite0 (bSl _ (by omega))]
        by_cases q2 : bS (fun m => cnb y i m && decide (y.1 21 m = y.1 28 0)) (nM y) = 0
        · rw [if_pos q2, show P i = true by simp [P, q, q2]]; rfl
        · rw [if_neg q2, show P i = false by simp [P, q2]]; rfl) 0 (0, 0, y) FU (by omega) rfl (FU_gt (by omega))
    subst hp
    refine e.trans ?_
    show fX11_idle_4 _ _ _ y = _
    unfold fX11_idle_4
    rw [eT hw, if_pos (yle _)]
  exact ⟨_, _, _, hX, hY, h⟩
theorem s_ends : sOK Inv fX10_ends fX11_ends := by
  intro x y h
  have hF := nF9 h.wf
  have hM := nM17 h.wf
  have hw := h.wf
  have hx := h.xt
  let P : Nat → Bool := fun f => onF y (2 ^ f) == 0
  have hPf : ∀ f, f < nF y → ((nI (bS (anc y) (nM y)) &&& nI (bS (fun m => decide (y.1 21 m = nI f)) (nM y)) = 0) ↔ P f = true) := fun f hf => by
    rw [bS_and0 (by omega)]
    show _ ↔ (onF y (2 ^ f) == 0) = true
    rw [beq_iff_eq, onF, oS_0]
    have : ∀ i, i < nM y → (anc y i && decide (y.1 21 i = nI f)) = ((2 ^ f).testBit (fr y i) && anc y i) := fun i hi => by
      have := fr_lt hw hi
      rw [Nat.testBit_two_pow, fr_e hw hi, Bool.and_comm]
      congr 1
      rw [decide_eq_decide, nI_inj (by omega) (by omega)]
      exact eq_comm
    exact ⟨fun q i hi => by rw [← this i hi]; exact q i hi, fun q i hi => by rw [this i hi]; exact q i hi⟩
  have hX : fX10_ends x = some (nI (bS P (nF y)), x) := by
    unfold fX10_ends
    rw [gc_p h.told8, XableAny hw hx, bd]
    dsimp only
    obtain ⟨s, _, e, hp⟩ := lp (fun n (s : Int32 × Int32 × gS) => hX10_ends_12 n (nI (bS (anc y) (nM y))) s.1 s.2.1 s.2.2) (nF y) (fun i s => s = (nI (bS P i), nI i, x)) (by
      intro n i s hi hs
      subst hs
      refine ⟨_, ?_, rfl⟩
      show fX10_ends_12 (hX10_ends_12 n) _ _ (nI i) x = _
      unfold fX10_ends_12
      rw [gc_p h.told8, gc_p h.told8, xF hw hx, if_neg (nle hi (by omega)), XmovesFrom hw hx, bd]
      dsimp only
      rw [nI_s]
      unfold gl
      by_cases q : nI (bS (anc y) (nM y)) &&& nI (bS (fun m => decide (y.1 21 m = nI i)) (nM y)) = 0
      · rw [if_pos q, bS_s1 (p := P) ((hPf i hi).mp q) (by omega)]
      · rw [if_neg q, ← bS_s0 (p := P) (n := i) (Bool.eq_false_iff.mpr fun z => q ((hPf i hi).mpr z))]) 0 (0, 0, x) FU (by omega) rfl (FU_gt (by omega))
    subst hp
    refine e.trans ?_
    show fX10_ends_12 _ _ _ _ x = _
    unfold fX10_ends_12
    rw [gc_p h.told8, xF hw hx, if_pos (yle _)]
  have hY : fX11_ends y = some (nI (bS P (nF y)), y) := by
    unfold fX11_ends
    obtain ⟨s, _, e, hp⟩ := lp (fun n (s : Int32 × Int32 × gS) => hX11_ends_4 n s.1 s.2.1 s.2.2) (nF y) (fun i s => s = (nI (bS P i), nI i, y)) (by
      intro n i s hi hs
      subst hs
      refine ⟨_, ?_, rfl⟩
      show fX11_ends_4 (hX11_ends_4 n) _ (nI i) y = _
      have h2 : (2 : Nat) ^ i < 2 ^ 31 := Nat.pow_lt_pow_right (by decide) (by omega)
      unfold fX11_ends_4 fX11_ends_28
      rw [eF hw, if_neg (nle hi (by omega)), b_1 (by omega), Yon hw h2, bd]
      dsimp only
      rw [Yt0, Yt1, bd, bd, nI_s, ← bS_s2 (p := P) (n := i) (by omega)]
      unfold gl
      dsimp only
      rw [ite0 (Nat.lt_trans (onF_lt hw _) (by decide))]
      by_cases q : onF y (2 ^ i) = 0
      · rw [if_pos q, show P i = true by simp [P, q]]; rfl
      · rw [if_neg q, show P i = false by simp [P, q]]; rfl) 0 (0, 0, y) FU (by omega) rfl (FU_gt (by omega))
    subst hp
    refine e.trans ?_
    show fX11_ends_4 _ _ _ y = _
    unfold fX11_ends_4
    rw [eF hw, if_pos (yle _)]
  exact ⟨_, _, _, hX, hY, h⟩
/-- so many steps on -/
def onN (y : gS) (S : Nat) : Nat → Nat
  | 0 => S
  | n + 1 => onF y (onN y S n)
theorem onN_lt {y : gS} (h : WFy y) {S : Nat} (hS : S < 2 ^ 8) (n : Nat) : onN y S n < 2 ^ 8 := by
  cases n with
  | zero => exact hS
  | succ n => exact onF_lt h _
theorem l831 {v : Nat} (h : v < 2 ^ 8) : v < 2 ^ 31 := Nat.lt_trans h (by decide)
theorem s_near (a : Int32) : sOK Inv (fX10_near a) (fX11_near a) := by
  intro x y h
  have hF := nF9 h.wf
  have hw := h.wf
  have hx := h.xt
  unfold fX10_near fX11_near
  rw [isIn_c, bd]
  dsimp only
  have hi : 8 < a ↔ ¬ a ≤ 8 := by
    rw [Int32.lt_iff_toInt_lt, Int32.le_iff_toInt_le]; omega
  by_cases h1 : a < 0
  · rw [if_pos h1, if_neg (show ¬ (¬ a < 0 ∧ ¬ 8 < a) from fun q => q.1 h1)]
    exact ⟨_, _, _, rfl, rfl, h⟩
  · by_cases h2 : a ≤ 8
    · have h3 : ¬ 8 < a := fun z => hi.mp z h2
      rw [if_neg h1, if_pos h2, if_pos (show (¬ a < 0 ∧ ¬ 8 < a) from ⟨h1, h3⟩), if_neg one0, gc_p h.told8, XableAny hw hx, bd]
      dsimp only
      have hN := rng (u := 8) (by decide) h1 h3
      obtain ⟨n, hn, rfl⟩ : ∃ n, n < 9 ∧ a = nI n := ⟨_, hN.2, hN.1⟩
      obtain ⟨r0, -⟩ := h.now.2
      have key : ∀ S, S < 2 ^ 8 → ∃ r x' y', hX10_near_31 (nI n) FU (nI (bS (anc y) (nM y))) (nI S) 0 x = some (r, x') ∧ hX11_near_34 (nI n) FU (nI S) 0 y = some (r, y') ∧ Inv x' y' := by
        intro S hS
        obtain ⟨s, _, e, hp⟩ := lp (fun k (s : Int32 × Int32 × gS) => hX10_near_31 (nI n) k (nI (bS (anc y) (nM y))) s.1 s.2.1 s.2.2) n (fun i s => s = (nI (onN y S i), nI i, x)) (by
          intro k i s hi hs
          subst hs
          refine ⟨_, ?_, rfl⟩
          show fX10_near_31 _ (hX10_near_31 _ k) _ _ (nI i) x = _
          unfold fX10_near_31
          rw [if_neg (nle hi (by omega)), gc_p h.told8, Xon hw hx (l831 (onN_lt hw hS _)), bd, nI_s]
          rfl) 0 (nI S, 0, x) FU (by omega) rfl (FU_gt (by omega))
        obtain ⟨s2, _, e2, hp2⟩ := lp (fun k (s : Int32 × Int32 × gS) => hX11_near_34 (nI n) k s.1 s.2.1 s.2.2) n (fun i s => s = (nI (onN y S i), nI i, y)) (by
          intro k i s hi hs
          subst hs
          refine ⟨_, ?_, rfl⟩
          show fX11_near_34 _ (hX11_near_34 _ k) _ (nI i) y = _
          unfold fX11_near_34
          rw [if_neg (nle hi (by omega)), Yon hw (l831 (onN_lt hw hS _)), bd, nI_s]
          rfl) 0 (nI S, 0, y) FU (by omega) rfl (FU_gt (by omega))
        subst hp hp2
        refine ⟨nI (onN y S n), x, y, e.trans ?_, e2.trans ?_, h⟩
        · show fX10_near_31 _ _ _ _ _ x = _
          unfold fX10_near_31
          rw [if_pos (yle _)]
        · show fX11_near_34 _ _ _ _ y = _
          unfold fX11_near_34
          rw [if_pos (yle _)]
      unfold fX5_figureBit fX11_near_31
      rw [r0, gc_p (by decide), show (0 : Int32).toNatClampNeg = 0 from rfl]
      rcases h.now.1.1 with q | q
      · rw [q.2, if_pos (by decide), bd, if_pos (by rw [eF hw, q.1]; rfl)]
        exact key 0 (by decide)
      · have hl := q.2
        have e1 := q.1
        generalize hf : vN (y.1 28 0) = f at *
        rw [e1, if_neg (nI_nn (by omega)), bd, if_neg (by rw [eF hw, nI_eq0 (by omega)]; omega), b_1 (by omega)]
        exact key (2 ^ f) (Nat.pow_lt_pow_right (by decide) (by omega))
    · rw [if_neg h1, if_neg h2, if_neg (show ¬ (¬ a < 0 ∧ ¬ 8 < a) from fun q => q.2 (hi.mpr h2))]
      exact ⟨_, _, _, rfl, rfl, h⟩
theorem s_round (a : Int32) : sOK Inv (fX10_round a) (fX11_round a) := by
  intro x y h
  have hF := nF9 h.wf
  have hw := h.wf
  have hx := h.xt
  unfold fX10_round fX11_round
  rw [gc_p h.told8]
  rcases inR_dec a (y.1 0 48) with q | q
  · rw [(isFig h.wf a).1 q, (hasFig x _ a).1 (by rw [h.xt.1.1]; exact q), bd, bd]
    dsimp only
    obtain ⟨f, hf, rfl⟩ := inF h.wf q
    rw [if_neg one0, if_neg one0, gc_p h.told8, XableAny hw hx, bd]
    dsimp only
    unfold gl
    rw [b_1 (by omega)]
    have hS : 2 ^ f < 2 ^ 8 := Nat.pow_lt_pow_right (by decide) (by omega)
    have hB : ∀ i, (nI (onN y (2 ^ f) i) >>> (nI f &&& 31)) &&& 1 = b2 ((onN y (2 ^ f) i).testBit f) := fun i => b_bit (l831 (onN_lt hw hS _)) (by omega)
    have key : ∀ d i n m, i + d = 8 → d < n → d < m → ∃ r x' y', hX10_round_28 (nI f) n (nI (bS (anc y) (nM y))) (nI (onN y (2 ^ f) i)) (nI (i + 1)) x = some (r, x') ∧ hX11_round_16 (nI f) m (nI (onN y (2 ^ f) i)) (nI (i + 1)) y = some (r, y') ∧ Inv x' y' := by
      intro d
      induction d with
      | zero =>
        intro i n m e hn hm
        obtain ⟨n, rfl⟩ : ∃ k, n = k + 1 := ⟨n - 1, by omega⟩
        obtain ⟨m, rfl⟩ : ∃ k, m = k + 1 := ⟨m - 1, by omega⟩
        have e8 : i = 8 := by omega
        subst e8
        refine ⟨-1, x, y, ?_, ?_, h⟩
        · show fX10_round_28 _ _ _ _ _ x = _
          unfold fX10_round_28
          rw [if_pos (by decide)]
        · show fX11_round_16 _ _ _ _ y = _
          unfold fX11_round_16
          rw [if_pos (by decide)]
      | succ d ih =>
        intro i n m e hn hm
        obtain ⟨n, rfl⟩ : ∃ k, n = k + 1 := ⟨n - 1, by omega⟩
        obtain ⟨m, rfl⟩ : ∃ k, m = k + 1 := ⟨m - 1, by omega⟩
        have n8 : ¬ 8 < nI (i + 1) := fun z => by have := (nI_lt' (a := 8) (by decide) (by omega)).mp z; omega
        have ex : hX10_round_28 (nI f) (n + 1) (nI (bS (anc y) (nM y))) (nI (onN y (2 ^ f) i)) (nI (i + 1)) x = if (onN y (2 ^ f) (i + 1)).testBit f then some (nI (i + 1), x) else hX10_round_28 (nI f) n (nI (bS (anc y) (nM y))) (nI (onN y (2 ^ f) (i + 1))) (nI (i + 2)) x := by
          show fX10_round_28 _ _ _ _ _ x = _
          unfold fX10_round_28
          rw [if_neg n8, gc_p h.told8, Xon hw hx (l831 (onN_lt hw hS _)), bd]
          dsimp only
          have := hB (i + 1)
          rw [onN] at this
          rw [this, nI_s]
          show _ = if (onF y (onN y (2 ^ f) i)).testBit f then _ else _
          cases hc : (onF y (onN y (2 ^ f) i)).testBit f
          · rw [if_pos zero0', if_neg (by decide)]; rfl
          · rw [if_neg one0', if_pos rfl]
        have ey : hX11_round_16 (nI f) (m + 1) (nI (onN y (2 ^ f) i)) (nI (i + 1)) y = if (onN y (2 ^ f) (i + 1)).testBit f then some (nI (i + 1), y) else hX11_round_16 (nI f) m (nI (onN y (2 ^ f) (i + 1))) (nI (i + 2)) y := by
          show fX11_round_16 _ _ _ _ y = _
          unfold fX11_round_16
          rw [if_neg n8, Yon hw (l831 (onN_lt hw hS _)), bd]
          dsimp only
          have := hB (i + 1)
          rw [onN] at this
          rw [this, nI_s]
          show _ = if (onF y (onN y (2 ^ f) i)).testBit f then _ else _
          cases hc : (onF y (onN y (2 ^ f) i)).testBit f
          · rw [if_neg (by decide), if_neg (by decide)]; rfl
          · rw [if_pos (show b2 true = 1 from rfl), if_pos rfl]
        rw [ex, ey]
        cases (onN y (2 ^ f) (i + 1)).testBit f
        · exact ih (i + 1) n m (by omega) (by omega) (by omega)
        · exact ⟨_, _, _, rfl, rfl, h⟩
    exact key 8 0 FU FU rfl (FU_gt (by decide)) (FU_gt (by decide))
  · rw [(isFig h.wf a).2 q, (hasFig x _ a).2 (by rw [h.xt.1.1]; exact q), bd, bd]
    exact ⟨_, _, _, rfl, rfl, h⟩
