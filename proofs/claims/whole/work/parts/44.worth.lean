/-! ===== fair, good, sources ===== -/
def lW (w : Nat → Nat) : Nat → Nat
  | 0 => 99
  | n + 1 => if lW w n ≤ w n then lW w n else w n
def aW (w : Nat → Nat) : Nat → Nat
  | 0 => 0
  | n + 1 => aW w n + w n
theorem lW_lt {w : Nat → Nat} {n : Nat} : lW w n < 100 := by
  induction n with
  | zero => exact (by decide : 99 < 100)
  | succ n ih => rw [lW]; split <;> omega
theorem aW_lt {w : Nat → Nat} {n : Nat} (h : ∀ i, i < n → w i < 100) : aW w n ≤ 99 * n := by
  induction n with
  | zero => exact Nat.le_refl _
  | succ n ih =>
    have := ih fun i hi => h i (by omega)
    have := h n (by omega)
    rw [aW]; omega
section LK
variable {x y : gS} {t : Nat}
/-- the worths of the figure f -/
abbrev wf (y : gS) (f : Nat) : Nat → Nat := fun k => wo y k f
theorem aWl (h : WFy y) {f : Nat} (hf : f < nF y) {i : Nat} (hi : i ≤ nT y) : aW (wf y f) i < 1000 := by
  have := nT6 h
  have := nF9 h
  have := aW_lt (w := wf y f) (n := i) fun k hk => wo100 h (by omega) (by omega)
  omega
theorem XworthAll (h : WFy y) (hx : XT x t y) {f : Nat} (hf : f < nF y) : fX8_worthToAll t (nI f) x = some (nI (aW (wf y f) (nT y)), x) := by
  unfold fX8_worthToAll
  have hT := nT6 h
  obtain ⟨s, _, e, hp⟩ := lp (fun n (s : Int32 × Int32 × gS) => hX8_worthToAll_4 t (nI f) n s.1 s.2.1 s.2.2) (nT y) (fun i s => s = (nI (aW (wf y f) i), nI i, x)) (by
    intro n i s hi hs
    subst hs
    refine ⟨_, ?_, rfl⟩
    show fX8_worthToAll_4 t _ (hX8_worthToAll_4 t _ n) _ (nI i) x = _
    unfold fX8_worthToAll_4
    rw [xT h hx, if_neg (nle hi (by omega)), Xworth h hx hi hf, bd]
    dsimp only
    rw [nI_s, nI_ad]
    rfl) 0 (0, 0, x) FU (by omega) rfl (FU_gt (by omega))
  subst hp
  refine e.trans ?_
  show fX8_worthToAll_4 t _ _ _ _ x = _
  unfold fX8_worthToAll_4
  rw [xT h hx, if_pos (yle _)]
theorem XworthAll0 (h : WFy y) (hx : XT x t y) {a : Int32} (ha : a < 0) : fX8_worthToAll t a x = some (0, x) := by
  unfold fX8_worthToAll
  have hT := nT6 h
  obtain ⟨s, _, e, hp⟩ := lp (fun n (s : Int32 × Int32 × gS) => hX8_worthToAll_4 t a n s.1 s.2.1 s.2.2) (nT y) (fun i s => s = (0, nI i, x)) (by
    intro n i s hi hs
    subst hs
    refine ⟨_, ?_, rfl⟩
    show fX8_worthToAll_4 t _ (hX8_worthToAll_4 t _ n) _ (nI i) x = _
    unfold fX8_worthToAll_4
    rw [xT h hx, if_neg (nle hi (by omega)), Xworth0 x t _ a ha, bd]
    dsimp only
    rw [nI_s]
    rfl) 0 (0, 0, x) FU (by omega) rfl (FU_gt (by omega))
  subst hp
  refine e.trans ?_
  show fX8_worthToAll_4 t _ _ _ _ x = _
  unfold fX8_worthToAll_4
  rw [xT h hx, if_pos (yle _)]
theorem YworthAll (h : WFy y) {f : Nat} (hf : f < nF y) : fX11_allWorth (nI f) y = some (nI (aW (wf y f) (nT y)), y) := by
  unfold fX11_allWorth
  have hT := nT6 h
  obtain ⟨s, _, e, hp⟩ := lp (fun n (s : Int32 × Int32 × gS) => hX11_allWorth_4 (nI f) n s.1 s.2.1 s.2.2) (nT y) (fun i s => s = (nI (aW (wf y f) i), nI i, y)) (by
    intro n i s hi hs
    subst hs
    refine ⟨_, ?_, rfl⟩
    show fX11_allWorth_4 _ (hX11_allWorth_4 _ n) _ (nI i) y = _
    unfold fX11_allWorth_4
    rw [eT h, if_neg (nle hi (by omega)), Yworth h hi hf, bd]
    dsimp only
    rw [nI_s, nI_ad]
    rfl) 0 (0, 0, y) FU (by omega) rfl (FU_gt (by omega))
  subst hp
  refine e.trans ?_
  show fX11_allWorth_4 _ _ _ _ y = _
  unfold fX11_allWorth_4
  rw [eT h, if_pos (yle _)]
theorem Xleast (h : WFy y) (hx : XT x t y) {f : Nat} (hf : f < nF y) : fX8_leastWorth t (nI f) x = some (if nT y = 0 then 0 else nI (lW (wf y f) (nT y)), x) := by
  unfold fX8_leastWorth
  have hT := nT6 h
  have hF := nF9 h
  rw [xT h hx, ite0 (by omega)]
  by_cases h0 : nT y = 0
  · rw [if_pos h0, if_pos h0]
    unfold fX8_leastWorth_17
    obtain ⟨m, hm⟩ : ∃ m, FU = m + 1 := ⟨69999, rfl⟩
    rw [hm]
    show fX8_leastWorth_20 t _ _ _ _ x = _
    unfold fX8_leastWorth_20
    rw [xT h hx, h0, if_pos (by decide)]
  · rw [if_neg h0, if_neg h0, show (0 : Int32) = nI 0 from rfl, Xworth h hx (by omega) hf, bd]
    unfold fX8_leastWorth_17
    have h1 : lW (wf y f) 1 = wo y 0 f := by
      have := wo100 h (k := 0) (f := f) (by omega) (by omega)
      show (if 99 ≤ wo y 0 f then 99 else wo y 0 f) = _
      split
      · omega
      · rfl
    obtain ⟨s, _, e, hp⟩ := lp (fun n (s : Int32 × Int32 × gS) => hX8_leastWorth_20 t (nI f) n s.1 s.2.1 s.2.2) (nT y) (fun i s => s = (nI (lW (wf y f) i), nI i, x)) (by
      intro n i s hi hs
      subst hs
      refine ⟨_, ?_, rfl⟩
      show fX8_leastWorth_20 t _ (hX8_leastWorth_20 t _ n) _ (nI i) x = _
      unfold fX8_leastWorth_20
      rw [xT h hx, if_neg (nle hi (by omega)), Xworth h hx hi hf, bd]
      dsimp only
      unfold gl
      rw [nI_s]
      have := wo100 h (f := f) hi (by omega)
      have := lW_lt (w := wf y f) (n := i)
      rw [lW]
      by_cases q : lW (wf y f) i ≤ wo y i f
      · rw [if_neg (fun z => by have := (nI_lt' (by omega) (by omega)).mp z; omega), if_pos q]
      · rw [if_pos ((nI_lt' (by omega) (by omega)).mpr (by omega)), if_neg q]) 1 (nI (wo y 0 f), 1, x) FU (by omega) (by rw [h1]; rfl) (Nat.lt_succ_of_lt (FU_gt (by omega)))
    subst hp
    refine e.trans ?_
    show fX8_leastWorth_20 t _ _ _ _ x = _
    unfold fX8_leastWorth_20
    rw [xT h hx, if_pos (yle _)]
theorem Yleast (h : WFy y) {f : Nat} (hf : f < nF y) : fX11_leastWorth (nI f) y = some (nI (lW (wf y f) (nT y)), y) := by
  unfold fX11_leastWorth
  have hT := nT6 h
  have hF := nF9 h
  obtain ⟨s, _, e, hp⟩ := lp (fun n (s : Int32 × Int32 × gS) => hX11_leastWorth_5 (nI f) n s.1 s.2.1 s.2.2) (nT y) (fun i s => s = (nI (lW (wf y f) i), nI i, y)) (by
    intro n i s hi hs
    subst hs
    refine ⟨_, ?_, rfl⟩
    show fX11_leastWorth_5 _ (hX11_leastWorth_5 _ n) _ (nI i) y = _
    unfold fX11_leastWorth_5
    rw [eT h, if_neg (nle hi (by omega)), Yworth h hi hf, bd]
    dsimp only
    rw [Yworth h hi hf, bd]
    dsimp only
    rw [nI_s]
    have := wo100 h (f := f) hi (by omega)
    have := lW_lt (w := wf y f) (n := i)
    rw [lW]
    by_cases q : lW (wf y f) i ≤ wo y i f
    · rw [if_pos ((nI_le' (by omega) (by omega)).mpr q), if_pos q]
    · rw [if_neg (fun z => by have := (nI_le' (by omega) (by omega)).mp z; omega), if_neg q]) 0 (99, 0, y) FU (by omega) rfl (FU_gt (by omega))
  subst hp
  refine e.trans ?_
  show fX11_leastWorth_5 _ _ _ _ y = _
  unfold fX11_leastWorth_5
  rw [eT h, if_pos (yle _)]
/-- f is fairer than b -/
def fbt (y : gS) (f b : Nat) : Bool := decide (lW (wf y b) (nT y) < lW (wf y f) (nT y)) || (decide (lW (wf y f) (nT y) = lW (wf y b) (nT y)) && decide (aW (wf y b) (nT y) < aW (wf y f) (nT y)))
theorem XisFairer (h : WFy y) (hx : XT x t y) {f b : Nat} (hf : f < nF y) (hb : b < nF y) : fX8_isFairer t (nI f) (nI b) x = some (b2 (fbt y f b), x) := by
  unfold fX8_isFairer
  rw [Xleast h hx hf, bd]
  dsimp only
  rw [Xleast h hx hb, bd]
  dsimp only
  rw [XworthAll h hx hf, bd]
  dsimp only
  rw [XworthAll h hx hb, bd]
  dsimp only
  have l1 := lW_lt (w := wf y f) (n := nT y)
  have l2 := lW_lt (w := wf y b) (n := nT y)
  have a1 := aWl h hf (Nat.le_refl _)
  have a2 := aWl h hb (Nat.le_refl _)
  unfold fbt
  by_cases h0 : nT y = 0
  · rw [if_pos h0, if_pos h0, if_pos rfl, h0]
    rfl
  · rw [if_neg h0, if_neg h0]
    by_cases q : lW (wf y f) (nT y) = lW (wf y b) (nT y)
    · rw [if_pos (by rw [q])]
      by_cases q2 : aW (wf y b) (nT y) < aW (wf y f) (nT y)
      · rw [if_neg (fun z => by have := (nI_le' (by omega) (by omega)).mp z; omega)]; simp [q, q2, b2]
      · rw [if_pos ((nI_le' (by omega) (by omega)).mpr (by omega))]; simp [q, q2, b2]
    · rw [if_neg (fun z => q ((nI_inj (by omega) (by omega)).mp z))]
      by_cases q2 : lW (wf y b) (nT y) < lW (wf y f) (nT y)
      · rw [if_neg (fun z => by have := (nI_le' (by omega) (by omega)).mp z; omega)]; simp [q2, b2]
      · rw [if_pos ((nI_le' (by omega) (by omega)).mpr (by omega))]; simp [q2, q, b2]
/-- the fairest of the first figures -/
def fV (y : gS) : Nat → Option Nat
  | 0 => none
  | n + 1 => match fV y n with
    | none => some n
    | some b => if fbt y n b then some n else some b
theorem fV_lt (y : gS) (n : Nat) : ∀ b, fV y n = some b → b < n := by
  induction n with
  | zero => intro b h; cases h
  | succ n ih =>
    intro b h
    rw [fV] at h
    cases hq : fV y n with
    | none =>
      rw [hq] at h
      have : n = b := Option.some.inj h
      omega
    | some c =>
      have := ih c hq
      rw [hq] at h
      dsimp only at h
      split at h
      · have : n = b := Option.some.inj h
        omega
      · have : c = b := Option.some.inj h
        omega
def oI : Option Nat → Int32
  | none => -1
  | some b => nI b
end LK
theorem s_fair : sOK Inv fX10_fair fX11_fair := by
  intro x y h
  have hF := nF9 h.wf
  have hw := h.wf
  have hx := h.xt
  have hX : fX10_fair x = some (oI (fV y (nF y)), x) := by
    unfold fX10_fair
    obtain ⟨s, _, e, hp⟩ := lp (fun n (s : Int32 × Int32 × gS) => hX10_fair_4 n s.1 s.2.1 s.2.2) (nF y) (fun i s => s = (oI (fV y i), nI i, x)) (by
      intro n i s hi hs
      subst hs
      refine ⟨_, ?_, rfl⟩
      show fX10_fair_4 (hX10_fair_4 n) _ (nI i) x = _
      unfold fX10_fair_4 fX10_fair_32
      rw [gc_p h.told8, gc_p h.told8, xF hw hx, if_neg (nle hi (by omega))]
      dsimp only
      rw [fV, nI_s]
      cases hq : fV y i with
      | none => rw [if_pos (show oI none = -1 from rfl)]; rfl
      | some b =>
        have := fV_lt y i b hq
        show (if nI b = -1 then _ else (fX8_isFairer _ (nI i) (nI b) x).bind _) = _
        rw [if_neg (nI_m1 (by omega)), XisFairer hw hx hi (by omega), bd]
        dsimp only
        cases fbt y i b
        · rw [if_pos zero0', if_neg (by decide)]
        · rw [if_neg one0', if_pos rfl]; rfl) 0 (-1, 0, x) FU (by omega) rfl (FU_gt (by omega))
    subst hp
    refine e.trans ?_
    show fX10_fair_4 _ _ _ x = _
    unfold fX10_fair_4
    rw [gc_p h.told8, xF hw hx, if_pos (yle _)]
  have hY : fX11_fair y = some (oI (fV y (nF y)), y) := by
    unfold fX11_fair
    obtain ⟨s, _, e, hp⟩ := lp (fun n (s : Int32 × Int32 × gS) => hX11_fair_4 n s.1 s.2.1 s.2.2) (nF y) (fun i s => s = (oI (fV y i), nI i, y)) (by
      intro n i s hi hs
      subst hs
      refine ⟨_, ?_, rfl⟩
      show fX11_fair_4 (hX11_fair_4 n) _ (nI i) y = _
      unfold fX11_fair_4 fX11_fair_58
      rw [eF hw, if_neg (nle hi (by omega))]
      dsimp only
      rw [fV, nI_s]
      cases hq : fV y i with
      | none => rw [if_pos (by decide)]; rfl
      | some b =>
        have hb := fV_lt y i b hq
        show (if nI b < 0 then _ else (fX11_leastWorth (nI i) y).bind fun q4_1 => (fX11_leastWorth (nI b) q4_1.2).bind _) = _
        rw [if_neg (nI_nn (by omega)), Yleast hw hi, bd]
        dsimp only
        show ((fX11_leastWorth (nI b) y).bind fun q4_2 => if _ < q4_2.1 then hX11_fair_4 n (nI b) (nI (i + 1)) q4_2.2 else _) = _
        rw [Yleast hw (by omega), bd]
        dsimp only
        rw [Yleast hw hi, bd]
        dsimp only
        show (if _ then _ else (fX11_leastWorth (nI b) y).bind fun q4_4 => if _ then (fX11_allWorth (nI i) q4_4.2).bind fun q5 => (fX11_allWorth (nI b) q5.2).bind _ else _) = _
        rw [Yleast hw (by omega), bd]
        dsimp only
        rw [YworthAll hw hi, bd]
        dsimp only
        rw [YworthAll hw (by omega), bd]
        dsimp only
        have l1 := lW_lt (w := wf y i) (n := nT y)
        have l2 := lW_lt (w := wf y b) (n := nT y)
        have a1 := aWl hw hi (Nat.le_refl _)
        have a2 := aWl hw (show b < nF y by omega) (Nat.le_refl _)
        by_cases q1 : lW (wf y i) (nT y) < lW (wf y b) (nT y)
        · rw [if_pos ((nI_lt' (by omega) (by omega)).mpr q1), if_neg (by simp [fbt]; omega)]; rfl
        · rw [if_neg (fun z => q1 ((nI_lt' (by omega) (by omega)).mp z))]
          by_cases q2 : lW (wf y i) (nT y) = lW (wf y b) (nT y)
          · rw [if_pos (by rw [q2])]
            by_cases q3 : aW (wf y b) (nT y) < aW (wf y i) (nT y)
            · rw [if_pos ((nI_lt' (by omega) (by omega)).mpr q3), if_pos (by simp [fbt, q2, q3])]; rfl
            · rw [if_neg (fun z => q3 ((nI_lt' (by omega) (by omega)).mp z)), if_neg (by simp [fbt, q2]; omega)]
          · rw [if_neg (fun z => q2 ((nI_inj (by omega) (by omega)).mp z)), if_pos (by simp [fbt]; omega)]; rfl) 0 (-1, 0, y) FU (by omega) rfl (FU_gt (by omega))
    subst hp
    refine e.trans ?_
    show fX11_fair_4 _ _ _ y = _
    unfold fX11_fair_4
    rw [eF hw, if_pos (yle _)]
  exact ⟨_, _, _, hX, hY, h⟩
