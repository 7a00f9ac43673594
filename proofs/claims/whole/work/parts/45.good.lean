/-! ===== good, sources, mirror ===== -/
def aGe (a b : Nat → Nat) : Nat → Bool
  | 0 => true
  | n + 1 => aGe a b n && decide (b n ≤ a n)
def aGt (a b : Nat → Nat) : Nat → Bool
  | 0 => false
  | n + 1 => aGt a b n || decide (b n < a n)
theorem aGe_f {a b : Nat → Nat} {n m : Nat} (h : aGe a b n = false) (hm : n ≤ m) : aGe a b m = false := by
  induction m with
  | zero => rw [show n = 0 by omega] at h; exact h
  | succ m ih =>
    by_cases e : n = m + 1
    · rw [← e]; exact h
    · rw [aGe, ih (by omega)]; rfl
theorem aGe_w {a b : Nat → Nat} {n : Nat} (h : aGe a b n = true) : aW b n ≤ aW a n ∧ (aW b n < aW a n ↔ aGt a b n = true) := by
  induction n with
  | zero => exact ⟨Nat.le_refl _, by simp [aW, aGt]⟩
  | succ n ih =>
    rw [aGe, Bool.and_eq_true, decide_eq_true_eq] at h
    obtain ⟨i1, i2⟩ := ih h.1
    rw [aW, aW, aGt, Bool.or_eq_true, decide_eq_true_eq, ← i2]
    omega
/-- a beats b -/
def btB (y : gS) (a b : Nat) : Bool := aGe (wf y a) (wf y b) (nT y) && aGt (wf y a) (wf y b) (nT y)
def anB (y : gS) (f : Nat) : Nat → Bool
  | 0 => false
  | n + 1 => anB y f n || btB y n f
theorem anB_t {y : gS} {f n m : Nat} (h : anB y f n = true) (hm : n ≤ m) : anB y f m = true := by
  induction m with
  | zero => rw [show n = 0 by omega] at h; exact h
  | succ m ih =>
    by_cases e : n = m + 1
    · rw [← e]; exact h
    · rw [anB, ih (by omega)]; rfl
section LK
variable {x y : gS} {t : Nat}
theorem Xbeats (h : WFy y) (hx : XT x t y) {a b : Nat} (ha : a < nF y) (hb : b < nF y) : fX8_beats t (nI a) (nI b) x = some (b2 (btB y a b), x) := by
  unfold fX8_beats
  have hT := nT6 h
  have hF := nF9 h
  refine lpx (fun n (s : Int32 × Int32 × gS) => hX8_beats_5 t (nI a) (nI b) n s.1 s.2.1 s.2.2) (nT y) (fun i s => s = (b2 (aGt (wf y a) (wf y b) i), nI i, x) ∧ aGe (wf y a) (wf y b) i = true) (fun r => r = some (b2 (btB y a b), x)) ?_ ?_ 0 (0, 0, x) FU (by omega) ⟨rfl, rfl⟩ (FU_gt (by omega))
  · intro n i s hi ⟨hs, hg⟩
    subst hs
    have w1 := wo100 h (f := a) hi (by omega)
    have w2 := wo100 h (f := b) hi (by omega)
    have ex : hX8_beats_5 t (nI a) (nI b) (n + 1) (b2 (aGt (wf y a) (wf y b) i)) (nI i) x = if wo y i b ≤ wo y i a then hX8_beats_5 t (nI a) (nI b) n (b2 (aGt (wf y a) (wf y b) (i + 1))) (nI (i + 1)) x else some (0, x) := by
      show fX8_beats_5 t _ _ (hX8_beats_5 t _ _ n) _ (nI i) x = _
      unfold fX8_beats_5 fX8_beats_49
      rw [xT h hx, if_neg (nle hi (by omega)), Xworth h hx hi ha, bd]
      dsimp only
      rw [Xworth h hx hi hb, bd]
      dsimp only
      unfold gl
      dsimp only
      have e1 : (nI (wo y i a) - nI (wo y i b)).toInt = (wo y i a : Int) - wo y i b := pk_sub_toInt (by omega) (by omega)
      have e2 : 0 ≤ nI (wo y i a) - nI (wo y i b) ↔ wo y i b ≤ wo y i a := by
        rw [Int32.le_iff_toInt_le, e1]; show (0 : Int) ≤ _ ↔ _; omega
      have e3 : nI (wo y i a) - nI (wo y i b) ≤ 0 ↔ wo y i a ≤ wo y i b := by
        rw [Int32.le_iff_toInt_le, e1]; show _ ≤ (0 : Int) ↔ _; omega
      rw [nI_s, aGt]
      by_cases q : wo y i b ≤ wo y i a
      · rw [if_pos (e2.mpr q), if_pos q]
        by_cases q2 : wo y i a ≤ wo y i b
        · rw [if_pos (e3.mpr q2), show decide (wf y b i < wf y a i) = false from decide_eq_false (by show ¬ wo y i b < wo y i a; omega), Bool.or_false]
          cases aGt (wf y a) (wf y b) i <;> rfl
        · rw [if_neg (fun z => q2 (e3.mp z)), show decide (wf y b i < wf y a i) = true from decide_eq_true (by show wo y i b < wo y i a; omega), Bool.or_true]
          cases aGt (wf y a) (wf y b) i <;> rfl
      · rw [if_neg (fun z => q (e2.mp z)), if_neg q]
    by_cases q : wo y i b ≤ wo y i a
    · right
      refine ⟨_, ex.trans (if_pos q), rfl, ?_⟩
      rw [aGe, hg]
      exact decide_eq_true q
    · left
      refine (ex.trans (if_neg q)).trans ?_
      have : aGe (wf y a) (wf y b) (nT y) = false := aGe_f (n := i + 1) (by rw [aGe, decide_eq_false q, Bool.and_false]) (by omega)
      rw [btB, this]
      rfl
  · intro n s ⟨hs, hg⟩
    subst hs
    show fX8_beats_5 t _ _ _ _ _ x = _
    unfold fX8_beats_5
    dsimp only
    rw [xT h hx, if_pos (yle _), gc_p (b2_B _), btB, hg, Bool.true_and]
theorem Ybetter (h : WFy y) {a b : Nat} (ha : a < nF y) (hb : b < nF y) : fX11_isBetter (nI a) (nI b) y = some (b2 (btB y a b), y) := by
  unfold fX11_isBetter fX11_isBetter_18
  have hT := nT6 h
  have hF := nF9 h
  rw [YworthAll h ha, bd]
  dsimp only
  rw [YworthAll h hb, bd]
  dsimp only
  have a1 := aWl h ha (Nat.le_refl _)
  have a2 := aWl h hb (Nat.le_refl _)
  have key : ∀ c : Bool, hX11_isBetter_22 (nI a) (nI b) FU (b2 c) 0 y = some (b2 (c && aGe (wf y a) (wf y b) (nT y)), y) := by
    intro c
    obtain ⟨s, _, e, hp⟩ := lp (fun n (s : Int32 × Int32 × gS) => hX11_isBetter_22 (nI a) (nI b) n s.1 s.2.1 s.2.2) (nT y) (fun i s => s = (b2 (c && aGe (wf y a) (wf y b) i), nI i, y)) (by
      intro n i s hi hs
      subst hs
      refine ⟨_, ?_, rfl⟩
      have w1 := wo100 h (f := a) hi (by omega)
      have w2 := wo100 h (f := b) hi (by omega)
      show fX11_isBetter_22 _ _ (hX11_isBetter_22 _ _ n) _ (nI i) y = _
      unfold fX11_isBetter_22 fX11_isBetter_56
      rw [eT h, if_neg (nle hi (by omega)), Yworth h hi ha, bd]
      dsimp only
      rw [Yworth h hi hb, bd]
      dsimp only
      rw [nI_s, aGe, ← Bool.and_assoc]
      cases hc : (c && aGe (wf y a) (wf y b) i)
      · rw [if_pos zero0']; rfl
      · rw [if_neg one0']
        by_cases q : wo y i b ≤ wo y i a
        · rw [if_neg (fun z => by have := (nI_lt' (by omega) (by omega)).mp z; omega), decide_eq_true (show wf y b i ≤ wf y a i from q)]; rfl
        · rw [if_pos ((nI_lt' (by omega) (by omega)).mpr (by omega)), decide_eq_false (show ¬ wf y b i ≤ wf y a i from q)]; rfl) 0 (b2 c, 0, y) FU (by omega) (by rw [aGe, Bool.and_true]; rfl) (FU_gt (by omega))
    subst hp
    refine e.trans ?_
    show fX11_isBetter_22 _ _ _ _ _ y = _
    unfold fX11_isBetter_22
    rw [eT h, if_pos (yle _), gc_p (b2_B _)]
  have fin : (decide (aW (wf y b) (nT y) < aW (wf y a) (nT y)) && aGe (wf y a) (wf y b) (nT y)) = btB y a b := by
    unfold btB
    cases hg : aGe (wf y a) (wf y b) (nT y)
    · simp
    · rw [Bool.and_true, Bool.true_and]
      have := (aGe_w hg).2
      cases hq : aGt (wf y a) (wf y b) (nT y)
      · exact decide_eq_false (fun z => by rw [this, hq] at z; cases z)
      · exact decide_eq_true (this.mpr hq)
  by_cases q : aW (wf y b) (nT y) < aW (wf y a) (nT y)
  · rw [if_neg (fun z => by have := (nI_le' (by omega) (by omega)).mp z; omega)]
    rw [← fin, decide_eq_true q]
    exact key true
  · rw [if_pos ((nI_le' (by omega) (by omega)).mpr (by omega))]
    rw [← fin, decide_eq_false q]
    exact key false
theorem Xbeaten (h : WFy y) (hx : XT x t y) {f : Nat} (hf : f < nF y) : fX8_isBeaten t (nI f) x = some (b2 (anB y f (nF y)), x) := by
  unfold fX8_isBeaten
  have hF := nF9 h
  refine lpx (fun n (s : Int32 × gS) => hX8_isBeaten_2 t (nI f) n s.1 s.2) (nF y) (fun i s => s = (nI i, x) ∧ anB y f i = false) (fun r => r = some (b2 (anB y f (nF y)), x)) ?_ ?_ 0 (0, x) FU (by omega) ⟨rfl, rfl⟩ (FU_gt (by omega))
  · intro n i s hi ⟨hs, hg⟩
    subst hs
    have ex : hX8_isBeaten_2 t (nI f) (n + 1) (nI i) x = if btB y i f then some (1, x) else hX8_isBeaten_2 t (nI f) n (nI (i + 1)) x := by
      show fX8_isBeaten_2 t _ (hX8_isBeaten_2 t _ n) (nI i) x = _
      unfold fX8_isBeaten_2
      rw [xF h hx, if_neg (nle hi (by omega)), Xbeats h hx hi hf, bd]
      dsimp only
      rw [nI_s]
      cases btB y i f
      · rw [if_pos zero0', if_neg (by decide)]
      · rw [if_neg one0', if_pos rfl]
    cases q : btB y i f
    · right
      exact ⟨_, ex.trans (by rw [q]; exact if_neg (by decide)), rfl, by rw [anB, hg, q]; rfl⟩
    · left
      refine (ex.trans (by rw [q, if_pos rfl])).trans ?_
      rw [anB_t (n := i + 1) (m := nF y) (by rw [anB, q, Bool.or_true]) (by omega)]
      rfl
  · intro n s ⟨hs, hg⟩
    subst hs
    show fX8_isBeaten_2 t _ _ _ x = _
    unfold fX8_isBeaten_2
    rw [xF h hx, if_pos (yle _), hg]
    rfl
end LK
theorem s_good : sOK Inv fX10_good fX11_good := by
  intro x y h
  have hF := nF9 h.wf
  have hw := h.wf
  have hx := h.xt
  let P : Nat → Bool := fun f => !anB y f (nF y)
  have hX : fX10_good x = some (nI (bS P (nF y)), x) := by
    unfold fX10_good
    obtain ⟨s, _, e, hp⟩ := lp (fun n (s : Int32 × Int32 × gS) => hX10_good_4 n s.1 s.2.1 s.2.2) (nF y) (fun i s => s = (nI (bS P i), nI i, x)) (by
      intro n i s hi hs
      subst hs
      refine ⟨_, ?_, rfl⟩
      show fX10_good_4 (hX10_good_4 n) _ (nI i) x = _
      unfold fX10_good_4
      rw [gc_p h.told8, gc_p h.told8, xF hw hx, if_neg (nle hi (by omega)), Xbeaten hw hx hi, bd]
      dsimp only
      rw [nI_s]
      unfold gl
      cases q : anB y i (nF y)
      · rw [if_pos zero0', bS_s1 (p := P) (by simp [P, q]) (by omega)]
      · rw [if_neg one0', ← bS_s0 (p := P) (n := i) (by simp [P, q])]) 0 (0, 0, x) FU (by omega) rfl (FU_gt (by omega))
    subst hp
    refine e.trans ?_
    show fX10_good_4 _ _ _ x = _
    unfold fX10_good_4
    rw [gc_p h.told8, xF hw hx, if_pos (yle _)]
  have hY : fX11_good y = some (nI (bS P (nF y)), y) := by
    unfold fX11_good
    obtain ⟨s, _, e, hp⟩ := lp (fun n (s : Int32 × Int32 × gS) => hX11_good_4 n s.1 s.2.1 s.2.2) (nF y) (fun i s => s = (nI (bS P i), nI i, y)) (by
      intro n i s hi hs
      subst hs
      refine ⟨_, ?_, rfl⟩
      show fX11_good_4 (hX11_good_4 n) _ (nI i) y = _
      unfold fX11_good_4
      rw [eF hw, if_neg (nle hi (by omega))]
      dsimp only
      obtain ⟨s, _, e, hp⟩ := lp (fun m (s : Int32 × Int32 × gS) => hX11_good_17 (hX11_good_4 n) m (nI (bS P i)) (nI i) s.1 s.2.1 s.2.2) (nF y) (fun j s => s = (b2 (!anB y i j), nI j, y)) (by
        intro m j s hj hs
        subst hs
        refine ⟨_, ?_, rfl⟩
        show fX11_good_17 _ (hX11_good_17 _ m) _ _ _ (nI j) y = _
        unfold fX11_good_17 fX11_good_44
        rw [eF hw, if_neg (nle hj (by omega)), Ybetter hw hj hi, bd]
        dsimp only
        rw [nI_s, anB]
        cases anB y i j
        · rw [if_neg (show ¬ b2 (!false) = 0 from one0')]
          cases btB y j i
          · rw [if_pos zero0']; rfl
          · rw [if_neg one0']; rfl
        · rw [if_pos (show b2 (!true) = 0 from rfl)]; rfl) 0 (1, 0, y) FU (by omega) rfl (FU_gt (by omega))
      subst hp
      refine e.trans ?_
      show fX11_good_17 _ _ _ _ _ _ y = _
      unfold fX11_good_17
      rw [eF hw, if_pos (yle _), Ytruth, bd]
      dsimp only
      unfold gl
      rw [nI_s, bS_s2 (p := P) (n := i) (by omega)]) 0 (0, 0, y) FU (by omega) rfl (FU_gt (by omega))
    subst hp
    refine e.trans ?_
    show fX11_good_4 _ _ _ y = _
    unfold fX11_good_4
    rw [eF hw, if_pos (yle _)]
  exact ⟨_, _, _, hX, hY, h⟩
/-! sources -/
theorem src1 : ∀ a, a < 8 → ∀ b, b < 8 → ((nI (2 ^ a) &&& (nI (2 ^ b) ^^^ (-1))) ^^^ (-1) = if a = b then (-1 : Int32) else nI (2 ^ a) ^^^ (-1)) := by decide
theorem src2 : ∀ w, w < 8 → ∀ a, a < 8 → ∀ b, b < 8 → (((nI (2 ^ a) ||| nI (2 ^ w)) &&& (nI (2 ^ b) ^^^ (-1))) ^^^ (-1) = (if a = b then (-1 : Int32) else nI (2 ^ a) ^^^ (-1)) &&& (if w = b then (-1 : Int32) else nI (2 ^ w) ^^^ (-1))) := by
  intro w hw
  match w, hw with
  | 0, _ => decide
  | 1, _ => decide
  | 2, _ => decide
  | 3, _ => decide
  | 4, _ => decide
  | 5, _ => decide
  | 6, _ => decide
  | 7, _ => decide
  | w + 8, h => exact absurd h (by omega)
/-- what is left of the figures behind the first moves -/
def srV (y : gS) (v : Int32) : Nat → Int32
  | 0 => v
  | m + 1 => let u := srV y v m
             let u2 := if tO y m = fr y m then u else u &&& (nI (2 ^ tO y m) ^^^ (-1))
             if y.1 25 m < 0 then u2 else if y.1 25 m = y.1 21 m then u2 else u2 &&& (1 <<< (y.1 25 m &&& 31) ^^^ (-1))
theorem i32_and_neg1 (a : Int32) : a &&& -1 = a := by
  apply Int32.toBitVec_inj.mp
  rw [Int32.toBitVec_and]
  show a.toBitVec &&& BitVec.allOnes 32 = _
  exact BitVec.and_allOnes
theorem s_sources : sOK Inv fX10_sources fX11_sources := by
  intro x y h
  have hF := nF9 h.wf
  have hM := nM17 h.wf
  have hw := h.wf
  have hx := h.xt
  have hX : ∀ v, hX10_sources_14 FU v 0 x = some (srV y v (nM y), x) := by
    intro v
    obtain ⟨s, _, e, hp⟩ := lp (fun n (s : Int32 × Int32 × gS) => hX10_sources_14 n s.1 s.2.1 s.2.2) (nM y) (fun i s => s = (srV y v i, nI i, x)) (by
      intro n i s hi hs
      subst hs
      refine ⟨_, ?_, rfl⟩
      show fX10_sources_14 (hX10_sources_14 n) _ (nI i) x = _
      have f1 := fr_lt hw hi
      have f2 := tO_lt hw hi
      obtain ⟨-, -, -, -, e5⟩ := hx.2.2.1 i hi
      have e1 := xfr_e hw hx hi
      have e2 := xtO_e hw hx hi
      have hled : ∃ L, fX8_othersLedTo (x.2.2 0 9) (nI i) x = some (L, x) ∧ srV y v i &&& (L ^^^ (-1)) = srV y v (i + 1) := by
        unfold fX8_othersLedTo
        rw [Xmov hw hx.1 hi, bd]
        dsimp only
        have g16 : gI (nI i) 16 := gI_nI (by omega) (by decide)
        unfold gl fX8_othersLedTo_40
        simp only [if_neg one0, gc_p g16, nI_clamp (show i < 2 ^ 31 by omega), e1, e2, e5, b_1 (show fr y i < 31 by omega), b_1 (show tO y i < 31 by omega)]
        rw [srV]
        rcases (hw.2.1 i hi).2.2.2.2 with q | q
        · rw [q, if_pos rfl, if_pos (by decide)]
          refine ⟨_, rfl, ?_⟩
          rw [src1 _ (by omega) _ (by omega)]
          by_cases z : tO y i = fr y i
          · rw [if_pos z, if_pos z]; exact i32_and_neg1 _
          · rw [if_neg z, if_neg z]
        · have q1 := q.1
          have q2 := q.2
          generalize vN (y.1 25 i) = w at q1 q2
          rw [q1, if_neg (nI_m1 (by omega)), if_neg (nI_nn (by omega)), b_1 (by omega), fr_e hw hi]
          refine ⟨_, rfl, ?_⟩
          rw [src2 _ (by omega) _ (by omega) _ (by omega), ← Int32.and_assoc]
          by_cases z : tO y i = fr y i
          · rw [if_pos z, if_pos z, i32_and_neg1]
            by_cases z2 : w = fr y i
            · rw [if_pos z2, if_pos (by rw [z2]), i32_and_neg1]
            · rw [if_neg z2, if_neg (fun q => z2 ((nI_inj (by omega) (by omega)).mp q))]
          · rw [if_neg z, if_neg z]
            by_cases z2 : w = fr y i
            · rw [if_pos z2, if_pos (by rw [z2]), i32_and_neg1]
            · rw [if_neg z2, if_neg (fun q => z2 ((nI_inj (by omega) (by omega)).mp q))]
      obtain ⟨L, hL, hL2⟩ := hled
      unfold fX10_sources_14
      rw [gc_p h.told8, gc_p h.told8, xM hw hx, if_neg (nle hi (by omega)), hL, bd]
      dsimp only
      unfold gl
      rw [nI_s, hL2]) 0 (v, 0, x) FU (by omega) rfl (FU_gt (by omega))
    subst hp
    refine e.trans ?_
    show fX10_sources_14 _ _ _ x = _
    unfold fX10_sources_14
    rw [gc_p h.told8, xM hw hx, if_pos (yle _)]
  have hY : ∀ v, hX11_sources_11 FU v 0 y = some (srV y v (nM y), y) := by
    intro v
    obtain ⟨s, _, e, hp⟩ := lp (fun n (s : Int32 × Int32 × gS) => hX11_sources_11 n s.1 s.2.1 s.2.2) (nM y) (fun i s => s = (srV y v i, nI i, y)) (by
      intro n i s hi hs
      subst hs
      refine ⟨_, ?_, rfl⟩
      show fX11_sources_11 (hX11_sources_11 n) _ (nI i) y = _
      have f1 := fr_lt hw hi
      have f2 := tO_lt hw hi
      unfold fX11_sources_11 fX11_sources_47
      have g16 : gI (nI i) 16 := gI_nI (by omega) (by decide)
      simp only [gc_p g16, nI_clamp (show i < 2 ^ 31 by omega)]
      rw [eM hw, if_neg (nle hi (by omega)), nI_s]
      unfold gl
      dsimp only
      rw [srV]
      rw [tO_e hw hi, fr_e hw hi, b_1 (by omega)]
      by_cases z : tO y i = fr y i
      · rw [if_pos (by rw [z]), if_pos z]
        by_cases z2 : y.1 25 i < 0
        · rw [if_pos z2, if_pos z2]
        · rw [if_neg z2, if_neg z2]
          by_cases z3 : y.1 25 i = nI (fr y i)
          · rw [if_pos z3, if_pos z3]
          · rw [if_neg z3, if_neg z3]
      · rw [if_neg (fun q => z ((nI_inj (by omega) (by omega)).mp q)), if_neg z]
        by_cases z2 : y.1 25 i < 0
        · rw [if_pos z2, if_pos z2]
        · rw [if_neg z2, if_neg z2]
          by_cases z3 : y.1 25 i = nI (fr y i)
          · rw [if_pos z3, if_pos z3]
          · rw [if_neg z3, if_neg z3]) 0 (v, 0, y) FU (by omega) rfl (FU_gt (by omega))
    subst hp
    refine e.trans ?_
    show fX11_sources_11 _ _ _ y = _
    unfold fX11_sources_11
    rw [eM hw, if_pos (yle _)]
  unfold fX10_sources fX11_sources gl
  rw [gc_p h.told8, hx.1.1]
  exact ⟨_, _, _, hX _, hY _, h⟩
