/-! ===== what some hands can make ===== -/
theorem oS_t {p : Nat → Bool} {e : Nat → Nat} {n f : Nat} : (oS p e n).testBit f = true ↔ ∃ m, m < n ∧ p m = true ∧ e m = f := by
  induction n with
  | zero =>
    rw [oS, Nat.zero_testBit]
    exact ⟨fun h => absurd h (by decide), fun h => by obtain ⟨m, hm, _⟩ := h; omega⟩
  | succ n ih =>
    rw [oS, Nat.testBit_or, Bool.or_eq_true, ih]
    constructor
    · rintro (⟨m, h1, h2⟩ | h)
      · exact ⟨m, by omega, h2⟩
      · cases hp : p n
        · rw [hp, if_neg (by decide), Nat.zero_testBit] at h; cases h
        · rw [hp, if_pos rfl, Nat.testBit_two_pow] at h
          exact ⟨n, by omega, hp, of_decide_eq_true h⟩
    · rintro ⟨m, h1, h2, h3⟩
      by_cases z : m = n
      · right
        subst z
        rw [h2, if_pos rfl, Nat.testBit_two_pow]
        exact decide_eq_true h3
      · exact Or.inl ⟨m, by omega, h2, h3⟩
/-- or of the first ones, but one -/
def ah (hd : Nat → Nat) (t : Nat) : Nat → Nat
  | 0 => 0
  | n + 1 => ah hd t n ||| (if n = t then 0 else hd n)
theorem ah_t {hd : Nat → Nat} {t n f : Nat} : (ah hd t n).testBit f = true ↔ ∃ k, k < n ∧ k ≠ t ∧ (hd k).testBit f = true := by
  induction n with
  | zero =>
    rw [ah, Nat.zero_testBit]
    exact ⟨fun h => absurd h (by decide), fun h => by obtain ⟨m, hm, _⟩ := h; omega⟩
  | succ n ih =>
    rw [ah, Nat.testBit_or, Bool.or_eq_true, ih]
    constructor
    · rintro (⟨m, h1, h2⟩ | h)
      · exact ⟨m, by omega, h2⟩
      · by_cases z : n = t
        · rw [if_pos z, Nat.zero_testBit] at h; cases h
        · rw [if_neg z] at h
          exact ⟨n, by omega, z, h⟩
    · rintro ⟨m, h1, h2, h3⟩
      by_cases z : m = n
      · right
        subst z
        rw [if_neg h2]; exact h3
      · exact Or.inl ⟨m, by omega, h2, h3⟩
theorem ah_lt {hd : Nat → Nat} {t n : Nat} (h : ∀ k, k < n → hd k < 2 ^ 8) : ah hd t n < 2 ^ 8 := by
  induction n with
  | zero => exact Nat.two_pow_pos 8
  | succ n ih =>
    rw [ah]
    apply Nat.or_lt_two_pow (ih fun k hk => h k (by omega))
    split
    · exact Nat.two_pow_pos 8
    · exact h n (by omega)
/-- H has the beginning, and all that the hands of S take from it -/
def Clo (y : gS) (S b F0 : Nat) (H : Nat → Nat → Prop) : Prop := (∀ f, F0.testBit f = true → H b f) ∧ ∀ j g t m, j < nT y → H j g → t < nT y → S.testBit t = true → t ≠ j → m < nM y → fr y m = g → cnb y t m = true → H t (tO y m)
def Rch (y : gS) (S b F0 k f : Nat) : Prop := ∀ H, Clo y S b F0 H → H k f
theorem Rch_clo (y : gS) (S b F0 : Nat) : Clo y S b F0 (Rch y S b F0) :=
  ⟨fun f hf H hH => hH.1 f hf, fun j g t m h1 h2 h3 h4 h5 h6 h7 h8 H hH => hH.2 j g t m h1 (h2 H hH) h3 h4 h5 h6 h7 h8⟩
/-- how many are held -/
def cbT (hd : Nat → Nat) : Nat → Nat
  | 0 => 0
  | n + 1 => cbT hd n + cnt (hd n).testBit 8
theorem cbT_le (hd : Nat → Nat) (n : Nat) : cbT hd n ≤ 8 * n := by
  induction n with
  | zero => exact Nat.le_refl _
  | succ n ih => rw [cbT]; have := cnt_le (hd n).testBit 8; omega
theorem cnt_mono {p q : Nat → Bool} {n : Nat} (h : ∀ i, i < n → p i = true → q i = true) : cnt p n ≤ cnt q n := by
  induction n with
  | zero => exact Nat.le_refl _
  | succ n ih =>
    have := ih fun i hi => h i (by omega)
    have h2 := h n (by omega)
    rw [cnt, cnt]
    by_cases z : p n = true
    · rw [if_pos z, if_pos (h2 z)]; omega
    · rw [if_neg z]; omega
theorem cnt_lt {p q : Nat → Bool} {n j : Nat} (h : ∀ i, i < n → p i = true → q i = true) (hj : j < n) (h1 : p j = false) (h2 : q j = true) : cnt p n < cnt q n := by
  induction n with
  | zero => omega
  | succ n ih =>
    rw [cnt, cnt]
    by_cases z : j = n
    · subst z
      have := cnt_mono (n := j) fun i hi => h i (by omega)
      rw [h1, h2, if_neg (by decide), if_pos rfl]; omega
    · have := ih (fun i hi => h i (by omega)) (by omega)
      have h3 := h n (by omega)
      by_cases w : p n = true
      · rw [if_pos w, if_pos (h3 w)]; omega
      · rw [if_neg w]; omega
theorem or_cnt {a c : Nat} (h : a ||| c ≠ a) (hl : a ||| c < 2 ^ 8) : cnt a.testBit 8 < cnt (a ||| c).testBit 8 := by
  have : ∃ i, ¬ ((a ||| c).testBit i = a.testBit i) := Classical.byContradiction fun q => h (Nat.eq_of_testBit_eq fun i => Classical.byContradiction fun z => q ⟨i, z⟩)
  obtain ⟨i, hi⟩ := this
  have h1 : a.testBit i = false := by
    cases z : a.testBit i
    · rfl
    · rw [Nat.testBit_or, z] at hi; simp at hi
  have h2 : (a ||| c).testBit i = true := by
    cases z : (a ||| c).testBit i
    · rw [z, h1] at hi; exact absurd rfl hi
    · rfl
  have h8 : i < 8 := Classical.byContradiction fun q => by
    have := Nat.testBit_lt_two_pow (x := a ||| c) (i := i) (Nat.lt_of_lt_of_le hl (Nat.pow_le_pow_right (by decide) (by omega)))
    rw [this] at h2; cases h2
  exact cnt_lt (fun j _ q => by rw [Nat.testBit_or, q]; rfl) h8 h1 h2
theorem cbT_upd {hd : Nat → Nat} {t v n : Nat} : cbT (fun k => if k = t then v else hd k) n + (if t < n then cnt (hd t).testBit 8 else 0) = cbT hd n + (if t < n then cnt v.testBit 8 else 0) := by
  induction n with
  | zero => rfl
  | succ n ih =>
    rw [cbT, cbT]
    by_cases z : n = t
    · subst z
      rw [if_neg (by omega), if_neg (by omega)] at ih
      rw [if_pos rfl, if_pos (by omega), if_pos (by omega)]
      omega
    · rw [if_neg z]
      by_cases w : t < n
      · rw [if_pos w, if_pos w] at ih
        rw [if_pos (by omega), if_pos (by omega)]
        omega
      · rw [if_neg w, if_neg w] at ih
        rw [if_neg (by omega), if_neg (by omega)]
        omega
/-- what is behind the others' for t -/
def beh (y : gS) (hd : Nat → Nat) (t : Nat) : Nat := oS (fun m => (bS (cnb y t) (nM y)).testBit m && (ah hd t (nT y)).testBit (fr y m)) (tO y) (nM y)
def XH (x y : gS) (hd : Nat → Nat) (st : gS) : Prop := FX x st ∧ ∀ k, k < nT y → st.1 168 k = nI (hd k) ∧ hd k < 2 ^ 8
theorem beh_lt {y : gS} (hw : WFy y) (hd : Nat → Nat) (t : Nat) : beh y hd t < 2 ^ 8 := oS_lt fun m hm => by have := tO_lt hw hm; have := nF9 hw; omega
theorem XholdsMore {x y st : gS} (h : Inv x y) {hd : Nat → Nat} (hh : XH x y hd st) {t : Nat} (ht : t < nT y) : ∃ st', fX3_holdsMore (x.2.2 0 9) (nI t) st = some (b2 (decide (hd t ||| beh y hd t ≠ hd t)), st') ∧ XH x y (fun k => if k = t then hd t ||| beh y hd t else hd k) st' := by
  have hw := h.wf
  have hT := nT6 hw
  have hM := nM17 hw
  obtain ⟨hf, hk⟩ := hh
  have hxs := (hf.inv h).xt
  rw [show st.2.2 0 9 = x.2.2 0 9 by rw [hf.1]] at hxs
  unfold fX3_holdsMore
  obtain ⟨s, _, e, hp⟩ := lp (fun n (s : Int32 × Int32 × gS) => hX3_holdsMore_5 (x.2.2 0 9) (nI t) n s.1 s.2.1 s.2.2) (nT y) (fun i s => s = (nI (ah hd t i), nI i, st)) (by
    intro n i s hi hs
    subst hs
    refine ⟨_, ?_, rfl⟩
    show fX3_holdsMore_5 (x.2.2 0 9) (nI t) (hX3_holdsMore_5 (x.2.2 0 9) (nI t) n) _ (nI i) st = _
    unfold fX3_holdsMore_5 fX3_holdsMore_32
    rw [xT hw hxs, if_neg (nle hi (by omega)), gc_p (gI_nI (by omega) (by decide)), nI_clamp (by omega), (hk i hi).1, nI_s, ah]
    by_cases z : i = t
    · rw [if_pos (by rw [z]), if_pos z, show (0 : Int32) = nI 0 from rfl, b_or]
    · rw [if_neg (fun q => z ((nI_inj (by omega) (by omega)).mp q)), if_neg z, b_or]) 0 (0, 0, st) FU (by omega) rfl (FU_gt (by omega))
  subst hp
  have a1 := ah_lt (hd := hd) (t := t) (n := nT y) fun k hk2 => (hk k hk2).2
  have a2 := beh_lt hw hd t
  have a3 := (hk t ht).2
  have a4 : hd t ||| beh y hd t < 2 ^ 8 := Nat.or_lt_two_pow a3 a2
  have e2 : hX3_holdsMore_5 (x.2.2 0 9) (nI t) FU 0 0 st = fX3_holdsMore_76 (x.2.2 0 9) (nI t) (nI (hd t ||| beh y hd t)) (b2 (decide (hd t ||| beh y hd t ≠ hd t))) st := e.trans (by
    show fX3_holdsMore_5 (x.2.2 0 9) (nI t) _ _ _ st = _
    unfold fX3_holdsMore_5
    have g5 : gI (nI t) 5 := gI_nI (by omega) (by decide)
    rw [xT hw hxs, if_pos (yle _), gc_p g5, gc_p g5, nI_clamp (by omega), Xable hw hxs ht, Xbehind hw hxs (l831 a1) (bSl _ (by omega)), bd]
    unfold gl
    dsimp only
    rw [gc_p g5, (hk t ht).1, b_or]
    show (if nI (hd t ||| beh y hd t) = nI (hd t) then _ else _) = _
    by_cases z : hd t ||| beh y hd t = hd t
    · rw [if_pos (by rw [z]), decide_eq_false (fun q => q z)]; rfl
    · rw [if_neg (fun q => z ((nI_inj (by omega) (by omega)).mp q)), decide_eq_true z]; rfl)
  rw [e2]
  unfold fX3_holdsMore_76
  rw [gc_p (gI_nI (by omega) (by decide)), gc_p (b2_B _), nI_clamp (by omega)]
  refine ⟨_, rfl, hf.tr (FX_wi (by unfold scrX; omega)), fun k hk2 => ?_⟩
  show (wi st 168 t _).1 168 k = nI (if k = t then hd t ||| beh y hd t else hd k) ∧ (if k = t then hd t ||| beh y hd t else hd k) < 2 ^ 8
  rw [wi_1]
  by_cases z : k = t
  · rw [if_pos ⟨rfl, z⟩, if_pos z]; exact ⟨rfl, a4⟩
  · rw [if_neg (fun q => z q.2), if_neg z]; exact hk k hk2
/-- sound: nothing is held that can't come -/
def Snd (y : gS) (S b F0 : Nat) (hd : Nat → Nat) : Prop := (∀ f, F0.testBit f = true → (hd b).testBit f = true) ∧ ∀ k f, k < nT y → (hd k).testBit f = true → Rch y S b F0 k f
theorem Snd_step {y : gS} (hw : WFy y) {S b F0 : Nat} {hd : Nat → Nat} (h : Snd y S b F0 hd) {t : Nat} (ht : t < nT y) (hS : S.testBit t = true) : Snd y S b F0 (fun k => if k = t then hd t ||| beh y hd t else hd k) := by
  refine ⟨fun f hf => ?_, fun k f hk hb => ?_⟩
  · have := h.1 f hf
    show (if b = t then hd t ||| beh y hd t else hd b).testBit f = true
    by_cases z : b = t
    · rw [if_pos z, Nat.testBit_or, ← z, this]; rfl
    · rw [if_neg z]; exact this
  · dsimp only at hb
    by_cases z : k = t
    · rw [if_pos z, Nat.testBit_or, Bool.or_eq_true] at hb
      rcases hb with q | q
      · rw [z]; exact h.2 t f ht q
      · unfold beh at q
        obtain ⟨m, h1, h2, h3⟩ := oS_t.mp q
        rw [Bool.and_eq_true, bS_t, Bool.and_eq_true] at h2
        obtain ⟨j, g1, g2, g3⟩ := ah_t.mp h2.2
        rw [z, ← h3]
        exact (Rch_clo y S b F0).2 j (fr y m) t m g1 (h.2 j _ g1 g3) ht hS (fun q => g2 q.symm) h1 rfl h2.1.2
    · rw [if_neg z] at hb; exact h.2 k f hk hb
/-- nothing more comes: then all is held that can come -/
theorem Snd_all {y : gS} (hw : WFy y) {S b F0 : Nat} (hbT : b < nT y) {hd : Nat → Nat} (h : Snd y S b F0 hd) (hc : ∀ t, t < nT y → S.testBit t = true → hd t ||| beh y hd t = hd t) {k f : Nat} (hk : k < nT y) : (hd k).testBit f = true ↔ Rch y S b F0 k f := by
  refine ⟨h.2 k f hk, fun hr => ?_⟩
  refine hr (fun k f => (hd k).testBit f = true) ⟨h.1, fun j g t m h1 h2 h3 h4 h5 h6 h7 h8 => ?_⟩
  show (hd t).testBit (tO y m) = true
  rw [← hc t h3 h4, Nat.testBit_or]
  have : (beh y hd t).testBit (tO y m) = true := oS_t.mpr ⟨m, h6, by
    rw [Bool.and_eq_true, bS_t]
    refine ⟨by simp [h6, h8], ah_t.mpr ⟨j, h1, fun q => h5 q.symm, by rw [h7]; exact h2⟩⟩, rfl⟩
  rw [this, Bool.or_true]
/-- one round of all hands -/
theorem Xround {x y st : gS} (h : Inv x y) {hd : Nat → Nat} (hh : XH x y hd st) {S b F0 : Nat} (hS : S < 2 ^ 31) (hs : Snd y S b F0 hd) (a3 l6 : Int32) (K : Int32 → Int32 → Int32 → gS → Option (Int32 × gS)) :
    ∃ c st' hd', hX3_byTakings_71 (x.2.2 0 9) 20 a3 K FU (nI S) 0 l6 0 st = K (nI S) (b2 c) (l6 + 1) st' ∧ XH x y hd' st' ∧ Snd y S b F0 hd' ∧ cbT hd (nT y) ≤ cbT hd' (nT y) ∧ (c = true → cbT hd (nT y) < cbT hd' (nT y)) ∧ (c = false → ∀ t, t < nT y → S.testBit t = true → hd' t ||| beh y hd' t = hd' t) := by
  have hw := h.wf
  have hT := nT6 hw
  obtain ⟨s, _, e, hp⟩ := lp (fun n (s : Int32 × Int32 × gS) => hX3_byTakings_71 (x.2.2 0 9) 20 a3 K n (nI S) s.1 l6 s.2.1 s.2.2) (nT y) (fun i s => s.2.1 = nI i ∧ ∃ c hd', s.1 = b2 c ∧ XH x y hd' s.2.2 ∧ Snd y S b F0 hd' ∧ cbT hd (nT y) ≤ cbT hd' (nT y) ∧ (c = true → cbT hd (nT y) < cbT hd' (nT y)) ∧ (c = false → ∀ t, t < i → S.testBit t = true → hd' t ||| beh y hd' t = hd' t)) (by
    intro n i ⟨l5, l7, st⟩ hi ⟨q1, c, hd1, q2, q3, q4, q5, q6, q7⟩
    dsimp only at q1 q2 q3
    subst q1 q2
    have hxs := (q3.1.inv h).xt
    rw [show st.2.2 0 9 = x.2.2 0 9 by rw [q3.1.1]] at hxs
    show ∃ s', fX3_byTakings_71 (x.2.2 0 9) 20 a3 K (hX3_byTakings_71 (x.2.2 0 9) 20 a3 K n) (nI S) (b2 c) l6 (nI i) st = _ ∧ _
    unfold fX3_byTakings_71
    rw [xT hw hxs, if_neg (nle hi (by omega)), b_bit hS (by omega), nI_s]
    cases hz : S.testBit i
    · rw [if_pos zero0']
      refine ⟨(_, _, _), rfl, rfl, c, hd1, rfl, q3, q4, q5, q6, fun hc t ht hS2 => ?_⟩
      by_cases w : t = i
      · rw [w, hz] at hS2; cases hS2
      · exact q7 hc t (by omega) hS2
    · rw [if_neg one0']
      obtain ⟨st2, m1, m2⟩ := XholdsMore h q3 hi
      rw [m1, bd]
      dsimp only
      have s2 := Snd_step hw q4 hi hz
      by_cases w : hd1 i ||| beh y hd1 i = hd1 i
      · rw [decide_eq_false (fun q => q w), if_pos zero0']
        have e3 : (fun k => if k = i then hd1 i ||| beh y hd1 i else hd1 k) = hd1 := by
          funext k
          by_cases z : k = i
          · rw [if_pos z, w, z]
          · rw [if_neg z]
        rw [e3] at m2
        refine ⟨(_, _, _), rfl, rfl, c, hd1, rfl, m2, q4, q5, q6, fun hc t ht hS2 => ?_⟩
        by_cases z : t = i
        · rw [z]; exact w
        · exact q7 hc t (by omega) hS2
      · rw [decide_eq_true w, if_neg one0']
        have a4 : hd1 i ||| beh y hd1 i < 2 ^ 8 := Nat.or_lt_two_pow (q3.2 i hi).2 (beh_lt hw hd1 i)
        have g1 := or_cnt w a4
        have g2 := cbT_upd (hd := hd1) (t := i) (v := hd1 i ||| beh y hd1 i) (n := nT y)
        rw [if_pos hi, if_pos hi] at g2
        exact ⟨(_, _, _), rfl, rfl, true, _, rfl, m2, s2, by omega, fun _ => by omega, fun q => by cases q⟩) 0 (0, 0, st) FU (by omega) ⟨rfl, false, hd, rfl, hh, hs, Nat.le_refl _, fun q => (by cases q), fun _ t ht => absurd ht (by omega)⟩ (FU_gt (by omega))
  obtain ⟨l5, l7, s2⟩ := s
  obtain ⟨q1, c, hd1, q2, q3, q4, q5, q6, q7⟩ := hp
  dsimp only at q1 q2 q3
  subst q1 q2
  have hxs := (q3.1.inv h).xt
  rw [show s2.2.2 0 9 = x.2.2 0 9 by rw [q3.1.1]] at hxs
  refine ⟨c, s2, hd1, e.trans ?_, q3, q4, q5, q6, q7⟩
  show fX3_byTakings_71 (x.2.2 0 9) 20 a3 K _ (nI S) (b2 c) l6 _ s2 = _
  unfold fX3_byTakings_71
  rw [xT hw hxs, if_pos (yle _)]
def orA (hd : Nat → Nat) (n : Nat) : Nat := ah hd n n
theorem orA_t {hd : Nat → Nat} {n f : Nat} : (orA hd n).testBit f = true ↔ ∃ k, k < n ∧ (hd k).testBit f = true := by
  unfold orA
  rw [ah_t]
  exact ⟨fun ⟨k, h1, _, h3⟩ => ⟨k, h1, h3⟩, fun ⟨k, h1, h3⟩ => ⟨k, h1, by omega, h3⟩⟩
theorem Xheld {x y st : gS} (h : Inv x y) {hd : Nat → Nat} (hh : XH x y hd st) : fX3_heldByAny (x.2.2 0 9) st = some (nI (orA hd (nT y)), st) := by
  have hw := h.wf
  have hT := nT6 hw
  have hxs := (hh.1.inv h).xt
  rw [show st.2.2 0 9 = x.2.2 0 9 by rw [hh.1.1]] at hxs
  unfold fX3_heldByAny
  obtain ⟨s, _, e, hp⟩ := lp (fun n (s : Int32 × Int32 × gS) => hX3_heldByAny_4 (x.2.2 0 9) n s.1 s.2.1 s.2.2) (nT y) (fun i s => s = (nI (ah hd (nT y) i), nI i, st)) (by
    intro n i s hi hs
    subst hs
    refine ⟨_, ?_, rfl⟩
    show fX3_heldByAny_4 (x.2.2 0 9) (hX3_heldByAny_4 (x.2.2 0 9) n) _ (nI i) st = _
    unfold fX3_heldByAny_4 gl
    rw [xT hw hxs, if_neg (nle hi (by omega)), gc_p (gI_nI (by omega) (by decide)), nI_clamp (by omega), (hh.2 i hi).1, nI_s, ah, if_neg (by omega), b_or]) 0 (0, 0, st) FU (by omega) rfl (FU_gt (by omega))
  subst hp
  refine e.trans ?_
  show fX3_heldByAny_4 (x.2.2 0 9) _ _ _ st = _
  unfold fX3_heldByAny_4
  rw [xT hw hxs, if_pos (yle _)]
  rfl
/-- what can come, as bits -/
def Mk (y : gS) (S b F0 v : Nat) : Prop := v < 2 ^ 8 ∧ ∀ f, v.testBit f = true ↔ ∃ k, k < nT y ∧ Rch y S b F0 k f
theorem Mk_u {y : gS} {S b F0 v w : Nat} (h1 : Mk y S b F0 v) (h2 : Mk y S b F0 w) : v = w := by
  apply Nat.eq_of_testBit_eq
  intro i
  have := (h1.2 i).trans (h2.2 i).symm
  cases hv : v.testBit i <;> cases hw : w.testBit i <;> simp_all
theorem XbyT {x y st : gS} (h : Inv x y) (hf : FX x st) {b F0 S0 : Nat} (hb : b < nT y) (h3 : x.1 20 3 = nI b) (hF0 : F0 < 2 ^ 8) (hbit : ∀ s, FX x s → fX5_figureBit 20 s = some (nI F0, s)) (hS0 : S0 < 2 ^ 5) : ∃ v st', fX3_byTakings (x.2.2 0 9) 20 (nI S0) st = some (nI v, st') ∧ FX x st' ∧ Mk y (S0 ||| 2 ^ b) b F0 v := by
  have hw := h.wf
  have hT := nT6 hw
  have hS : S0 ||| 2 ^ b < 2 ^ 31 := Nat.or_lt_two_pow (Nat.lt_trans hS0 (by decide)) (Nat.pow_lt_pow_right (by decide) (by omega))
  have hxs := (hf.inv h).xt
  rw [show st.2.2 0 9 = x.2.2 0 9 by rw [hf.1]] at hxs
  unfold fX3_byTakings
  have e20 : ∀ s, FX x s → s.1 20 3 = nI b := fun s hs => (hs.2 20 3 (by unfold scrX; omega)).trans h3
  rw [e20 st hf, Xtri hw hxs.1 hb, bd]
  dsimp only
  obtain ⟨s1, f1, f2, f3⟩ := fill_spec gn0_168 (by decide) 0 st
  have fx1 : FX x s1 := hf.tr ⟨by rw [f2], fun k j hk => by rw [f3, if_neg (by unfold scrX at hk; omega)]⟩
  rw [if_neg one0, f1, bd, hbit s1 fx1, bd]
  dsimp only
  rw [e20 s1 fx1, gc_p (gI_nI (by omega) (by decide)), nI_clamp (by omega)]
  have fx2 : FX x (wi s1 168 b (nI F0)) := fx1.tr (FX_wi (by unfold scrX; omega))
  rw [e20 _ fx2, b_1 (by omega), b_or]
  unfold gl
  dsimp only
  generalize hSS : S0 ||| 2 ^ b = S at *
  have hh0 : XH x y (fun k => if k = b then F0 else 0) (wi s1 168 b (nI F0)) := ⟨fx2, fun k hk => by
    dsimp only
    rw [wi_1]
    by_cases z : k = b
    · rw [if_pos ⟨rfl, z⟩, if_pos z]; exact ⟨rfl, hF0⟩
    · rw [if_neg (fun q => z q.2), if_neg z, f3, if_pos ⟨rfl, by omega⟩]; exact ⟨rfl, by decide⟩⟩
  have hs0 : Snd y S b F0 (fun k => if k = b then F0 else 0) := ⟨fun f hf => by dsimp only; rw [if_pos rfl]; exact hf, fun k f _ hq => by
    dsimp only at hq
    by_cases z : k = b
    · rw [if_pos z] at hq; rw [z]; exact (Rch_clo y S b F0).1 f hq
    · rw [if_neg z, Nat.zero_testBit] at hq; cases hq⟩
  -- rounds
  have fin : ∀ (s2 : gS) (hd : Nat → Nat), XH x y hd s2 → Snd y S b F0 hd → (∀ t, t < nT y → S.testBit t = true → hd t ||| beh y hd t = hd t) → ∃ v st', fX3_byTakings_115 (x.2.2 0 9) 20 (nI S0) s2 = some (nI v, st') ∧ FX x st' ∧ Mk y S b F0 v := by
    intro s2 hd hh hs hc
    unfold fX3_byTakings_115
    rw [Xheld h hh, bd]
    refine ⟨orA hd (nT y), s2, rfl, hh.1, ah_lt (fun k hk => (hh.2 k hk).2), fun f => ?_⟩
    rw [orA_t]
    exact ⟨fun ⟨k, k1, k2⟩ => ⟨k, k1, (Snd_all hw hb hs hc k1).mp k2⟩, fun ⟨k, k1, k2⟩ => ⟨k, k1, (Snd_all hw hb hs hc k1).mpr k2⟩⟩
  have key : ∀ d n i (c : Bool) (s2 : gS) (hd : Nat → Nat), i + d = 40 → d < n → XH x y hd s2 → Snd y S b F0 hd → (c = true → i ≤ cbT hd (nT y)) → (c = false → ∀ t, t < nT y → S.testBit t = true → hd t ||| beh y hd t = hd t) → ∃ v st', hX3_byTakings_53 (x.2.2 0 9) 20 (nI S0) n (nI S) (b2 c) (nI i) s2 = some (nI v, st') ∧ FX x st' ∧ Mk y S b F0 v := by
    intro d
    induction d with
    | zero =>
      intro n i c s2 hd e hn hh hs h1 h2
      obtain ⟨n, rfl⟩ : ∃ k, n = k + 1 := ⟨n - 1, by omega⟩
      have hi : i = 40 := by omega
      subst hi
      show ∃ v st', fX3_byTakings_53 (x.2.2 0 9) 20 (nI S0) _ (nI S) (b2 c) (nI 40) s2 = _ ∧ _
      unfold fX3_byTakings_53
      rw [if_pos (show (40 : Int32) ≤ nI 40 by decide)]
      cases c
      · exact fin s2 hd hh hs (h2 rfl)
      · -- all are held
        have c1 := h1 rfl
        have c2 := cbT_le hd (nT y)
        refine fin s2 hd hh hs (fun t ht _ => Classical.byContradiction fun w => ?_)
        have a4 : hd t ||| beh y hd t < 2 ^ 8 := Nat.or_lt_two_pow (hh.2 t ht).2 (beh_lt hw hd t)
        have g1 := or_cnt w a4
        have g2 := cbT_upd (hd := hd) (t := t) (v := hd t ||| beh y hd t) (n := nT y)
        rw [if_pos ht, if_pos ht] at g2
        have g3 := cbT_le (fun k => if k = t then hd t ||| beh y hd t else hd k) (nT y)
        omega
    | succ d ih =>
      intro n i c s2 hd e hn hh hs h1 h2
      obtain ⟨n, rfl⟩ : ∃ k, n = k + 1 := ⟨n - 1, by omega⟩
      show ∃ v st', fX3_byTakings_53 (x.2.2 0 9) 20 (nI S0) (hX3_byTakings_53 (x.2.2 0 9) 20 (nI S0) n) (nI S) (b2 c) (nI i) s2 = _ ∧ _
      unfold fX3_byTakings_53
      rw [if_neg (show ¬ 40 ≤ nI i from nI_ge (b := 40) (by omega) (by omega))]
      cases c
      · rw [if_pos zero0']
        exact fin s2 hd hh hs (h2 rfl)
      · rw [if_neg one0']
        obtain ⟨c', s3, hd', r1, r2, r3, r4, r5, r6⟩ := Xround h hh hS hs (nI S0) (nI i) (hX3_byTakings_53 (x.2.2 0 9) 20 (nI S0) n)
        rw [r1, nI_s]
        exact ih n (i + 1) c' s3 hd' (by omega) (by omega) r2 r3 (fun q => by have := r5 q; have := h1 rfl; omega) r6
  exact key 40 FU 0 true _ _ rfl (FU_gt (by decide)) hh0 hs0 (fun _ => Nat.zero_le _) (fun q => by cases q)
