/-! ===== loops, bits ===== -/
theorem lp {σ R : Type} (h : Nat → σ → Option R) (N : Nat) (P : Nat → σ → Prop) (st : ∀ n i s, i < N → P i s → ∃ s', h (n + 1) s = h n s' ∧ P (i + 1) s') :
    ∀ (i : Nat) (s : σ) (n : Nat), i ≤ N → P i s → N < n + i → ∃ s' m, h n s = h (m + 1) s' ∧ P N s' := by
  have key : ∀ d i s n, i + d = N → P i s → d < n → ∃ s' m, h n s = h (m + 1) s' ∧ P N s' := by
    intro d
    induction d with
    | zero =>
      intro i s n e p hn
      obtain ⟨m, rfl⟩ : ∃ m, n = m + 1 := ⟨n - 1, by omega⟩
      exact ⟨s, m, rfl, by rw [← show i = N by omega]; exact p⟩
    | succ d ih =>
      intro i s n e p hn
      obtain ⟨m, rfl⟩ : ∃ m, n = m + 1 := ⟨n - 1, by omega⟩
      obtain ⟨s', e1, p1⟩ := st m i s (by omega) p
      obtain ⟨s2, k, e2, p2⟩ := ih (i + 1) s' m (by omega) p1 (by omega)
      exact ⟨s2, k, e1.trans e2, p2⟩
  intro i s n h1 h2 h3
  exact key (N - i) i s n (by omega) h2 (by omega)
/-- with a way out -/
theorem lpx {σ R : Type} (h : Nat → σ → Option R) (N : Nat) (P : Nat → σ → Prop) (Q : Option R → Prop) (st : ∀ n i s, i < N → P i s → Q (h (n + 1) s) ∨ ∃ s', h (n + 1) s = h n s' ∧ P (i + 1) s') (en : ∀ n s, P N s → Q (h (n + 1) s)) :
    ∀ (i : Nat) (s : σ) (n : Nat), i ≤ N → P i s → N < n + i → Q (h n s) := by
  have key : ∀ d i s n, i + d = N → P i s → d < n → Q (h n s) := by
    intro d
    induction d with
    | zero =>
      intro i s n e p hn
      obtain ⟨m, rfl⟩ : ∃ m, n = m + 1 := ⟨n - 1, by omega⟩
      exact en m s (by rw [← show i = N by omega]; exact p)
    | succ d ih =>
      intro i s n e p hn
      obtain ⟨m, rfl⟩ : ∃ m, n = m + 1 := ⟨n - 1, by omega⟩
      rcases st m i s (by omega) p with q | ⟨s', e1, p1⟩
      · exact q
      · rw [e1]
        exact ih (i + 1) s' m (by omega) p1 (by omega)
  intro i s n h1 h2 h3
  exact key (N - i) i s n (by omega) h2 (by omega)
theorem nI_inj {a b : Nat} (ha : a < 2 ^ 31) (hb : b < 2 ^ 31) : nI a = nI b ↔ a = b :=
  ⟨fun h => by have := congrArg vN h; rwa [vN_nI ha, vN_nI hb] at this, fun h => by rw [h]⟩
theorem nI_le' {a b : Nat} (ha : a < 2 ^ 31) (hb : b < 2 ^ 31) : nI a ≤ nI b ↔ a ≤ b := by
  rw [Int32.le_iff_toInt_le, nI_toInt ha, nI_toInt hb]; omega
theorem nI_lt' {a b : Nat} (ha : a < 2 ^ 31) (hb : b < 2 ^ 31) : nI a < nI b ↔ a < b := by
  rw [Int32.lt_iff_toInt_lt, nI_toInt ha, nI_toInt hb]; omega
theorem nI_nn {a : Nat} (ha : a < 2 ^ 31) : ¬ nI a < 0 := by
  rw [Int32.lt_iff_toInt_lt, nI_toInt ha]
  show ¬ ((a : Int) < 0)
  omega
theorem nI_m1 {a : Nat} (ha : a < 2 ^ 31) : ¬ nI a = -1 := fun h => nI_nn ha (by rw [h]; decide)
theorem nI_ad (a b : Nat) : nI a + nI b = nI (a + b) := (Int32.ofNat_add a b).symm
theorem nI_s (a : Nat) : nI a + 1 = nI (a + 1) := nI_ad a 1
theorem nI_eq0 {a : Nat} (ha : a < 2 ^ 31) : nI a = 0 ↔ a = 0 := nI_inj ha (by decide)
theorem nI_bv {a : Nat} : (nI a).toBitVec = BitVec.ofNat 32 a := rfl
theorem b_or (a b : Nat) : nI a ||| nI b = nI (a ||| b) := by
  apply Int32.toBitVec_inj.mp
  rw [Int32.toBitVec_or, nI_bv, nI_bv, nI_bv]
  exact (BitVec.ofNat_or ..).symm
theorem b_and (a b : Nat) : nI a &&& nI b = nI (a &&& b) := by
  apply Int32.toBitVec_inj.mp
  rw [Int32.toBitVec_and, nI_bv, nI_bv, nI_bv]
  exact (BitVec.ofNat_and ..).symm
theorem b_31 {k : Nat} (h : k < 32) : nI k &&& 31 = nI k := by
  have := pk_andN (n := k) (by omega) (m := 31) 5 (by decide)
  rw [this, Nat.mod_eq_of_lt (by omega)]
theorem b_sm {k : Nat} (h : k < 32) : ((nI k).toBitVec.smod 32).toNat = k := by
  match k, h with
  | 0, _ => decide | 1, _ => decide | 2, _ => decide | 3, _ => decide | 4, _ => decide | 5, _ => decide | 6, _ => decide | 7, _ => decide | 8, _ => decide | 9, _ => decide | 10, _ => decide
  | 11, _ => decide | 12, _ => decide | 13, _ => decide | 14, _ => decide | 15, _ => decide | 16, _ => decide | 17, _ => decide | 18, _ => decide | 19, _ => decide | 20, _ => decide
  | 21, _ => decide | 22, _ => decide | 23, _ => decide | 24, _ => decide | 25, _ => decide | 26, _ => decide | 27, _ => decide | 28, _ => decide | 29, _ => decide | 30, _ => decide | 31, _ => decide
  | n + 32, h => exact absurd h (by omega)
theorem b_shl {n k : Nat} (h : k < 31) (hn : n * 2 ^ k < 2 ^ 32) : nI n <<< (nI k &&& 31) = nI (n * 2 ^ k) := by
  rw [b_31 (by omega)]
  exact pk_shlN _ k (b_sm (by omega)) hn
theorem b_1 {k : Nat} (h : k < 31) : 1 <<< (nI k &&& 31) = nI (2 ^ k) := by
  have h2 : (2 : Nat) ^ k < 2 ^ 31 := Nat.pow_lt_pow_right (by decide) h
  have := b_shl (n := 1) h (by omega)
  rwa [Nat.one_mul] at this
theorem b_shr {n k : Nat} (hn : n < 2 ^ 31) (h : k < 31) : nI n >>> (nI k &&& 31) = nI (n / 2 ^ k) := by
  rw [b_31 (by omega)]
  exact pk_shrN hn _ k (b_sm (by omega))
def b2 (b : Bool) : Int32 := if b then 1 else 0
theorem b2_0 {b : Bool} : b2 b = 0 ↔ b = false := by cases b <;> decide
theorem b2_1 {b : Bool} : b2 b = 1 ↔ b = true := by cases b <;> decide
theorem b2_B (b : Bool) : gB (b2 b) := by cases b <;> decide
theorem b_bit {n k : Nat} (hn : n < 2 ^ 31) (h : k < 31) : (nI n >>> (nI k &&& 31)) &&& 1 = b2 (n.testBit k) := by
  rw [b_shr hn h]
  have h1 : n / 2 ^ k ≤ n := Nat.div_le_self _ _
  have := pk_andN (n := n / 2 ^ k) (by omega) (m := 1) 1 (by decide)
  rw [this, Nat.testBit_eq_decide_div_mod_eq, Nat.pow_one]
  have h3 : n / 2 ^ k % 2 < 2 := Nat.mod_lt _ (by decide)
  generalize n / 2 ^ k % 2 = r at h3 ⊢
  match r, h3 with
  | 0, _ => rfl
  | 1, _ => rfl
  | r + 2, h => omega
/-- the bits below n for which p holds -/
def bS (p : Nat → Bool) : Nat → Nat
  | 0 => 0
  | n + 1 => bS p n ||| (if p n then 2 ^ n else 0)
theorem bS_t (p : Nat → Bool) (n i : Nat) : (bS p n).testBit i = (decide (i < n) && p i) := by
  induction n with
  | zero => simp [bS]
  | succ n ih =>
    rw [bS, Nat.testBit_or, ih]
    by_cases h : p n
    · rw [if_pos h, Nat.testBit_two_pow]
      by_cases e : n = i
      · subst e; simp [h]
      · have : decide (i < n) = decide (i < n + 1) := by
          by_cases q : i < n
          · simp [q, show i < n + 1 by omega]
          · simp [q, show ¬ i < n + 1 by omega]
        simp [e, this]
    · rw [if_neg h, Nat.zero_testBit, Bool.or_false]
      by_cases e : i = n
      · subst e; simp [h]
      · have : decide (i < n) = decide (i < n + 1) := by
          by_cases q : i < n
          · simp [q, show i < n + 1 by omega]
          · simp [q, show ¬ i < n + 1 by omega]
        rw [this]
theorem bS_lt (p : Nat → Bool) (n : Nat) : bS p n < 2 ^ n := by
  apply Nat.lt_pow_two_of_testBit
  intro i hi
  rw [bS_t]
  simp [show ¬ i < n by omega]
theorem bS_eq {p q : Nat → Bool} {n : Nat} (h : ∀ i, i < n → p i = q i) : bS p n = bS q n := by
  induction n with
  | zero => rfl
  | succ n ih => rw [bS, bS, ih (fun i hi => h i (by omega)), h n (by omega)]
theorem bS_of {p : Nat → Bool} {n v : Nat} (h : ∀ i, v.testBit i = (decide (i < n) && p i)) : v = bS p n :=
  Nat.eq_of_testBit_eq fun i => by rw [h, bS_t]
theorem lt_of_bits {v n : Nat} {p : Nat → Bool} (h : ∀ i, v.testBit i = (decide (i < n) && p i)) : v < 2 ^ n := by
  rw [bS_of h]; exact bS_lt _ _
theorem lt31 {v n : Nat} (h : v < 2 ^ n) (hn : n ≤ 31 := by decide) : v < 2 ^ 31 := Nat.lt_of_lt_of_le h (Nat.pow_le_pow_right (by decide) hn)
/-- one more bit -/
theorem bS_s1 {p : Nat → Bool} {n : Nat} (hp : p n = true) (hn : n < 31) : nI (bS p n) ||| (1 <<< (nI n &&& 31)) = nI (bS p (n + 1)) := by
  rw [b_1 hn, b_or, bS, if_pos hp]
theorem bS_s0 {p : Nat → Bool} {n : Nat} (hp : p n = false) : nI (bS p n) = nI (bS p (n + 1)) := by
  rw [bS, if_neg (by simp [hp]), Nat.or_zero]
theorem bS_s2 {p : Nat → Bool} {n : Nat} (hn : n < 31) : nI (bS p n) ||| (b2 (p n) <<< (nI n &&& 31)) = nI (bS p (n + 1)) := by
  cases hp : p n with
  | true => exact bS_s1 hp hn
  | false =>
    rw [← bS_s0 hp]
    show nI (bS p n) ||| (nI 0 <<< (nI n &&& 31)) = _
    rw [b_shl hn (by omega), Nat.zero_mul, b_or, Nat.or_zero]
/-! ===== what the class and the reference look up ===== -/
section LK
variable {x y : gS} {t : Nat}
theorem Xtri (h : WFy y) (hx : XTs x t y) {k : Nat} (hk : k < nT y) : fX8_hasTribe t (nI k) x = some (1, x) := by
  have h1 := h.1.2.1
  refine (hasTri x t _).1 ?_
  rw [hx.2.1, h1.1]
  have h2 : vN (y.1 0 49) < 6 := h1.2
  have hk : k < vN (y.1 0 49) := hk
  exact ⟨nI_nn (by omega), by rw [nI_le' (by omega) (by omega)]; omega⟩
theorem Xfig (h : WFy y) (hx : XTs x t y) {k : Nat} (hk : k < nF y) : fX8_hasFigure t (nI k) x = some (1, x) := by
  have h1 := h.1.1
  refine (hasFig x t _).1 ?_
  rw [hx.1, h1.1]
  have h2 : vN (y.1 0 48) < 9 := h1.2
  have hk : k < vN (y.1 0 48) := hk
  exact ⟨nI_nn (by omega), by rw [nI_le' (by omega) (by omega)]; omega⟩
theorem Xmov (h : WFy y) (hx : XTs x t y) {k : Nat} (hk : k < nM y) : fX8_hasMove t (nI k) x = some (1, x) := by
  have h1 := h.1.2.2.1
  refine (hasMov x t _).1 ?_
  rw [hx.2.2.1, h1.1]
  have h2 : vN (y.1 0 50) < 17 := h1.2
  have hk : k < vN (y.1 0 50) := hk
  exact ⟨nI_nn (by omega), by rw [nI_le' (by omega) (by omega)]; omega⟩
theorem nF9 (h : WFy y) : nF y < 9 := h.1.1.2
theorem nT6 (h : WFy y) : nT y < 6 := h.1.2.1.2
theorem nM17 (h : WFy y) : nM y < 17 := h.1.2.2.1.2
theorem Xcan (h : WFy y) (hx : XT x t y) {k m : Nat} (hk : k < nT y) (hm : m < nM y) : fX8_can t (nI k) (nI m) x = some (b2 (cnb y k m), x) := by
  have a1 := nT6 h
  have a2 := nM17 h
  obtain ⟨-, -, -, b4, b5, -⟩ := hx.2.2.2 k hk
  unfold fX8_can
  rw [Xtri h hx.1 hk, bd]
  dsimp only
  rw [if_neg one0, Xmov h hx.1 hm, bd]
  dsimp only
  rw [if_neg one0, gc_p (gI_nI (by omega) (by decide)), nI_clamp (by omega), b4.1, b_bit (by have := b4.2; omega) (by omega), b5]
  simp only [hm, decide_true, Bool.true_and]
  cases cnb y k m <;> rfl
theorem Ycan (h : WFy y) {k m : Nat} (hk : k < nT y) (hm : m < nM y) : fX11_can (nI k) (nI m) y = some (b2 (cnb y k m), y) := by
  have a1 := nT6 h
  have a2 := nM17 h
  obtain ⟨-, b2', b3, -⟩ := h.2.2 k hk
  obtain ⟨-, -, b4, -⟩ := h.2.1 m hm
  unfold fX11_can fX11_canBy
  rw [gc_p (gI_nI (by omega) (by decide)), gc_p (gI_nI (by omega) (by decide)), gc_p (gI_nI (by omega) (by decide)), gc_p (gI_nI (by omega) (by decide))]
  rw [nI_clamp (show k < 2 ^ 31 by omega), nI_clamp (show m < 2 ^ 31 by omega)]
  unfold fX11_canBy_28
  have hf := b4.2
  have hs : vN (y.1 13 k) < 2 ^ 31 := by have := b2'.2; omega
  have e9 : 9 - y.1 23 m = nI (9 - fg y m) := by
    rw [b4.1]
    exact pk_sub (a := 9) (by omega)
  unfold cnb
  by_cases hb : y.1 27 k = 0
  · rw [if_pos hb, if_neg (show ¬ y.1 27 k = 1 by rw [hb]; decide)]
    rw [b4.1, b2'.1, b_bit hs (by omega)]
    cases hv : (vN (y.1 13 k)).testBit (vN (y.1 23 m)) <;> simp [b2, hv, gc_p, gc, fg, sf]
  · have hb1 : y.1 27 k = 1 := b3.resolve_left hb
    rw [if_neg hb, if_pos hb1, e9, b2'.1, b_bit hs (by omega)]
    cases hv : (vN (y.1 13 k)).testBit (9 - fg y m) <;> simp [b2, hv, gc_p, gc, fg, sf]
end LK
