/-! ===== way: how far it is ===== -/
/-- scratch and what lies there -/
def FXw (x x' : gS) : Prop := x'.2.2 = x.2.2 ∧ ∀ k j, ¬ (scrX k j ∨ (k = 150 ∧ j = 7) ∨ k = 152) → x'.1 k j = x.1 k j
def FYw (y y' : gS) : Prop := ∀ k j, ¬ (scrY k j ∨ (k = 0 ∧ j = 62) ∨ k = 32) → y'.1 k j = y.1 k j
theorem FXw.rf (x : gS) : FXw x x := ⟨rfl, fun _ _ _ => rfl⟩
theorem FYw.rf (y : gS) : FYw y y := fun _ _ _ => rfl
theorem FXw.tr {x x' x'' : gS} (h1 : FXw x x') (h2 : FXw x' x'') : FXw x x'' := ⟨h2.1.trans h1.1, fun k j h => (h2.2 k j h).trans (h1.2 k j h)⟩
theorem FYw.tr {x x' x'' : gS} (h1 : FYw x x') (h2 : FYw x' x'') : FYw x x'' := fun k j h => (h2 k j h).trans (h1 k j h)
theorem FX.w {x x' : gS} (h : FX x x') : FXw x x' := ⟨h.1, fun k j q => h.2 k j fun z => q (Or.inl z)⟩
theorem FY.w {x x' : gS} (h : FY x x') : FYw x x' := fun k j q => h k j fun z => q (Or.inl z)
theorem FXw_wi {x : gS} {k j : Nat} {v : Int32} (h : scrX k j ∨ (k = 150 ∧ j = 7) ∨ k = 152) : FXw x (wi x k j v) := ⟨rfl, fun a b hs => by
  rw [wi_1]
  by_cases e : a = k ∧ b = j
  · exact absurd (e.1 ▸ e.2 ▸ h) hs
  · rw [if_neg e]⟩
theorem FYw_wi {x : gS} {k j : Nat} {v : Int32} (h : scrY k j ∨ (k = 0 ∧ j = 62) ∨ k = 32) : FYw x (wi x k j v) := fun a b hs => by
  rw [wi_1]
  by_cases e : a = k ∧ b = j
  · exact absurd (e.1 ▸ e.2 ▸ h) hs
  · rw [if_neg e]
section FW
variable {x y s : gS}
theorem FXw.xt (hf : FXw x s) (h : Inv x y) : XT s (x.2.2 0 9) y := by
  have hX := hf.2
  unfold scrX at hX
  exact fr_xt (CY := fun _ _ => False) (y := y) hX (fun _ _ _ => rfl) (by intros; omega) (fun _ _ _ h => h) h.t4 h.xt
theorem FXw.xs (hf : FXw x s) (h : Inv x y) : XS s (x.2.2 0 9) y := by
  have hX := hf.2
  unfold scrX at hX
  exact fr_xs (CY := fun _ _ => False) (y := y) hX (fun _ _ _ => rfl) (by intros; omega) (fun _ _ _ h => h) h.t4 h.xs
theorem FXw.now (hf : FXw x s) (j : Nat) : s.1 20 j = x.1 20 j := hf.2 20 j (by unfold scrX; omega)
theorem FYw.wf (hf : FYw y s) (hw : WFy y) : WFy s := fr_wf (x := s) (x' := s) (CX := fun _ _ => False) (fun _ _ _ => rfl) hf (fun _ _ h => h.elim) (by unfold scrY; intros; omega) hw
theorem FYw.nT (h : FYw y s) : nT s = nT y := by show vN (s.1 0 49) = vN (y.1 0 49); rw [h 0 49 (by unfold scrY; omega)]
theorem FYw.nF (h : FYw y s) : nF s = nF y := by show vN (s.1 0 48) = vN (y.1 0 48); rw [h 0 48 (by unfold scrY; omega)]
theorem FYw.nM (h : FYw y s) : nM s = nM y := by show vN (s.1 0 50) = vN (y.1 0 50); rw [h 0 50 (by unfold scrY; omega)]
theorem FYw.fr (h : FYw y s) (m : Nat) : fr s m = fr y m := by show vN (s.1 21 m) = vN (y.1 21 m); rw [h 21 m (by unfold scrY; omega)]
theorem FYw.tO (h : FYw y s) (m : Nat) : tO s m = tO y m := by show vN (s.1 22 m) = vN (y.1 22 m); rw [h 22 m (by unfold scrY; omega)]
theorem FYw.cnb (h : FYw y s) (k m : Nat) : cnb s k m = cnb y k m := by
  show (!(vN (s.1 13 k)).testBit (if s.1 27 k = 1 then 9 - vN (s.1 23 m) else vN (s.1 23 m))) = (!(vN (y.1 13 k)).testBit (if y.1 27 k = 1 then 9 - vN (y.1 23 m) else vN (y.1 23 m)))
  rw [h 13 k (by unfold scrY; omega), h 27 k (by unfold scrY; omega), h 23 m (by unfold scrY; omega)]
theorem FYw.now (h : FYw y s) (j : Nat) : s.1 28 j = y.1 28 j := h 28 j (by unfold scrY; omega)
theorem FYw.sl (h : FYw y s) (k m : Nat) : slI s k m = slI y k m :=
  slI_eq (fun j => h 5 j (by unfold scrY; omega)) (fun j => h 6 j (by unfold scrY; omega)) (fun j => h 12 j (by unfold scrY; omega)) (fun j => h 24 j (by unfold scrY; omega)) (h 0 18 (by unfold scrY; omega)) (h 28 2 (by unfold scrY; omega)) (h 28 3 (by unfold scrY; omega)) (h 28 16 (by unfold scrY; omega)) k m
end FW
/-- by n takings at most it comes to g -/
def wy (y : gS) (o b g : Nat) : Nat → Nat → Nat → Prop
  | 0 => fun _ f => f = g
  | n + 1 => fun t f => wy y o b g n t f ∨ ∃ m, m < nM y ∧ fr y m = f ∧ cnb y (pr o b t) m = true ∧ wy y o b g n (1 - t) (tO y m)
section WY
variable {y : gS} {o b g : Nat}
theorem wy_mono {n k t f : Nat} (h : wy y o b g n t f) (hk : n ≤ k) : wy y o b g k t f := by
  induction k with
  | zero => rw [show n = 0 by omega] at h; exact h
  | succ k ih =>
    by_cases e : n = k + 1
    · rw [← e]; exact h
    · exact Or.inl (ih (by omega))
theorem wy_F (hw : WFy y) (hg : g < nF y) {n : Nat} : ∀ {t f : Nat}, wy y o b g n t f → f < nF y := by
  induction n with
  | zero => intro t f h; rw [show f = g from h]; exact hg
  | succ n ih =>
    intro t f h
    rcases h with h | ⟨m, h1, h2, -⟩
    · exact ih h
    · rw [← h2]; exact fr_lt hw h1
def Stb (y : gS) (o b g n : Nat) : Prop := ∀ t f, t < 2 → wy y o b g (n + 1) t f → wy y o b g n t f
theorem Stb_all {n : Nat} (h : Stb y o b g n) : ∀ k t f, t < 2 → wy y o b g (n + k) t f → wy y o b g n t f := by
  intro k
  induction k with
  | zero => intro t f _ h; exact h
  | succ k ih =>
    intro t f ht hk
    rcases hk with hk | ⟨m, h1, h2, h3, h4⟩
    · exact ih t f ht hk
    · exact h t f ht (Or.inr ⟨m, h1, h2, h3, ih (1 - t) _ (by omega) h4⟩)
noncomputable def wyB (y : gS) (o b g n i : Nat) : Bool := @decide (wy y o b g n (i / 8) (i % 8)) (Classical.propDecidable _)
theorem wyB_t {n i : Nat} : wyB y o b g n i = true ↔ wy y o b g n (i / 8) (i % 8) := by
  unfold wyB
  exact @decide_eq_true_iff _ (Classical.propDecidable _)
theorem wy_cnt (hw : WFy y) (hg : g < nF y) (n : Nat) : (∃ k, k ≤ n ∧ Stb y o b g k) ∨ n + 1 ≤ cnt (wyB y o b g n) 16 := by
  have hF := nF9 hw
  have up : ∀ n i, i < 16 → wyB y o b g n i = true → wyB y o b g (n + 1) i = true := fun n i _ h => wyB_t.mpr (Or.inl (wyB_t.mp h))
  induction n with
  | zero =>
    right
    have := cnt_lt (p := fun _ => false) (q := wyB y o b g 0) (n := 16) (j := g) (fun _ _ h => by cases h) (by omega) rfl (wyB_t.mpr (show g % 8 = g by omega))
    omega
  | succ n ih =>
    rcases ih with ⟨k, h1, h2⟩ | ih
    · exact Or.inl ⟨k, by omega, h2⟩
    · by_cases hs : Stb y o b g n
      · exact Or.inl ⟨n, by omega, hs⟩
      · right
        have : ∃ t f, t < 2 ∧ wy y o b g (n + 1) t f ∧ ¬ wy y o b g n t f := Classical.byContradiction fun q => hs fun t f ht h => Classical.byContradiction fun z => q ⟨t, f, ht, h, z⟩
        obtain ⟨t, f, ht, h1, h2⟩ := this
        have hf := wy_F hw hg h1
        have e1 : (8 * t + f) / 8 = t := by omega
        have e2 : (8 * t + f) % 8 = f := by omega
        have := cnt_lt (p := wyB y o b g n) (q := wyB y o b g (n + 1)) (n := 16) (j := 8 * t + f) (up n) (by omega) (by
          cases z : wyB y o b g n (8 * t + f)
          · rfl
          · exact absurd (wyB_t.mp z) (by rw [e1, e2]; exact h2)) (wyB_t.mpr (by rw [e1, e2]; exact h1))
        omega
theorem wy16 (hw : WFy y) (hg : g < nF y) {n t f : Nat} (ht : t < 2) (h : wy y o b g n t f) : wy y o b g 16 t f := by
  rcases wy_cnt (o := o) (b := b) hw hg 16 with ⟨k, h1, h2⟩ | q
  · refine wy_mono (n := k) ?_ h1
    by_cases z : n ≤ k
    · exact wy_mono h z
    · exact Stb_all h2 (n - k) t f ht (by rw [show k + (n - k) = n by omega]; exact h)
  · have := cnt_le (wyB y o b g 16) 16
    omega
/-- what the numbers of A say is so -/
def Sn (y : gS) (o b g I : Nat) (A : Nat → Nat → Nat) : Prop := ∀ t f, t < 2 → f < 8 → A t f < I → wy y o b g (A t f) t f
def Cn (y : gS) (o b g : Nat) (A : Nat → Nat → Nat) (n : Nat) : Prop := ∀ k t f, k ≤ n → t < 2 → wy y o b g k t f → A t f ≤ k
def Ex (y : gS) (o b g I : Nat) (A : Nat → Nat → Nat) : Prop := Sn y o b g I A ∧ ∀ n, Cn y o b g A n
theorem Cn_16 (hw : WFy y) (hg : g < nF y) {A : Nat → Nat → Nat} (h : Cn y o b g A 16) (n : Nat) : Cn y o b g A n := fun k t f hk ht hy => by
  by_cases z : k ≤ 16
  · exact h k t f z ht hy
  · have := h 16 t f (Nat.le_refl _) ht (wy16 hw hg ht hy)
    omega
/-- one round makes it better by one -/
theorem Cn_s {A A' : Nat → Nat → Nat} {n : Nat} (h : Cn y o b g A n) (h1 : ∀ t f, t < 2 → A' t f ≤ A t f) (h2 : ∀ t m, t < 2 → m < nM y → cnb y (pr o b t) m = true → A' t (fr y m) ≤ A (1 - t) (tO y m) + 1) : Cn y o b g A' (n + 1) := fun k t f hk ht hy => by
  match k, hk, hy with
  | 0, _, hy =>
    have := h 0 t f (by omega) ht hy
    have := h1 t f ht
    omega
  | k + 1, hk, hy =>
    rcases hy with hy | ⟨m, m1, m2, m3, m4⟩
    · have := h k t f (by omega) ht hy
      have := h1 t f ht
      omega
    · have := h k (1 - t) (tO y m) (by omega) (by omega) m4
      have := h2 t m ht m1 m3
      rw [m2] at this
      omega
theorem Cn_cl {A : Nat → Nat → Nat} (h0 : ∀ t, t < 2 → A t g = 0) (h2 : ∀ t m, t < 2 → m < nM y → cnb y (pr o b t) m = true → A t (fr y m) ≤ A (1 - t) (tO y m) + 1) (n : Nat) : Cn y o b g A n := by
  induction n with
  | zero =>
    intro k t f hk ht hy
    rw [show k = 0 by omega] at hy ⊢
    rw [show f = g from hy, h0 t ht]
    exact Nat.le_refl _
  | succ n ih => exact Cn_s ih (fun _ _ _ => Nat.le_refl _) h2
theorem Ex_eq (hw : WFy y) (hg : g < nF y) {A L : Nat → Nat → Nat} {I J : Nat} (hA : Ex y o b g I A) (hL : Ex y o b g J L) (hJ : 16 < J) {t f : Nat} (ht : t < 2) (hf : f < 8) (h : A t f < I) : L t f = A t f ∧ A t f ≤ 16 := by
  have h1 := hA.1 t f ht hf h
  have h2 := hL.2 _ _ t f (Nat.le_refl _) ht h1
  have h3 := wy16 hw hg ht h1
  have h4 := hL.2 _ _ t f (Nat.le_refl _) ht h3
  have h5 := hA.2 _ _ t f (Nat.le_refl _) ht h3
  have h6 := hL.1 t f ht hf (by omega)
  have h7 := hA.2 _ _ t f (Nat.le_refl _) ht h6
  omega
/-- the first for which p holds -/
noncomputable def nx (p : Nat → Prop) : Nat := Classical.epsilon fun k => p k ∧ ∀ j, j < k → ¬ p j
theorem nx_s {p : Nat → Prop} {m : Nat} (h : p m) : p (nx p) ∧ ∀ j, j < nx p → ¬ p j := by
  have : ∀ n m, m ≤ n → p m → ∃ k, p k ∧ ∀ j, j < k → ¬ p j := by
    intro n
    induction n with
    | zero => intro m hm hp; exact ⟨m, hp, fun j hj => by omega⟩
    | succ n ih =>
      intro m hm hp
      by_cases z : ∃ j, j < m ∧ p j
      · obtain ⟨j, h1, h2⟩ := z
        exact ih j (by omega) h2
      · exact ⟨m, hp, fun j hj q => z ⟨j, hj, q⟩⟩
  exact Classical.epsilon_spec (this m m (Nat.le_refl _) h)
/-- a move by which it comes nearer -/
def mvP (y : gS) (o b : Nat) (A : Nat → Nat → Nat) (t f d : Nat) (m : Nat) : Prop := m < nM y ∧ fr y m = f ∧ cnb y (pr o b t) m = true ∧ A (1 - t) (tO y m) = d
theorem mvP_ex (hw : WFy y) {A : Nat → Nat → Nat} {I : Nat} (hA : Ex y o b g I A) {t f d : Nat} (ht : t < 2) (hf : f < 8) (hI : d + 1 < I) (h : A t f = d + 1) : ∃ m, mvP y o b A t f d m := by
  have hF := nF9 hw
  have h1 := hA.1 t f ht hf (by omega)
  rw [h] at h1
  rcases h1 with h1 | ⟨m, m1, m2, m3, m4⟩
  · have := hA.2 _ _ t f (Nat.le_refl _) ht h1
    omega
  · refine ⟨m, m1, m2, m3, ?_⟩
    have w := tO_lt hw m1
    have a1 := hA.2 _ _ (1 - t) _ (Nat.le_refl _) (by omega) m4
    have h5 := hA.1 (1 - t) (tO y m) (by omega) (by omega) (by omega)
    have h6 : wy y o b g (A (1 - t) (tO y m) + 1) t f := Or.inr ⟨m, m1, m2, m3, h5⟩
    have := hA.2 _ _ t f (Nat.le_refl _) ht h6
    omega
/-- the figures on the way, and the moves -/
noncomputable def fgs (y : gS) (o b : Nat) (A : Nat → Nat → Nat) (n f : Nat) : Nat → Nat
  | 0 => f
  | i + 1 => tO y (nx (mvP y o b A (i % 2) (fgs y o b A n f i) (n - i - 1)))
noncomputable def mvs (y : gS) (o b : Nat) (A : Nat → Nat → Nat) (n f i : Nat) : Nat := nx (mvP y o b A (i % 2) (fgs y o b A n f i) (n - i - 1))
theorem pth (hw : WFy y) {A : Nat → Nat → Nat} (hA : Ex y o b g 99 A) {f : Nat} (hf : f < nF y) (hn : A 0 f < 99) : ∀ i, i ≤ A 0 f → fgs y o b A (A 0 f) f i < nF y ∧ A (i % 2) (fgs y o b A (A 0 f) f i) = A 0 f - i := by
  have hF := nF9 hw
  intro i
  induction i with
  | zero => intro _; exact ⟨hf, rfl⟩
  | succ i ih =>
    intro hi
    obtain ⟨i1, i2⟩ := ih (by omega)
    have ht : i % 2 < 2 := Nat.mod_lt _ (by decide)
    obtain ⟨m, hm⟩ := mvP_ex hw hA (d := A 0 f - i - 1) ht (by omega) (by omega) (i2.trans (by omega))
    obtain ⟨⟨p1, p2, p3, p4⟩, -⟩ := nx_s hm
    refine ⟨tO_lt hw p1, ?_⟩
    rw [show (i + 1) % 2 = 1 - i % 2 by omega, show A 0 f - (i + 1) = A 0 f - i - 1 by omega]
    exact p4
theorem pthm (hw : WFy y) {A : Nat → Nat → Nat} (hA : Ex y o b g 99 A) {f : Nat} (hf : f < nF y) (hn : A 0 f < 99) {i : Nat} (hi : i < A 0 f) : mvP y o b A (i % 2) (fgs y o b A (A 0 f) f i) (A 0 f - i - 1) (mvs y o b A (A 0 f) f i) ∧ ∀ j, j < mvs y o b A (A 0 f) f i → ¬ mvP y o b A (i % 2) (fgs y o b A (A 0 f) f i) (A 0 f - i - 1) j := by
  have hF := nF9 hw
  obtain ⟨i1, i2⟩ := pth hw hA hf hn i (by omega)
  have ht : i % 2 < 2 := Nat.mod_lt _ (by decide)
  obtain ⟨m, hm⟩ := mvP_ex hw hA (d := A 0 f - i - 1) ht (by omega) (by omega) (i2.trans (by omega))
  exact nx_s hm
end WY
