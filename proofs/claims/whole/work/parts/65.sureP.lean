/-! ===== surest: rows of moves, and the best of them ===== -/
section SP
variable (y : gS) (o b g : Nat)
/-- of 100, that he does not slip -/
def od (t m : Nat) : Nat := 100 - vN (slI y (pr o b t) m)
def pv : Nat → Nat → Nat → Nat → Option Nat
  | 0 => fun _ f _ => if f = g then some 1 else none
  | n + 1 => fun t f r => if fr y (r / nM y ^ n) = f ∧ cnb y (pr o b t) (r / nM y ^ n) = true then (pv n (1 - t) (tO y (r / nM y ^ n)) (r % nM y ^ n)).map (fun v => od y o b t (r / nM y ^ n) * v) else none
def omx : Option Nat → Nat → Option Nat
  | none, v => some v
  | some u, v => some (if u < v then v else u)
def bsF (R : Nat → Option Nat) (t f : Nat) : Nat → Option Nat
  | 0 => none
  | m + 1 => if fr y m = f ∧ cnb y (pr o b t) m = true then (match R (tO y m) with | none => bsF R t f m | some v => omx (bsF R t f m) (od y o b t m * v)) else bsF R t f m
def bsg : Nat → Nat → Nat → Option Nat
  | 0 => fun _ f => if f = g then some 1 else none
  | n + 1 => fun t f => bsF y o b (bsg n (1 - t)) t f (nM y)
end SP
section SP
variable {y : gS} {o b g : Nat}
theorem pv_0 (t f r : Nat) : pv y o b g 0 t f r = if f = g then some 1 else none := rfl
theorem pv_s (n t f r : Nat) : pv y o b g (n + 1) t f r = if fr y (r / nM y ^ n) = f ∧ cnb y (pr o b t) (r / nM y ^ n) = true then (pv y o b g n (1 - t) (tO y (r / nM y ^ n)) (r % nM y ^ n)).map (fun v => od y o b t (r / nM y ^ n) * v) else none := rfl
theorem bsg_0 (t f : Nat) : bsg y o b g 0 t f = if f = g then some 1 else none := rfl
theorem od_le (t m : Nat) : od y o b t m ≤ 100 := by unfold od; omega
theorem bsF_ex {R : Nat → Option Nat} {t f n w : Nat} (h : bsF y o b R t f n = some w) : ∃ m v, m < n ∧ fr y m = f ∧ cnb y (pr o b t) m = true ∧ R (tO y m) = some v ∧ w = od y o b t m * v := by
  induction n generalizing w with
  | zero => cases h
  | succ n ih =>
    rw [bsF] at h
    by_cases z : fr y n = f ∧ cnb y (pr o b t) n = true
    · rw [if_pos z] at h
      cases hR : R (tO y n) with
      | none =>
        rw [hR] at h
        obtain ⟨m, v, h1, h2⟩ := ih h
        exact ⟨m, v, by omega, h2⟩
      | some v =>
        rw [hR] at h
        dsimp only at h
        cases hB : bsF y o b R t f n with
        | none =>
          rw [hB] at h
          exact ⟨n, v, by omega, z.1, z.2, hR, (Option.some.inj h).symm⟩
        | some u =>
          rw [hB] at h
          have h := Option.some.inj h
          by_cases w2 : u < od y o b t n * v
          · rw [if_pos w2] at h
            exact ⟨n, v, by omega, z.1, z.2, hR, h.symm⟩
          · rw [if_neg w2] at h
            obtain ⟨m, v, h1, h2⟩ := ih (w := w) (by rw [hB, h])
            exact ⟨m, v, by omega, h2⟩
    · rw [if_neg z] at h
      obtain ⟨m, v, h1, h2⟩ := ih h
      exact ⟨m, v, by omega, h2⟩
theorem omx_le (a : Option Nat) (v : Nat) : ∃ w, omx a v = some w ∧ v ≤ w ∧ ∀ u, a = some u → u ≤ w := by
  cases a with
  | none => exact ⟨v, rfl, Nat.le_refl _, fun u h => by cases h⟩
  | some u =>
    refine ⟨_, rfl, ?_, fun u' h => ?_⟩
    · split <;> omega
    · rw [← Option.some.inj h]
      split <;> omega
theorem bsF_le {R : Nat → Option Nat} {t f n m v : Nat} (hm : m < n) (h1 : fr y m = f) (h2 : cnb y (pr o b t) m = true) (h3 : R (tO y m) = some v) : ∃ w, bsF y o b R t f n = some w ∧ od y o b t m * v ≤ w := by
  induction n with
  | zero => omega
  | succ n ih =>
    rw [bsF]
    by_cases e : m = n
    · subst e
      rw [if_pos ⟨h1, h2⟩, h3]
      obtain ⟨w, p1, p2, -⟩ := omx_le (bsF y o b R t f m) (od y o b t m * v)
      exact ⟨w, p1, p2⟩
    · obtain ⟨w, p1, p2⟩ := ih (by omega)
      by_cases z : fr y n = f ∧ cnb y (pr o b t) n = true
      · rw [if_pos z]
        cases hR : R (tO y n) with
        | none => exact ⟨w, p1, p2⟩
        | some v2 =>
          obtain ⟨w2, g1, g2, g3⟩ := omx_le (bsF y o b R t f n) (od y o b t n * v2)
          exact ⟨w2, g1, Nat.le_trans p2 (g3 w p1)⟩
      · rw [if_neg z]; exact ⟨w, p1, p2⟩
theorem mulp {n r M : Nat} (h : r < M ^ (n + 1)) : 0 < M ^ n ∧ r / M ^ n < M ∧ r % M ^ n < M ^ n := by
  rw [Nat.pow_succ] at h
  have h1 : 0 < M ^ n := Nat.pos_of_ne_zero fun z => by rw [z, Nat.zero_mul] at h; omega
  exact ⟨h1, Nat.div_lt_of_lt_mul h, Nat.mod_lt _ h1⟩
theorem mulq {n m r M : Nat} (hm : m < M) (h : r < M ^ n) : m * M ^ n + r < M ^ (n + 1) ∧ (m * M ^ n + r) / M ^ n = m ∧ (m * M ^ n + r) % M ^ n = r := by
  have h1 : 0 < M ^ n := by omega
  have h2 : (m + 1) * M ^ n ≤ M * M ^ n := Nat.mul_le_mul_right _ hm
  rw [Nat.add_mul, Nat.one_mul] at h2
  refine ⟨?_, ?_, ?_⟩
  · rw [Nat.pow_succ, Nat.mul_comm (M ^ n) M]; omega
  · rw [Nat.add_comm, Nat.add_mul_div_right _ _ h1, Nat.div_eq_of_lt h, Nat.zero_add]
  · rw [Nat.add_comm, Nat.add_mul_mod_self_right, Nat.mod_eq_of_lt h]
theorem pvS {n t f r : Nat} {v : Nat} (h : pv y o b g (n + 1) t f r = some v) : fr y (r / nM y ^ n) = f ∧ cnb y (pr o b t) (r / nM y ^ n) = true ∧ ∃ v1, pv y o b g n (1 - t) (tO y (r / nM y ^ n)) (r % nM y ^ n) = some v1 ∧ v = od y o b t (r / nM y ^ n) * v1 := by
  rw [pv_s] at h
  by_cases z : fr y (r / nM y ^ n) = f ∧ cnb y (pr o b t) (r / nM y ^ n) = true
  · rw [if_pos z] at h
    cases hp : pv y o b g n (1 - t) (tO y (r / nM y ^ n)) (r % nM y ^ n) with
    | none => rw [hp] at h; cases h
    | some v1 =>
      rw [hp] at h
      exact ⟨z.1, z.2, v1, rfl, (Option.some.inj h).symm⟩
  · rw [if_neg z] at h; cases h
theorem pvI {n t f m r v1 : Nat} (hm : m < nM y) (hr : r < nM y ^ n) (h1 : fr y m = f) (h2 : cnb y (pr o b t) m = true) (h3 : pv y o b g n (1 - t) (tO y m) r = some v1) : pv y o b g (n + 1) t f (m * nM y ^ n + r) = some (od y o b t m * v1) := by
  obtain ⟨-, e1, e2⟩ := mulq hm hr
  rw [pv_s, e1, e2, if_pos ⟨h1, h2⟩, h3]; rfl
theorem pv_le {n : Nat} : ∀ {t f r v : Nat}, pv y o b g n t f r = some v → r < nM y ^ n → ∃ w, bsg y o b g n t f = some w ∧ v ≤ w := by
  induction n with
  | zero => intro t f r v h _; exact ⟨v, h, Nat.le_refl _⟩
  | succ n ih =>
    intro t f r v h hr
    obtain ⟨-, r1, r2⟩ := mulp hr
    obtain ⟨h1, h2, v1, h3, h4⟩ := pvS h
    obtain ⟨w1, g1, g2⟩ := ih h3 r2
    obtain ⟨w, p1, p2⟩ := bsF_le (R := bsg y o b g n (1 - t)) r1 h1 h2 g1
    refine ⟨w, p1, ?_⟩
    rw [h4]
    exact Nat.le_trans (Nat.mul_le_mul_left _ g2) p2
theorem bsg_ex {n : Nat} : ∀ {t f w : Nat}, bsg y o b g n t f = some w → ∃ r, r < nM y ^ n ∧ pv y o b g n t f r = some w := by
  induction n with
  | zero => intro t f w h; exact ⟨0, by rw [Nat.pow_zero]; omega, h⟩
  | succ n ih =>
    intro t f w h
    obtain ⟨m, v, h1, h2, h3, h4, h5⟩ := bsF_ex h
    obtain ⟨r, r1, r2⟩ := ih h4
    exact ⟨m * nM y ^ n + r, (mulq h1 r1).1, by rw [h5]; exact pvI h1 r1 h2 h3 r2⟩
theorem bsg_le {n : Nat} : ∀ {t f w : Nat}, bsg y o b g n t f = some w → w ≤ 100 ^ n := by
  induction n with
  | zero =>
    intro t f w h
    rw [bsg_0] at h
    split at h
    · rw [← Option.some.inj h, Nat.pow_zero]; exact Nat.le_refl _
    · cases h
  | succ n ih =>
    intro t f w h
    obtain ⟨m, v, -, -, -, h4, h5⟩ := bsF_ex h
    rw [h5, Nat.pow_succ, Nat.mul_comm (100 ^ n) 100]
    exact Nat.mul_le_mul (od_le t m) (ih h4)
theorem pv_100 {n t f r v : Nat} (h : pv y o b g n t f r = some v) (hr : r < nM y ^ n) : v ≤ 100 ^ n := by
  obtain ⟨w, h1, h2⟩ := pv_le h hr
  exact Nat.le_trans h2 (bsg_le h1)
/-- the first row by which it is just p -/
def fR (y : gS) (o b g n t f d p r : Nat) : Prop := r < nM y ^ n ∧ (∃ v, pv y o b g n t f r = some v ∧ d * v = p) ∧ ∀ r' v, r' < r → pv y o b g n t f r' = some v → d * v ≠ p
def Up (y : gS) (o b g n t f d p : Nat) : Prop := ∀ r v, r < nM y ^ n → pv y o b g n t f r = some v → d * v ≤ p
def gdM (y : gS) (o b g n t f d p m : Nat) : Prop := fr y m = f ∧ cnb y (pr o b t) m = true ∧ ∃ w, bsg y o b g n (1 - t) (tO y m) = some w ∧ d * od y o b t m * w = p
theorem fR_s {n t f d p r : Nat} (h : fR y o b g (n + 1) t f d p r) (hu : Up y o b g (n + 1) t f d p) :
    r / nM y ^ n < nM y ∧ gdM y o b g n t f d p (r / nM y ^ n) ∧ (∀ m, m < r / nM y ^ n → ¬ gdM y o b g n t f d p m) ∧ fR y o b g n (1 - t) (tO y (r / nM y ^ n)) (d * od y o b t (r / nM y ^ n)) p (r % nM y ^ n) ∧ Up y o b g n (1 - t) (tO y (r / nM y ^ n)) (d * od y o b t (r / nM y ^ n)) p := by
  obtain ⟨hr, ⟨v, h1, h2⟩, h3⟩ := h
  obtain ⟨r0, r1, r2⟩ := mulp hr
  obtain ⟨p1, p2, v1, p3, p4⟩ := pvS h1
  have er : (r / nM y ^ n) * nM y ^ n + r % nM y ^ n = r := by rw [Nat.mul_comm]; exact Nat.div_add_mod _ _
  have hu2 : Up y o b g n (1 - t) (tO y (r / nM y ^ n)) (d * od y o b t (r / nM y ^ n)) p := fun r' v' q1 q2 => by
    have := hu _ _ (mulq r1 q1).1 (pvI r1 q1 p1 p2 q2)
    rwa [Nat.mul_assoc]
  have hd : d * od y o b t (r / nM y ^ n) * v1 = p := by rw [Nat.mul_assoc, ← p4]; exact h2
  refine ⟨r1, ⟨p1, p2, ?_⟩, fun m hm hq => ?_, ⟨r2, ⟨v1, p3, hd⟩, fun r' v' q1 q2 q3 => ?_⟩, hu2⟩
  · obtain ⟨w, w1, w2⟩ := pv_le p3 r2
    obtain ⟨r', g1, g2⟩ := bsg_ex w1
    have a1 := hu2 r' w g1 g2
    have a2 : d * od y o b t (r / nM y ^ n) * v1 ≤ d * od y o b t (r / nM y ^ n) * w := Nat.mul_le_mul_left _ w2
    exact ⟨w, w1, by omega⟩
  · obtain ⟨q1, q2, w, q3, q4⟩ := hq
    obtain ⟨r', g1, g2⟩ := bsg_ex q3
    have hlt : m * nM y ^ n + r' < r := by
      have : (m + 1) * nM y ^ n ≤ (r / nM y ^ n) * nM y ^ n := Nat.mul_le_mul_right _ hm
      rw [Nat.add_mul, Nat.one_mul] at this
      have h0 : 0 ≤ r % nM y ^ n := Nat.zero_le _
      rw [← er]
      generalize r % nM y ^ n = z1 at *
      generalize r / nM y ^ n * nM y ^ n = z2 at *
      omega
    refine h3 _ _ hlt (pvI (by omega) g1 q1 q2 g2) ?_
    rw [← Nat.mul_assoc]; exact q4
  · refine h3 ((r / nM y ^ n) * nM y ^ n + r') _ (by omega) (pvI r1 (by omega) p1 p2 q2) ?_
    rw [← Nat.mul_assoc]; exact q3
/-- a digit of a row -/
def dg (M n r k : Nat) : Nat := r / M ^ (n - 1 - k) % M
theorem dg_e {M n r k : Nat} (hk : k < n) : r % M ^ (n - k) / M ^ (n - (k + 1)) = dg M n r k ∧ r % M ^ (n - k) % M ^ (n - (k + 1)) = r % M ^ (n - (k + 1)) := by
  have e : n - k = (n - (k + 1)) + 1 := by omega
  rw [e, Nat.pow_succ]
  refine ⟨?_, ?_⟩
  · rw [Nat.mod_mul_right_div_self]
    unfold dg
    rw [show n - 1 - k = n - (k + 1) by omega]
  · exact Nat.mod_mod_of_dvd _ (Nat.dvd_mul_right _ _)
/-- the steps of Euclid -/
def eG : Nat → Nat
  | 0 => 1
  | 1 => 2
  | n + 2 => eG (n + 1) + eG n
theorem eu_end {P : Nat → Nat → Nat → Prop} (h0 : ∀ n a, P n a 0) (hs : ∀ n a b, 0 < b → P n b (a % b) → P (n + 1) a b) : ∀ n a b, b < eG n → P n a b := by
  have key : ∀ n, (∀ a b, b < eG n → P n a b) ∧ ∀ a b, b < eG (n + 1) → P (n + 1) a b := by
    intro n
    induction n with
    | zero =>
      refine ⟨fun a b hb => ?_, fun a b hb => ?_⟩
      · have hb : b < 1 := hb
        rw [show b = 0 by omega]; exact h0 _ _
      · have hb : b < 2 := hb
        by_cases z : b = 0
        · rw [z]; exact h0 _ _
        · rw [show b = 1 by omega]
          refine hs _ _ _ (by omega) ?_
          rw [Nat.mod_one]; exact h0 _ _
    | succ n ih =>
      refine ⟨ih.2, fun a b hb => ?_⟩
      have hb : b < eG (n + 1) + eG n := hb
      by_cases z : b = 0
      · rw [z]; exact h0 _ _
      · refine hs _ _ _ (by omega) ?_
        by_cases w : a % b < eG (n + 1)
        · exact ih.2 _ _ w
        · have hr : a % b < b := Nat.mod_lt _ (by omega)
          by_cases v : a % b = 0
          · rw [v]; exact h0 _ _
          · refine hs _ _ _ (by omega) (ih.1 _ _ ?_)
            have h1 : b % (a % b) ≤ b - a % b := by
              have := Nat.mod_eq_sub_mod (a := b) (b := a % b) (by omega)
              rw [this]; exact Nat.mod_le _ _
            omega
  exact fun n => (key n).1
theorem eG38 : 100000000 < eG 38 := by decide
end SP
