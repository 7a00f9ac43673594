/-! ===== what was seen: rows ===== -/
/-- the j-th sighting counts, as known at K -/
def cts (y : gS) (K : Int32) (j : Nat) : Bool := decide (¬ K < y.1 40 j) && (decide (y.1 41 j < 0) || decide (K < y.1 41 j))
/-- the first sightings allow o at the place n -/
def alN (y : gS) (K : Int32) (s n o : Nat) : Nat → Bool
  | 0 => true
  | j + 1 => alN y K s n o j && (!(decide (y.1 37 j = nI s) && decide (y.1 38 j = nI n) && cts y K j) || (decide (y.1 39 j = nI o) == decide (y.1 42 j = 1)))
abbrev al (y : gS) (K : Int32) (s n o : Nat) : Bool := alN y K s n o (vN (y.1 0 73))
theorem alN_f {y : gS} {K : Int32} {s n o i j : Nat} (h : alN y K s n o i = false) (hj : i ≤ j) : alN y K s n o j = false := by
  induction j with
  | zero => rw [show i = 0 by omega] at h; exact h
  | succ j ih =>
    by_cases e : i = j + 1
    · rw [← e]; exact h
    · rw [alN, ih (by omega)]; rfl
/-- sums -/
def sM (p : Nat → Bool) (v : Nat → Nat) : Nat → Nat
  | 0 => 0
  | n + 1 => sM p v n + (if p n then v n else 0)
theorem sM_eq {p q : Nat → Bool} {v w : Nat → Nat} {n : Nat} (h : ∀ i, i < n → (if p i then v i else 0) = if q i then w i else 0) : sM p v n = sM q w n := by
  induction n with
  | zero => rfl
  | succ n ih => rw [sM, sM, ih (fun i hi => h i (by omega)), h n (by omega)]
theorem sM_le {p : Nat → Bool} {v : Nat → Nat} {n b : Nat} (h : ∀ i, i < n → v i ≤ b) : sM p v n ≤ n * b := by
  induction n with
  | zero => exact Nat.zero_le _
  | succ n ih =>
    have h1 := ih fun i hi => h i (by omega)
    have h2 := h n (by omega)
    rw [sM, Nat.succ_mul]
    split <;> omega
theorem sM_0 {p : Nat → Bool} {v : Nat → Nat} {n : Nat} (h : ∀ i, i < n → p i = true → v i = 0) : sM p v n = 0 := by
  induction n with
  | zero => rfl
  | succ n ih =>
    rw [sM, ih fun i hi => h i (by omega)]
    by_cases q : p n = true
    · rw [if_pos q, h n (by omega) q]
    · rw [if_neg q]
theorem sM_ne {p : Nat → Bool} {v : Nat → Nat} {n : Nat} (h : sM p v n ≠ 0) : ∃ i, i < n ∧ p i = true ∧ v i ≠ 0 := by
  refine Classical.byContradiction fun q => h (sM_0 fun i hi hp => Classical.byContradiction fun z => q ⟨i, hi, hp, z⟩)
abbrev tt : Nat → Bool := fun _ => true
theorem sM_add (p : Nat → Bool) (v w : Nat → Nat) (n : Nat) : sM p (fun i => v i + w i) n = sM p v n + sM p w n := by
  induction n with
  | zero => rfl
  | succ n ih => rw [sM, sM, sM, ih]; split <;> omega
theorem sM_one {v : Nat → Nat} {n e : Nat} (he : e < n) : sM (fun f => decide (e = f)) v n = v e := by
  induction n with
  | zero => omega
  | succ n ih =>
    rw [sM]
    by_cases z : e = n
    · subst z
      rw [if_pos (by simp), sM_0 (fun i hi q => by have := of_decide_eq_true q; omega), Nat.zero_add]
    · rw [if_neg (by simp [z]), ih (by omega), Nat.add_zero]
/-- by the moves, or by the figures to which they lead -/
theorem sM_swap (c : Nat → Bool) (e : Nat → Nat) (a g : Nat → Nat) (N M : Nat) (he : ∀ m, m < M → e m < N) : sM tt (fun f => sM (fun m => c m && decide (e m = f)) a M * g f) N = sM c (fun m => a m * g (e m)) M := by
  induction M with
  | zero => exact sM_0 fun i _ _ => by rw [sM, Nat.zero_mul]
  | succ M ih =>
    rw [sM, ← ih fun m hm => he m (by omega)]
    have : (fun f => sM (fun m => c m && decide (e m = f)) a (M + 1) * g f) = fun f => sM (fun m => c m && decide (e m = f)) a M * g f + (if c M && decide (e M = f) then a M * g f else 0) := by
      funext f
      rw [sM, Nat.add_mul]
      congr 1
      split <;> simp
    rw [this, sM_add]
    congr 1
    cases hc : c M
    · rw [if_neg (by decide)]; exact sM_0 fun i _ _ => by simp
    · rw [if_pos rfl]
      have := sM_one (v := fun f => a M * g f) (he M (by omega))
      rw [← this]
      apply sM_eq
      intro i hi
      simp
section RW
variable (y : gS) (K : Int32)
def fit (n m : Nat) : Bool := al y K 1 n (fg y m) && al y K 0 n (tO y m)
def cme : Nat → Nat → Nat
  | 0 => fun f => if 0 < nF y ∧ f = 0 ∧ al y K 0 0 0 = true then 1 else 0
  | n + 1 => fun f => sM (fun m => fit y K (n + 1) m && decide (tO y m = f)) (fun m => cme n (fr y m)) (nM y)
/-- d moves are left -/
def goD : Nat → Nat → Nat
  | 0 => fun _ => 1
  | d + 1 => fun f => sM (fun m => fit y K (6 - d) m && decide (fr y m = f)) (fun m => goD d (tO y m)) (nM y)
def onD : Nat → Nat → Nat
  | 0 => fun f => if f < nF y ∧ al y K 0 6 f = true then 1 else 0
  | d + 1 => fun f => sM (fun m => (al y K 1 (6 - d) (fg y m) && al y K 0 (5 - d) (fr y m)) && decide (fr y m = f)) (fun m => onD d (tO y m)) (nM y)
variable {y K}
theorem cme0 (f : Nat) : cme y K 0 f = if 0 < nF y ∧ f = 0 ∧ al y K 0 0 0 = true then 1 else 0 := rfl
theorem cmeS (n f : Nat) : cme y K (n + 1) f = sM (fun m => fit y K (n + 1) m && decide (tO y m = f)) (fun m => cme y K n (fr y m)) (nM y) := rfl
theorem goD0 (f : Nat) : goD y K 0 f = 1 := rfl
theorem goDS (d f : Nat) : goD y K (d + 1) f = sM (fun m => fit y K (6 - d) m && decide (fr y m = f)) (fun m => goD y K d (tO y m)) (nM y) := rfl
theorem onD0 (f : Nat) : onD y K 0 f = if f < nF y ∧ al y K 0 6 f = true then 1 else 0 := rfl
theorem onDS (d f : Nat) : onD y K (d + 1) f = sM (fun m => (al y K 1 (6 - d) (fg y m) && al y K 0 (5 - d) (fr y m)) && decide (fr y m = f)) (fun m => onD y K d (tO y m)) (nM y) := rfl
theorem cme_le (hw : WFy y) (n : Nat) : ∀ f, cme y K n f ≤ 16 ^ n := by
  have hM := nM17 hw
  induction n with
  | zero => intro f; rw [cme0]; split <;> simp
  | succ n ih =>
    intro f
    rw [cmeS]
    refine Nat.le_trans (sM_le fun m _ => ih (fr y m)) ?_
    rw [Nat.pow_succ, Nat.mul_comm]
    exact Nat.mul_le_mul_left _ (by omega)
theorem goD_le (hw : WFy y) (d : Nat) : ∀ f, goD y K d f ≤ 16 ^ d := by
  have hM := nM17 hw
  induction d with
  | zero => intro f; rw [goD0]; simp
  | succ d ih =>
    intro f
    rw [goDS]
    refine Nat.le_trans (sM_le fun m _ => ih (tO y m)) ?_
    rw [Nat.pow_succ, Nat.mul_comm]
    exact Nat.mul_le_mul_left _ (by omega)
theorem cme_al {n f : Nat} (h : cme y K n f ≠ 0) : al y K 0 n f = true := by
  cases n with
  | zero =>
    rw [cme0] at h
    by_cases q : 0 < nF y ∧ f = 0 ∧ al y K 0 0 0 = true
    · rw [q.2.1]; exact q.2.2
    · rw [if_neg q] at h; exact absurd rfl h
  | succ n =>
    rw [cmeS] at h
    obtain ⟨m, hm, hp, -⟩ := sM_ne h
    rw [Bool.and_eq_true, decide_eq_true_eq, fit, Bool.and_eq_true] at hp
    rw [← hp.2]
    exact hp.1.2
theorem cme_F (hw : WFy y) {n f : Nat} (h : cme y K n f ≠ 0) : f < nF y := by
  cases n with
  | zero =>
    rw [cme0] at h
    by_cases q : 0 < nF y ∧ f = 0 ∧ al y K 0 0 0 = true
    · omega
    · rw [if_neg q] at h; exact absurd rfl h
  | succ n =>
    rw [cmeS] at h
    obtain ⟨m, hm, hp, -⟩ := sM_ne h
    rw [Bool.and_eq_true, decide_eq_true_eq] at hp
    rw [← hp.2]
    exact tO_lt hw hm
theorem onD_goD (hw : WFy y) (d : Nat) : d ≤ 6 → ∀ f, f < nF y → onD y K d f = if al y K 0 (6 - d) f then goD y K d f else 0 := by
  induction d with
  | zero =>
    intro _ f hf
    rw [onD0, goD0, show 6 - 0 = 6 from rfl]
    cases h : al y K 0 6 f
    · rw [if_neg (show ¬ (f < nF y ∧ false = true) from fun q => absurd q.2 (by decide)), if_neg (by decide)]
    · rw [if_pos (show f < nF y ∧ true = true from ⟨hf, rfl⟩), if_pos rfl]
  | succ d ih =>
    intro hd f hf
    rw [onDS, goDS, show 6 - (d + 1) = 5 - d by omega]
    cases h : al y K 0 (5 - d) f
    · rw [if_neg (by decide)]
      refine sM_0 fun m _ hp => ?_
      rw [Bool.and_eq_true, decide_eq_true_eq, Bool.and_eq_true] at hp
      rw [hp.2, h] at hp
      exact absurd hp.1.2 (by decide)
    · rw [if_pos rfl]
      apply sM_eq
      intro m hm
      have e1 := ih (by omega) (tO y m) (tO_lt hw hm)
      rw [fit, e1]
      by_cases z : fr y m = f
      · rw [z, h]
        cases al y K 1 (6 - d) (fg y m) <;> cases al y K 0 (6 - d) (tO y m) <;> simp
      · simp [z]
/-- how many rows there are -/
def rwT (y : gS) (K : Int32) : Nat := sM tt (cme y K 6) 8
theorem flow (hw : WFy y) (d : Nat) : d ≤ 6 → sM tt (fun f => cme y K (6 - d) f * goD y K d f) 8 = rwT y K := by
  have hF := nF9 hw
  induction d with
  | zero => intro _; unfold rwT; apply sM_eq; intro i _; rw [goD0]; simp
  | succ d ih =>
    intro hd
    rw [← ih (by omega)]
    have s1 := sM_swap (fun m => fit y K (6 - d) m) (tO y) (fun m => cme y K (5 - d) (fr y m)) (goD y K d) 8 (nM y) (fun m hm => by have := tO_lt hw hm; omega)
    have s2 := sM_swap (fun m => fit y K (6 - d) m) (fr y) (fun m => goD y K d (tO y m)) (cme y K (5 - d)) 8 (nM y) (fun m hm => by have := fr_lt hw hm; omega)
    have e1 : (fun f => cme y K (6 - (d + 1)) f * goD y K (d + 1) f) = fun f => sM (fun m => fit y K (6 - d) m && decide (fr y m = f)) (fun m => goD y K d (tO y m)) (nM y) * cme y K (5 - d) f := by
      funext f; rw [goDS, Nat.mul_comm, show 6 - (d + 1) = 5 - d by omega]
    have e2 : (fun f => cme y K (6 - d) f * goD y K d f) = fun f => sM (fun m => fit y K (6 - d) m && decide (tO y m = f)) (fun m => cme y K (5 - d) (fr y m)) (nM y) * goD y K d f := by
      funext f
      rw [show 6 - d = (5 - d) + 1 by omega]; rfl
    rw [e1, e2, s1, s2]
    apply sM_eq
    intro m _
    rw [Nat.mul_comm]
theorem rwT_0 (hw : WFy y) : rwT y K = if cme y K 0 0 = 0 then 0 else goD y K 6 0 := by
  rw [← flow hw 6 (Nat.le_refl _), show 6 - 6 = 0 from rfl]
  have : ∀ f, f ≠ 0 → cme y K 0 f = 0 := fun f hf => by rw [cme0, if_neg (fun q => hf q.2.1)]
  have e : sM tt (fun f => cme y K 0 f * goD y K 6 f) 8 = sM (fun f => decide (0 = f)) (fun f => cme y K 0 f * goD y K 6 f) 8 := sM_eq fun i _ => by
    by_cases z : 0 = i
    · simp [z]
    · rw [this i (fun q => z q.symm)]; simp
  rw [e, sM_one (by decide)]
  by_cases z : cme y K 0 0 = 0
  · rw [if_pos z, z, Nat.zero_mul]
  · rw [if_neg z]
    have : cme y K 0 0 ≤ 1 := cme_le hw 0 0
    rw [show cme y K 0 0 = 1 by omega, Nat.one_mul]
/-- through a figure behind n moves -/
def thr (y : gS) (K : Int32) (n f : Nat) : Nat := cme y K n f * goD y K (6 - n) f
theorem thr_le (hw : WFy y) {n : Nat} (hn : n ≤ 6) (f : Nat) : thr y K n f ≤ 16 ^ 6 := by
  unfold thr
  refine Nat.le_trans (Nat.mul_le_mul (cme_le hw n f) (goD_le hw (6 - n) f)) ?_
  rw [← Nat.pow_add, show n + (6 - n) = 6 by omega]
  exact Nat.le_refl _
theorem thr_T (hw : WFy y) {n : Nat} (hn : n ≤ 6) : sM tt (thr y K n) 8 = rwT y K := by
  have := flow (K := K) hw (6 - n) (by omega)
  rw [show 6 - (6 - n) = n by omega] at this
  exact this
theorem thr_F (hw : WFy y) {n f : Nat} (h : thr y K n f ≠ 0) : f < nF y := by
  refine cme_F hw (K := K) (n := n) fun z => h ?_
  unfold thr; rw [z, Nat.zero_mul]
theorem rwT_le (hw : WFy y) : rwT y K ≤ 8 * 16 ^ 6 := sM_le fun i _ => cme_le hw 6 i
/-- the reference's form -/
theorem thr_on (hw : WFy y) {n f : Nat} (hn : n ≤ 6) (hf : f < nF y) : (if cme y K n f = 0 then 0 else cme y K n f * onD y K (6 - n) f) = thr y K n f := by
  unfold thr
  by_cases z : cme y K n f = 0
  · rw [if_pos z, z, Nat.zero_mul]
  · rw [if_neg z, onD_goD hw (6 - n) (by omega) f hf, show 6 - (6 - n) = n by omega, cme_al z, if_pos rfl]
theorem onD_le (hw : WFy y) {d f : Nat} (hd : d ≤ 6) (hf : f < nF y) : onD y K d f ≤ 16 ^ 6 := by
  rw [onD_goD hw d hd f hf]
  split
  · exact Nat.le_trans (goD_le hw d f) (Nat.pow_le_pow_right (by decide) hd)
  · exact Nat.zero_le _
end RW
