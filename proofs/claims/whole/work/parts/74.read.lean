/-! ===== what holds while a text is read ===== -/
def rdY (k j : Nat) : Prop := scrY k j ∨ (k = 0 ∧ (j = 2 ∨ j = 3))
def FXr (t : Nat) (x x' : gS) : Prop := x'.2.2 = x.2.2 ∧ ∀ k j, ¬ (k = 19 ∨ (k = 3 ∧ 2 ≤ j ∧ j ≤ 6) ∨ (t ≤ k ∧ k ≤ t + 14)) → x'.1 k j = x.1 k j
def FYr (y y' : gS) : Prop := ∀ k j, ¬ rdY k j → y'.1 k j = y.1 k j
theorem FXr.rf {t : Nat} (x : gS) : FXr t x x := ⟨rfl, fun _ _ _ => rfl⟩
theorem FYr.rf (y : gS) : FYr y y := fun _ _ _ => rfl
theorem FXr.tr {t : Nat} {x x' x'' : gS} (h1 : FXr t x x') (h2 : FXr t x' x'') : FXr t x x'' := ⟨h2.1.trans h1.1, fun k j h => (h2.2 k j h).trans (h1.2 k j h)⟩
theorem FYr.tr {x x' x'' : gS} (h1 : FYr x x') (h2 : FYr x' x'') : FYr x x'' := fun k j h => (h2 k j h).trans (h1 k j h)
theorem TX.fr {t : Nat} {x x' : gS} (h : TX x x') : FXr t x x' := ⟨h.1, fun k j q => h.2.1 k j (by omega)⟩
theorem TY.fr {y y' : gS} (h : TY y y') : FYr y y' := fun k j q => h.1 k j (by unfold rdY scrY at q; omega)
theorem FXr_wi {t : Nat} {x : gS} {k j : Nat} {v : Int32} (h : k = 19 ∨ (k = 3 ∧ 2 ≤ j ∧ j ≤ 6) ∨ (t ≤ k ∧ k ≤ t + 14)) : FXr t x (wi x k j v) := ⟨rfl, fun a b q => by rw [wi_1, if_neg (by omega)]⟩
theorem FXr_wl {t : Nat} {x : gS} {k j : Nat} {v : Int64} : FXr t x (wl x k j v) := ⟨rfl, fun _ _ _ => rfl⟩
theorem FYr_wi {y : gS} {k j : Nat} {v : Int32} (h : rdY k j) : FYr y (wi y k j v) := fun a b q => by rw [wi_1, if_neg (show ¬ (a = k ∧ b = j) from fun z => q (by rw [z.1, z.2]; exact h))]
theorem FYr_wl {y : gS} {k j : Nat} {v : Int64} : FYr y (wl y k j v) := fun _ _ _ => rfl
abbrev qF (y : gS) : Nat := vN (y.1 0 43)
abbrev qT (y : gS) : Nat := vN (y.1 0 44)
abbrev qM (y : gS) : Nat := vN (y.1 0 45)
def DRf (t : Nat) (x y : gS) : Prop := isN (y.1 0 43) 9 ∧ x.1 t 12 = y.1 0 43 ∧ (∀ i, i < qF y → x.2.1 (t + 1 + 0) i = y.2.1 2 i) ∧ ∀ i j, i < qF y → j < qF y → y.2.1 2 i = y.2.1 2 j → i = j
def DRt (t : Nat) (x y : gS) : Prop := isN (y.1 0 44) 6 ∧ x.1 t 13 = y.1 0 44 ∧ isN (x.1 t 15) (2 ^ qT y) ∧ (∀ i j, i < qT y → j < qT y → y.2.1 2 (8 + i) = y.2.1 2 (8 + j) → i = j) ∧
  ∀ k, k < qT y → x.2.1 (t + 1 + 1) k = y.2.1 2 (8 + k) ∧ x.1 (t + 1 + 2) k = y.1 10 k ∧ isN (y.1 10 k) 10 ∧ x.1 (t + 1 + 3) k = y.1 11 k ∧ isN (y.1 11 k) 1024 ∧ gB (y.1 26 k) ∧ (vN (x.1 t 15)).testBit k = decide (y.1 26 k = 1)
def DRw (t : Nat) (x y : gS) : Prop := ∀ k f, k < 5 → f < 8 → (k < qT y → x.1 (t + 1 + 5) (8 * k + f) = y.1 14 (8 * k + f)) ∧ (qT y ≤ k → x.1 (t + 1 + 5) (8 * k + f) = -1) ∧ (x.1 (t + 1 + 5) (8 * k + f) = -1 ∨ isN (x.1 (t + 1 + 5) (8 * k + f)) 100)
def DRm1 (t : Nat) (x y : gS) (m : Nat) : Prop := x.1 (t + 1 + 6) m = y.1 16 m ∧ x.1 (t + 1 + 7) m = y.1 17 m ∧ x.1 (t + 1 + 8) m = y.1 18 m ∧ x.1 (t + 1 + 9) m = y.1 19 m ∧ x.1 (t + 1 + 10) m = y.1 20 m ∧ isN (y.1 16 m) (qF y) ∧ isN (y.1 17 m) (qF y) ∧ isN (y.1 18 m) 10 ∧ isN (y.1 19 m) 10 ∧ (y.1 20 m = -1 ∨ isN (y.1 20 m) (qF y))
def DRm (t : Nat) (x y : gS) : Prop := isN (y.1 0 45) 17 ∧ x.1 t 14 = y.1 0 45 ∧ ∀ m, m < qM y → DRm1 t x y m
def DRc (t : Nat) (x y : gS) : Prop := x.1 t 16 = y.1 0 46 ∧ isN (y.1 0 46) 100 ∧ x.1 t 17 = y.1 0 47 ∧ x.1 3 2 = y.1 0 53 ∧ x.1 3 3 = y.1 0 54
/-- how many numbers lie on the pile behind n steps of these sorts -/
def dpq (g : Nat → Int32) : Nat → Option Nat
  | 0 => some 0
  | n + 1 => (dpq g n).bind fun d => if g n = 0 ∨ g n = 1 then some (d + 1) else if g n = 2 then (if 1 ≤ d then some d else none) else (if 2 ≤ d then some (d - 1) else none)
def SD (t : Nat) (x y : gS) (n u : Nat) : Prop := x.1 (t + 1 + 11) 2 = nI n ∧ y.1 0 17 = nI n ∧ x.1 (t + 1 + 11) 3 = nI u ∧ y.1 0 20 = nI u ∧ 1 ≤ u ∧ u ≤ 30 ∧ 1 ≤ n ∧ n ≤ 271 ∧ (∀ i, i < n → stp (x.1 (t + 1 + 11 + 1 + 0) i) (y.1 3 i) (y.1 4 i)) ∧ (∀ i, i ≤ n → ∃ d, dpq (y.1 3) i = some d ∧ d ≤ 30) ∧ dpq (y.1 3) n = some 1
def DRs (t : Nat) (x y : gS) : Prop := (y.1 0 52 = 0 ∧ x.1 (t + 1 + 11) 2 = 0 ∧ x.1 (t + 1 + 11) 3 = 0 ∧ y.1 0 20 = 0) ∨ (y.1 0 52 = 1 ∧ ∃ n u, SD t x y n u)
def DRz (x y : gS) : Prop := x.1 3 4 = 0 ∧ x.1 3 5 = 0 ∧ x.1 3 6 = -1 ∧ y.1 0 2 = 0 ∧ y.1 0 3 = -1
def DR (t : Nat) (x y : gS) : Prop := DRf t x y ∧ DRt t x y ∧ DRw t x y ∧ DRm t x y ∧ DRc t x y ∧ DRs t x y ∧ DRz x y
theorem dpq_c {g g' : Nat → Int32} : ∀ {n : Nat}, (∀ i, i < n → g' i = g i) → dpq g' n = dpq g n := by
  intro n
  induction n with
  | zero => intro _; rfl
  | succ n ih =>
    intro h
    show (dpq g' n).bind _ = (dpq g n).bind _
    rw [ih (fun i hi => h i (by omega)), h n (by omega)]
section RX
variable {t : Nat} {x y x' y' : gS}
theorem DRf_ext (h : DRf t x y) (a : y'.1 0 43 = y.1 0 43) (b : x'.1 t 12 = x.1 t 12) (c : ∀ i, i < qF y → x'.2.1 (t + 1 + 0) i = x.2.1 (t + 1 + 0) i) (d : ∀ i, i < qF y → y'.2.1 2 i = y.2.1 2 i) : DRf t x' y' := by
  obtain ⟨h1, h2, h3, h4⟩ := h
  have e : qF y' = qF y := by show vN (y'.1 0 43) = _; rw [a]
  unfold DRf
  rw [e, a, b]
  exact ⟨h1, h2, fun i hi => by rw [c i hi, d i hi]; exact h3 i hi, fun i j hi hj => by rw [d i hi, d j hj]; exact h4 i j hi hj⟩
theorem DRt_ext (h : DRt t x y) (a : y'.1 0 44 = y.1 0 44) (b : x'.1 t 13 = x.1 t 13) (c : x'.1 t 15 = x.1 t 15) (d : ∀ k, k < qT y → x'.2.1 (t + 1 + 1) k = x.2.1 (t + 1 + 1) k ∧ y'.2.1 2 (8 + k) = y.2.1 2 (8 + k) ∧ x'.1 (t + 1 + 2) k = x.1 (t + 1 + 2) k ∧ x'.1 (t + 1 + 3) k = x.1 (t + 1 + 3) k ∧ y'.1 10 k = y.1 10 k ∧ y'.1 11 k = y.1 11 k ∧ y'.1 26 k = y.1 26 k) : DRt t x' y' := by
  obtain ⟨h1, h2, h3, h4, h5⟩ := h
  have e : qT y' = qT y := by show vN (y'.1 0 44) = _; rw [a]
  unfold DRt
  rw [e, a, b, c]
  refine ⟨h1, h2, h3, fun i j hi hj => by rw [(d i hi).2.1, (d j hj).2.1]; exact h4 i j hi hj, fun k hk => ?_⟩
  obtain ⟨d1, d2, d3, d4, d5, d6, d7⟩ := d k hk
  rw [d1, d2, d3, d4, d5, d6, d7]
  exact h5 k hk
theorem DRw_ext (h : DRw t x y) (a : y'.1 0 44 = y.1 0 44) (b : ∀ j, x'.1 (t + 1 + 5) j = x.1 (t + 1 + 5) j) (c : ∀ k f, k < qT y → f < 8 → y'.1 14 (8 * k + f) = y.1 14 (8 * k + f)) : DRw t x' y' := by
  have e : qT y' = qT y := by show vN (y'.1 0 44) = _; rw [a]
  intro k f hk hf
  rw [e, b]
  obtain ⟨h1, h2, h3⟩ := h k f hk hf
  exact ⟨fun q => by rw [c k f q hf]; exact h1 q, h2, h3⟩
theorem DRm_ext (h : DRm t x y) (g : qF y ≤ qF y') (a : y'.1 0 45 = y.1 0 45) (b : x'.1 t 14 = x.1 t 14) (c : ∀ m, m < qM y → ∀ k, 6 ≤ k → k ≤ 10 → x'.1 (t + 1 + k) m = x.1 (t + 1 + k) m ∧ y'.1 (10 + k) m = y.1 (10 + k) m) : DRm t x' y' := by
  have e : qM y' = qM y := by show vN (y'.1 0 45) = _; rw [a]
  obtain ⟨h1, h2, h3⟩ := h
  unfold DRm
  rw [e, a, b]
  refine ⟨h1, h2, fun m hm => ?_⟩
  obtain ⟨p1, p2, p3, p4, p5, p6, p7, p8, p9, p10⟩ := h3 m hm
  obtain ⟨c6, d6⟩ := c m hm 6 (by omega) (by omega)
  obtain ⟨c7, d7⟩ := c m hm 7 (by omega) (by omega)
  obtain ⟨c8, d8⟩ := c m hm 8 (by omega) (by omega)
  obtain ⟨c9, d9⟩ := c m hm 9 (by omega) (by omega)
  obtain ⟨c10, d10⟩ := c m hm 10 (by omega) (by omega)
  have d6 : y'.1 16 m = y.1 16 m := d6
  have d7 : y'.1 17 m = y.1 17 m := d7
  have d8 : y'.1 18 m = y.1 18 m := d8
  have d9 : y'.1 19 m = y.1 19 m := d9
  have d10 : y'.1 20 m = y.1 20 m := d10
  unfold DRm1
  rw [c6, c7, c8, c9, c10, d6, d7, d8, d9, d10]
  exact ⟨p1, p2, p3, p4, p5, ⟨p6.1, Nat.lt_of_lt_of_le p6.2 g⟩, ⟨p7.1, Nat.lt_of_lt_of_le p7.2 g⟩, p8, p9, p10.imp id fun q => ⟨q.1, Nat.lt_of_lt_of_le q.2 g⟩⟩
theorem DRc_ext (h : DRc t x y) (a : ∀ j, 46 ≤ j → j ≤ 54 → y'.1 0 j = y.1 0 j) (b : ∀ j, 16 ≤ j → j ≤ 17 → x'.1 t j = x.1 t j) (c : ∀ j, 2 ≤ j → j ≤ 3 → x'.1 3 j = x.1 3 j) : DRc t x' y' := by
  unfold DRc at h ⊢
  rw [a 46 (by omega) (by omega), a 47 (by omega) (by omega), a 53 (by omega) (by omega), a 54 (by omega) (by omega), b 16 (by omega) (by omega), b 17 (by omega) (by omega), c 2 (by omega) (by omega), c 3 (by omega) (by omega)]
  exact h
theorem DRs_ext (h : DRs t x y) (a1 : y'.1 0 52 = y.1 0 52) (a2 : y'.1 0 20 = y.1 0 20) (a3 : y'.1 0 17 = y.1 0 17) (a4 : ∀ j, y'.1 3 j = y.1 3 j ∧ y'.1 4 j = y.1 4 j) (b1 : ∀ j, x'.1 (t + 1 + 11) j = x.1 (t + 1 + 11) j) (b2 : ∀ j, x'.1 (t + 1 + 11 + 1 + 0) j = x.1 (t + 1 + 11 + 1 + 0) j) : DRs t x' y' := by
  have e3 : y'.1 3 = y.1 3 := funext fun j => (a4 j).1
  have e4 : y'.1 4 = y.1 4 := funext fun j => (a4 j).2
  have e5 : x'.1 (t + 1 + 11 + 1 + 0) = x.1 (t + 1 + 11 + 1 + 0) := funext b2
  unfold DRs SD at h ⊢
  rw [a1, a2, a3, b1, b1, e3, e4, e5]
  exact h
theorem DRz_ext (h : DRz x y) (a : ∀ j, j = 2 ∨ j = 3 → y'.1 0 j = y.1 0 j) (b : ∀ j, 4 ≤ j → j ≤ 6 → x'.1 3 j = x.1 3 j) : DRz x' y' := by
  unfold DRz at h ⊢
  rw [a 2 (by omega), a 3 (by omega), b 4 (by omega) (by omega), b 5 (by omega) (by omega), b 6 (by omega) (by omega)]
  exact h
/-- the class's draft stays, the reference writes where nothing is told yet -/
def EX (t : Nat) (x x' : gS) : Prop := (∀ k j, (t ≤ k ∧ k ≤ t + 14) ∨ (k = 3 ∧ 2 ≤ j ∧ j ≤ 6) → x'.1 k j = x.1 k j) ∧ ∀ k j, t ≤ k → k ≤ t + 14 → x'.2.1 k j = x.2.1 k j
def EY (y y' : gS) : Prop := (∀ j, j = 2 ∨ j = 3 ∨ j = 17 ∨ j = 20 ∨ (43 ≤ j ∧ j ≤ 54) → y'.1 0 j = y.1 0 j) ∧ (∀ k, k < qT y → y'.1 10 k = y.1 10 k ∧ y'.1 11 k = y.1 11 k ∧ y'.1 26 k = y.1 26 k ∧ y'.2.1 2 (8 + k) = y.2.1 2 (8 + k) ∧ ∀ f, f < 8 → y'.1 14 (8 * k + f) = y.1 14 (8 * k + f)) ∧ (∀ m, m < qM y → ∀ k, 16 ≤ k → k ≤ 20 → y'.1 k m = y.1 k m) ∧ (∀ j, y'.1 3 j = y.1 3 j ∧ y'.1 4 j = y.1 4 j) ∧ ∀ i, i < qF y → y'.2.1 2 i = y.2.1 2 i
theorem DR_ext (h : DR t x y) (hx : EX t x x') (hy : EY y y') : DR t x' y' := by
  obtain ⟨h1, h2, h3, h4, h5, h6, h7⟩ := h
  obtain ⟨x1, x2⟩ := hx
  obtain ⟨y1, y2, y3, y4, y5⟩ := hy
  refine ⟨DRf_ext h1 (y1 43 (by omega)) (x1 t 12 (by omega)) (fun i _ => x2 _ i (by omega) (by omega)) y5, DRt_ext h2 (y1 44 (by omega)) (x1 t 13 (by omega)) (x1 t 15 (by omega)) (fun k hk => ?_), DRw_ext h3 (y1 44 (by omega)) (fun j => x1 _ j (by omega)) (fun k f hk hf => (y2 k hk).2.2.2.2 f hf), DRm_ext h4 ?_ (y1 45 (by omega)) (x1 t 14 (by omega)) (fun m hm k k1 k2 => ⟨x1 _ m (by omega), y3 m hm _ (by omega) (by omega)⟩), DRc_ext h5 (fun j j1 j2 => y1 j (by omega)) (fun j _ _ => x1 t j (by omega)) (fun j j1 j2 => x1 3 j (by omega)), DRs_ext h6 (y1 52 (by omega)) (y1 20 (by omega)) (y1 17 (by omega)) y4 (fun j => x1 _ j (by omega)) (fun j => x1 _ j (by omega)), DRz_ext h7 (fun j hj => y1 j (by omega)) (fun j _ _ => x1 3 j (by omega))⟩
  · obtain ⟨a1, a2, a3, a4, a5⟩ := y2 k hk
    exact ⟨x2 _ k (by omega) (by omega), a4, x1 _ k (by omega), x1 _ k (by omega), a1, a2, a3⟩
  · show vN (y.1 0 43) ≤ vN (y'.1 0 43)
    rw [y1 43 (by omega)]
    exact Nat.le_refl _
theorem TX.ex (h : TX x x') (ht : t = 4 ∨ t = 194) : EX t x x' := ⟨fun k j q => h.2.1 k j (by omega), fun k j q1 q2 => h.2.2 k j (by omega)⟩
theorem TY.ey (h : TY y y') : EY y y' := ⟨fun j q => h.1 0 j (by omega), fun k _ => ⟨h.1 10 k (by omega), h.1 11 k (by omega), h.1 26 k (by omega), h.2 2 _ (by omega), fun f _ => h.1 14 _ (by omega)⟩, fun m _ k k1 k2 => h.1 k m (by omega), fun j => ⟨h.1 3 j (by omega), h.1 4 j (by omega)⟩, fun i _ => h.2 2 i (by omega)⟩
theorem EX.rf (x : gS) : EX t x x := ⟨fun _ _ _ => rfl, fun _ _ _ _ => rfl⟩
theorem EY.rf (y : gS) : EY y y := ⟨fun _ _ => rfl, fun _ _ => ⟨rfl, rfl, rfl, rfl, fun _ _ => rfl⟩, fun _ _ _ _ _ => rfl, fun _ => ⟨rfl, rfl⟩, fun _ _ => rfl⟩
end RX
/-- both read on, at the token at c -/
def RD (x0 y0 : gS) (t L c : Nat) (x y : gS) : Prop := FXr t x0 x ∧ FYr y0 y ∧ TK x y c L ∧ DR t x y ∧ x.2.2 3 1 = t ∧ (t = 4 ∨ t = 194)
/-- both found the same fault -/
def FL (x0 y0 : gS) (t : Nat) (x y : gS) : Prop := FXr t x0 x ∧ FYr y0 y ∧ x.1 3 5 = y.1 0 2 ∧ x.1 3 6 = y.1 0 3 ∧ ∃ F, y.1 0 2 = nI F ∧ 1 ≤ F ∧ F ≤ 5
section RO
variable {x0 y0 x y : gS} {t L c : Nat}
theorem RD.kd (h : RD x0 y0 t L c x y) : KD x y := h.2.2.1.2.2.2.2.1
theorem RD.f0 (h : RD x0 y0 t L c x y) : y.1 0 2 = 0 := h.2.2.2.1.2.2.2.2.2.2.2.2.2.1
theorem RD.k8 (h : RD x0 y0 t L c x y) : gK 0 (x.2.2 3 1) = 8 := by
  rw [h.2.2.2.2.1]
  rcases h.2.2.2.2.2 with q | q <;> rw [q]
  · exact gk0_4
  · exact gk0_194
theorem FL.n0 (h : FL x0 y0 t x y) : ¬ y.1 0 2 ≤ 0 := by
  obtain ⟨-, -, -, -, F, e, h1, h2⟩ := h
  rw [e]
  exact fun q => by have := (nI_le' (b := 0) (by omega) (by decide)).mp q; omega
theorem FL.n1 (h : FL x0 y0 t x y) : ¬ y.1 0 2 = 0 := by
  obtain ⟨-, -, -, -, F, e, h1, h2⟩ := h
  rw [e]
  exact fun q => by have := (nI_eq0 (by omega)).mp q; omega
theorem FL_y {y' : gS} (h : FL x0 y0 t x y) (hy : FYr y y') (h1 : y'.1 0 2 = y.1 0 2) (h2 : y'.1 0 3 = y.1 0 3) : FL x0 y0 t x y' := by
  obtain ⟨a1, a2, a3, a4, a5⟩ := h
  unfold FL
  rw [h1, h2]
  exact ⟨a1, a2.tr hy, a3, a4, a5⟩
theorem FL_wi {k j : Nat} {v : Int32} (h : FL x0 y0 t x y) (hk : rdY k j) (h1 : k ≠ 0 ∨ 4 ≤ j) : FL x0 y0 t x (wi y k j v) := FL_y h (FYr_wi hk) (by rw [wi_1, if_neg (by omega)]) (by rw [wi_1, if_neg (by omega)])
theorem le0 : (0 : Int32) ≤ 0 := by decide
theorem refuse_g {v : Int32} {a : Nat} (h1 : FXr t x0 x) (h2 : FYr y0 y) (h3 : TK x y c L) (h4 : y.1 0 2 = 0) (hv : v = nI a) (ha : 1 ≤ a ∧ a ≤ 5) : ∃ x' y', fX4_refuse v x = some (0, x') ∧ fX11_wrong v y = some y' ∧ FL x0 y0 t x' y' ∧ ∀ k j, ¬ (k = 0 ∧ (j = 2 ∨ j = 3)) → y'.1 k j = y.1 k j := by
  have key : ∀ (w : Int32) (F : Nat), w = nI F → 1 ≤ F → F ≤ 5 → FL x0 y0 t (wi (wi x 3 5 w) 3 6 ((wi x 3 5 w).1 19 3)) (wi (wi y 0 2 w) 0 3 ((wi y 0 2 w).1 0 7)) ∧ ∀ k j, ¬ (k = 0 ∧ (j = 2 ∨ j = 3)) → (wi (wi y 0 2 w) 0 3 ((wi y 0 2 w).1 0 7)).1 k j = y.1 k j := by
    intro w F e f1 f2
    refine ⟨⟨h1.tr ((FXr_wi (by omega)).tr (FXr_wi (by omega))), h2.tr ((FYr_wi (.inr (by omega))).tr (FYr_wi (.inr (by omega)))), ?_, ?_, F, ?_, f1, f2⟩, fun k j q => ?_⟩
    · rw [wi_1, if_neg (by decide), wi_1, if_pos ⟨rfl, rfl⟩, wi_1, if_neg (by decide), wi_1, if_pos ⟨rfl, rfl⟩]
    · rw [wi_1, if_pos ⟨rfl, rfl⟩, wi_1, if_neg (by decide), wi_1, if_pos ⟨rfl, rfl⟩, wi_1, if_neg (by decide), h3.2.2.1, h3.2.2.2.1]
    · rw [wi_1, if_neg (by decide), wi_1, if_pos ⟨rfl, rfl⟩, e]
    · rw [wi_1, if_neg (by omega), wi_1, if_neg (by omega)]
  unfold fX4_refuse fX11_wrong fX4_refuse_18 fX11_wrong_22
  rw [h4, if_pos le0]
  have hk : y.1 0 6 = 3 ↔ x.1 19 2 = 22 := KD.iff h3.2.2.2.2.1 (a := 3) (b := 22) (by decide) (by omega)
  by_cases z : x.1 19 2 = 22
  · rw [if_pos z, if_pos (hk.mpr z)]
    exact ⟨_, _, rfl, rfl, key 1 1 rfl (by decide) (by decide)⟩
  · rw [if_neg z, if_neg (fun q => z (hk.mp q))]
    exact ⟨_, _, rfl, rfl, key v a hv ha.1 ha.2⟩
theorem refuse_sp {v : Int32} {a : Nat} (h : RD x0 y0 t L c x y) (hv : v = nI a) (ha : 1 ≤ a ∧ a ≤ 5) : ∃ x' y', fX4_refuse v x = some (0, x') ∧ fX11_wrong v y = some y' ∧ FL x0 y0 t x' y' := by
  obtain ⟨x', y', h1, h2, h3, -⟩ := refuse_g h.1 h.2.1 h.2.2.1 h.f0 hv ha
  exact ⟨x', y', h1, h2, h3⟩
theorem wrong_F {v : Int32} (h : FL x0 y0 t x y) : fX11_wrong v y = some y := by
  unfold fX11_wrong
  rw [if_neg h.n0]
theorem step_sp (h : RD x0 y0 t L c x y) (h1 : x.1 19 2 ≠ 22) (h2 : x.1 19 2 ≠ 21) : ∃ x' y' c', fX7_step x = some x' ∧ fX11_token y = some y' ∧ RD x0 y0 t L c' x' y' ∧ c < c' ∧ TX x x' ∧ TY y y' := by
  obtain ⟨a1, a2, a3, a4, a5, a6⟩ := h
  obtain ⟨x', y', c', b1, b2, b3, b4, b5, b6⟩ := tok_step a3 h1 h2
  exact ⟨x', y', c', b1, b2, ⟨a1.tr b5.fr, a2.tr b6.fr, b3, DR_ext a4 (b5.ex a6) b6.ey, by rw [b5.1]; exact a5, a6⟩, b4, b5, b6⟩
/-- the reference writes where nothing is told yet -/
theorem RD_y {y' : gS} (h : RD x0 y0 t L c x y) (hf : FYr y y') (hy : EY y y') (ht : ∀ k j, (k = 0 ∧ 4 ≤ j ∧ j ≤ 8) ∨ k = 1 → y'.1 k j = y.1 k j) (hl : y'.2.1 0 9 = y.2.1 0 9) : RD x0 y0 t L c x y' := by
  obtain ⟨a1, a2, a3, a4, a5, a6⟩ := h
  obtain ⟨p1, p2, p3, p4, p5, p6⟩ := a3
  refine ⟨a1, a2.tr hf, ⟨⟨p1.1, p1.2.1, (ht 0 5 (by omega)).trans p1.2.2.1, fun i hi => by rw [ht 1 i (by omega)]; exact p1.2.2.2 i hi⟩, p2, p3, (ht 0 7 (by omega)).trans p4, ?_, ?_⟩, DR_ext a4 (EX.rf x) hy, a5, a6⟩
  · unfold KD at p5 ⊢
    rw [ht 0 6 (by omega), ht 0 8 (by omega), hl]
    exact p5
  · rw [ht 0 4 (by omega)]
    exact p6
theorem pass_sp {k : Nat} {w : Int64} {v : Int32} (h : RD x0 y0 t L c x y) (hk : k < 19) (hw : gWords.getD k 0 = w) (hv : v = nI k) :
    (∃ x' y', fX4_pass v x = some (0, x') ∧ fX11_want w y = some y' ∧ FL x0 y0 t x' y') ∨ ∃ x' y' c', fX4_pass v x = some (1, x') ∧ fX11_want w y = some y' ∧ RD x0 y0 t L c' x' y' ∧ c < c' ∧ TX x x' ∧ TY y y' := by
  subst hv
  obtain ⟨w1, w2⟩ := isW h.kd hk hw
  unfold fX4_pass fX11_want
  rw [h.f0, if_pos le0]
  by_cases z : x.1 19 2 = nI k
  · have n1 : x.1 19 2 ≠ 22 := fun q => by have := (nI_inj (b := 22) (by omega) (by decide)).mp (z.symm.trans q); omega
    have n2 : x.1 19 2 ≠ 21 := fun q => by have := (nI_inj (b := 21) (by omega) (by decide)).mp (z.symm.trans q); omega
    obtain ⟨x', y', c', b1, b2, b3, b4, b5, b6⟩ := step_sp h n1 n2
    rw [if_pos z, b1, w1 z, bd, bd]
    dsimp only
    rw [if_neg one0, b2, bd]
    exact .inr ⟨x', y', c', rfl, rfl, b3, b4, b5, b6⟩
  · obtain ⟨x', y', r1, r2, r3⟩ := refuse_sp h (v := 2) (a := 2) rfl (by decide)
    rw [if_neg z, r1, w2 z, bd, bd]
    dsimp only
    rw [if_pos rfl, r2, bd, gc_p (show gB 0 by decide)]
    exact .inl ⟨x', y', rfl, rfl, r3⟩
theorem want_F {w : Int64} (h : FL x0 y0 t x y) : fX11_want w y = some y := by
  unfold fX11_want
  rw [if_neg h.n0]
theorem toldN_F {a b : Int32} (h : FL x0 y0 t x y) : fX11_toldNumber a b y = some (0, y) := by
  unfold fX11_toldNumber
  rw [if_neg h.n0]
theorem told_F {w : Int64} {a b : Int32} (h : FL x0 y0 t x y) : fX11_told w a b y = some (0, y) := by
  unfold fX11_told
  rw [want_F h, bd, toldN_F h]
  rfl
theorem takes_F {w : Int64} (h : FL x0 y0 t x y) : fX11_takes w y = some (0, y) := by
  unfold fX11_takes fX11_takes_19 fX11_takes_20
  rw [if_neg h.n1, if_pos rfl, gc_p (show gB 0 by decide)]
theorem oldName_F {a b : Int32} (h : FL x0 y0 t x y) : fX11_oldName a b y = some (0, y) := by
  unfold fX11_oldName
  rw [if_neg h.n0]
theorem figure_F (h : FL x0 y0 t x y) : fX11_figure y = some (0, y) := by
  unfold fX11_figure
  rw [oldName_F h, bd]
  dsimp only
  rw [if_neg h.n1]
theorem passN_sp {a b : Nat} {u v : Int32} (h : RD x0 y0 t L c x y) (hu : u = nI a) (hv : v = nI b) (ha : a < 10000) (hb : b < 10000) :
    (∃ x' y' r, fX4_passNumber u v x = some (-1, x') ∧ fX11_toldNumber u v y = some (r, y') ∧ FL x0 y0 t x' y') ∨ ∃ x' y' c' n, fX4_passNumber u v x = some (nI n, x') ∧ fX11_toldNumber u v y = some (nI n, y') ∧ a ≤ n ∧ n ≤ b ∧ x.1 19 4 = nI n ∧ y.1 0 8 = nI n ∧ x.1 19 2 = 20 ∧ RD x0 y0 t L c' x' y' ∧ c < c' ∧ TX x x' ∧ TY y y' := by
  subst hu hv
  have hk : y.1 0 6 = 2 ↔ x.1 19 2 = 20 := h.kd.iff (a := 2) (b := 20) (by decide) (by omega)
  unfold fX4_passNumber fX11_toldNumber
  rw [h.f0, if_pos le0]
  by_cases z : x.1 19 2 = 20
  · have hN : x.1 19 4 = y.1 0 8 ∧ isN (y.1 0 8) 10000 := by
      rcases h.kd with ⟨q, -⟩ | ⟨k, k0, q, -⟩ | ⟨-, -, q⟩ | ⟨q, -⟩ | ⟨q1, q2⟩
      · rw [z] at q; exact absurd q (by decide)
      · rw [z] at q; have := (nI_inj (a := 20) (by decide) (by omega)).mp q; omega
      · exact q
      · rw [z] at q; exact absurd q (by decide)
      · rw [← q2, z] at q1; exact absurd q1 (by decide)
    obtain ⟨n1, n2⟩ := hN
    have hn := n2.2
    rw [if_pos z, if_pos (hk.mpr z), n1, n2.1]
    generalize hm : vN (y.1 0 8) = n at *
    have bad : ∃ x' y' r, fX4_passNumber_38 (nI a) (nI b) x = some (-1, x') ∧ fX11_toldNumber_41 (nI a) (nI b) y = some (r, y') ∧ FL x0 y0 t x' y' := by
      obtain ⟨x', y', r1, r2, r3⟩ := refuse_sp h (v := 4) (a := 4) rfl (by decide)
      unfold fX4_passNumber_38 fX11_toldNumber_41 fX11_toldNumber_46
      rw [r1, r2, bd, bd, if_neg r3.n1]
      exact ⟨x', y', _, rfl, rfl, r3⟩
    by_cases z1 : n < a
    · have z1' := (nI_lt' (a := n) (b := a) (by omega) (by omega)).mpr z1
      rw [if_pos z1', if_pos z1']
      exact .inl bad
    · have z1' : ¬ nI n < nI a := fun q => z1 ((nI_lt' (by omega) (by omega)).mp q)
      rw [if_neg z1', if_neg z1']
      by_cases z2 : n ≤ b
      · have z2' := (nI_le' (a := n) (b := b) (by omega) (by omega)).mpr z2
        obtain ⟨x', y', c', b1, b2, b3, b4, b5, b6⟩ := step_sp h (by rw [z]; decide) (by rw [z]; decide)
        unfold fX11_toldNumber_46
        rw [if_pos z2', if_pos z2', b1, h.f0, if_pos rfl, b2, bd, bd, n2.1, hm]
        exact .inr ⟨x', y', c', n, rfl, rfl, by omega, z2, rfl, rfl, z, b3, b4, b5, b6⟩
      · have z2' : ¬ nI n ≤ nI b := fun q => z2 ((nI_le' (by omega) (by omega)).mp q)
        rw [if_neg z2', if_neg z2']
        exact .inl bad
  · obtain ⟨x', y', r1, r2, r3⟩ := refuse_sp h (v := 2) (a := 2) rfl (by decide)
    rw [if_neg z, if_neg (fun q => z (hk.mp q)), r1, r2, bd, bd]
    unfold fX11_toldNumber_46
    rw [if_neg r3.n1]
    exact .inl ⟨x', y', _, rfl, rfl, r3⟩
theorem takes_sp {k : Nat} {w : Int64} (h : RD x0 y0 t L c x y) (hk : k < 19) (hw : gWords.getD k 0 = w) :
    (¬ x.1 19 2 = nI k ∧ fX11_takes w y = some (0, y)) ∨ (x.1 19 2 = nI k ∧ ∃ x' y' c', fX7_step x = some x' ∧ fX11_takes w y = some (1, y') ∧ RD x0 y0 t L c' x' y' ∧ c < c' ∧ TX x x' ∧ TY y y') := by
  obtain ⟨w1, w2⟩ := isW h.kd hk hw
  unfold fX11_takes fX11_takes_19 fX11_takes_20
  rw [h.f0, if_pos rfl]
  by_cases z : x.1 19 2 = nI k
  · have n1 : x.1 19 2 ≠ 22 := fun q => by have := (nI_inj (b := 22) (by omega) (by decide)).mp (z.symm.trans q); omega
    have n2 : x.1 19 2 ≠ 21 := fun q => by have := (nI_inj (b := 21) (by omega) (by decide)).mp (z.symm.trans q); omega
    obtain ⟨x', y', c', b1, b2, b3, b4, b5, b6⟩ := step_sp h n1 n2
    rw [w1 z, bd]
    dsimp only
    rw [if_neg one0, if_neg one0, b2, bd, gc_p (show gB 1 by decide)]
    exact .inr ⟨z, x', y', c', b1, rfl, b3, b4, b5, b6⟩
  · rw [w2 z, bd]
    dsimp only
    rw [if_pos rfl, if_pos rfl, gc_p (show gB 0 by decide)]
    exact .inl ⟨z, rfl⟩
end RO
