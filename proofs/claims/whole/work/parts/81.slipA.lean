/-! ===== how slip is read: the class by its rules, the reference by what waits ===== -/
/-- what waits: a bracket 20, a not 21, or a sign -/
def opB (a : Nat) : Prop := a = 124 ∨ a = 38 ∨ a = 60 ∨ a = 62 ∨ a = 61 ∨ a = 43 ∨ a = 45 ∨ a = 42 ∨ a = 47 ∨ a = 37
def opA (a : Nat) : Prop := a = 21 ∨ opB a
def ti (a : Nat) : Nat := if a = 21 then 3 else if a = 38 then 2 else if a = 43 then 5 else if a = 45 then 5 else if a = 60 then 4 else if a = 61 then 4 else if a = 62 then 4 else if a = 124 then 1 else 6
/-- the class's step for it -/
def cod (a : Nat) : Int32 := if a = 21 then -16 else if a = 124 then -14 else if a = 38 then -15 else -(nI a) - 1
def nots : List Nat → Nat
  | [] => 0
  | a :: l => (if a = 21 then 1 else 0) + nots l
def atS (y : gS) : List Nat → Prop
  | [] => True
  | a :: l => y.1 7 l.length = nI a ∧ atS y l
def hasRel : List Nat → Bool
  | [] => false
  | a :: l => if a = 20 then false else if 4 < ti a then hasRel l else decide (ti a = 4)
def mayN : List Nat → Bool
  | [] => true
  | a :: _ => decide (a = 20) || decide (ti a < 4)
def low (l : Nat) : List Nat → Prop
  | [] => True
  | a :: _ => a = 20 ∨ ti a < l
theorem opB_lt {a : Nat} (h : opB a) : a < 125 := by unfold opB at h; omega
theorem opA_lt {a : Nat} (h : opA a) : a < 125 := by unfold opA opB at h; omega
theorem opA_20 {a : Nat} (h : opA a) : a ≠ 20 := by unfold opA opB at h; omega
theorem opB_21 {a : Nat} (h : opB a) : a ≠ 21 := by unfold opB at h; omega
theorem ti_6 (a : Nat) : ti a ≤ 6 := by
  unfold ti
  repeat (first | omega | (split; · omega))
theorem low_mono {l l' : Nat} {S : List Nat} (h : low l S) (hl : l ≤ l') : low l' S := by
  cases S with
  | nil => trivial
  | cons a r => exact h.imp id fun q => Nat.lt_of_lt_of_le q hl
theorem mayN_low {S : List Nat} (h : low 4 S) : mayN S = true := by
  cases S with
  | nil => rfl
  | cons a r =>
    unfold mayN
    rcases h with q | q
    · simp [q]
    · simp [q]
theorem tight_sp {a : Nat} (h : a = 20 ∨ opA a) (st : gS) : fX11_tight (nI a) st = some (nI (ti a), st) := by
  unfold opA opB at h
  rcases h with h | h | h | h | h | h | h | h | h | h | h | h <;> subst h <;> rfl
theorem atS_c {y y' : gS} (h : ∀ j, y'.1 7 j = y.1 7 j) : ∀ {l : List Nat}, atS y l → atS y' l := by
  intro l
  induction l with
  | nil => exact fun h => h
  | cons a l ih => exact fun q => ⟨(h _).trans q.1, ih q.2⟩
theorem atS_p {y : gS} {j : Nat} {v : Int32} : ∀ {l : List Nat}, l.length ≤ j → atS y l → atS (wi y 7 j v) l := by
  intro l
  induction l with
  | nil => exact fun _ h => h
  | cons a l ih =>
    intro hl q
    have hl : l.length + 1 ≤ j := hl
    exact ⟨by rw [wi_1, if_neg (by omega)]; exact q.1, ih (by omega) q.2⟩
/-- how deep the pile is, by the class's steps -/
def kdv (v : Int32) : Nat := if v = -16 then 2 else if v = -14 ∨ v = -15 ∨ v = -38 ∨ v = -43 ∨ v = -44 ∨ v = -46 ∨ v = -48 ∨ v = -61 ∨ v = -62 ∨ v = -63 then 3 else 0
def dxx (g : Nat → Int32) : Nat → Option Nat
  | 0 => some 0
  | n + 1 => (dxx g n).bind fun d => if kdv (g n) = 0 then some (d + 1) else if kdv (g n) = 2 then (if 1 ≤ d then some d else none) else (if 2 ≤ d then some (d - 1) else none)
theorem dxx_c {g g' : Nat → Int32} : ∀ {n : Nat}, (∀ i, i < n → g' i = g i) → dxx g' n = dxx g n := by
  intro n
  induction n with
  | zero => intro _; rfl
  | succ n ih =>
    intro h
    show (dxx g' n).bind _ = (dxx g n).bind _
    rw [ih (fun i hi => h i (by omega)), h n (by omega)]
theorem kdv_n {v : Int32} (h : ¬ v < 0) : kdv v = 0 := by
  have q : ∀ w : Int32, w < 0 → ¬ v = w := fun w hw e => h (e ▸ hw)
  unfold kdv
  rw [if_neg (q _ (by decide)), if_neg]
  intro z
  rcases z with z | z | z | z | z | z | z | z | z | z <;> exact q _ (by decide) z
theorem kdv_21 : kdv (cod 21) = 2 := by decide
theorem kdv_B {a : Nat} (h : opB a) : kdv (cod a) = 3 := by
  rcases h with h | h | h | h | h | h | h | h | h | h <;> subst h <;> decide
theorem stp_B {a : Nat} (h : opB a) : stp (cod a) 3 (nI a) := by
  unfold stp
  right; right; right
  refine ⟨rfl, ?_⟩
  rcases h with h | h | h | h | h | h | h | h | h | h <;> subst h <;> decide
theorem stp_21 : stp (cod 21) 2 0 := .inr (.inr (.inl ⟨rfl, rfl, rfl⟩))
theorem stp_k {v s a : Int32} (h : stp v s a) : (kdv v = 0 ∧ (s = 0 ∨ s = 1)) ∨ (kdv v = 2 ∧ s = 2) ∨ (kdv v = 3 ∧ s = 3) := by
  rcases h with ⟨h1, -, h3⟩ | ⟨h1, h2⟩ | ⟨h1, -, h3⟩ | ⟨h1, h2⟩
  · refine .inl ⟨?_, .inl h1⟩
    rw [h3.1]
    have := h3.2
    exact kdv_n (nI_nn (by omega))
  · refine .inl ⟨?_, .inr h1⟩
    rcases h2 with ⟨-, q⟩ | ⟨-, q⟩ | ⟨-, q⟩ | ⟨-, q⟩ | ⟨-, q⟩ <;> rw [q] <;> decide
  · exact .inr (.inl ⟨by rw [h3]; decide, h1⟩)
  · refine .inr (.inr ⟨?_, h1⟩)
    rcases h2 with ⟨-, q⟩ | ⟨-, q⟩ | ⟨z, q⟩
    · rw [q]; decide
    · rw [q]; decide
    · rw [q]
      rcases z with z | z | z | z | z | z | z | z <;> rw [z] <;> decide
theorem dpq_x {g s a : Nat → Int32} : ∀ {n : Nat}, (∀ i, i < n → stp (g i) (s i) (a i)) → dpq s n = dxx g n := by
  intro n
  induction n with
  | zero => intro _; rfl
  | succ n ih =>
    intro h
    show (dpq s n).bind _ = (dxx g n).bind _
    rw [ih (fun i hi => h i (by omega))]
    congr 1
    funext d
    rcases stp_k (h n (by omega)) with ⟨h1, h2⟩ | ⟨h1, h2⟩ | ⟨h1, h2⟩
    · rw [if_pos h1, if_pos h2]
    · rw [h1, h2, if_neg (show ¬ ((2 : Int32) = 0 ∨ (2 : Int32) = 1) by decide), if_pos (show (2 : Int32) = 2 from rfl), if_neg (show ¬ (2 : Nat) = 0 by decide), if_pos (show (2 : Nat) = 2 from rfl)]
    · rw [h1, h2, if_neg (show ¬ ((3 : Int32) = 0 ∨ (3 : Int32) = 1) by decide), if_neg (show ¬ (3 : Int32) = 2 by decide), if_neg (show ¬ (3 : Nat) = 0 by decide), if_neg (show ¬ (3 : Nat) = 2 by decide)]
/-! ===== the relation while slip is read ===== -/
def SX (t : Nat) (x x' : gS) : Prop := x'.2.2 = x.2.2 ∧ (∀ k j, ¬ (k = 19 ∨ (k = 3 ∧ j = 4) ∨ k = t + 1 + 11 ∨ k = t + 1 + 11 + 1 + 0) → x'.1 k j = x.1 k j) ∧ ∀ k j, k ≠ 19 → x'.2.1 k j = x.2.1 k j
def SY (y y' : gS) : Prop := (∀ k j, ¬ ((k = 0 ∧ (j = 4 ∨ j = 6 ∨ j = 7 ∨ j = 8 ∨ j = 17 ∨ j = 19 ∨ j = 20 ∨ j = 22 ∨ j = 23)) ∨ k = 3 ∨ k = 4 ∨ k = 7) → y'.1 k j = y.1 k j) ∧ ∀ k j, ¬ (k = 0 ∧ j = 9) → y'.2.1 k j = y.2.1 k j
def SL (t : Nat) (x y : gS) : Prop := DRf t x y ∧ DRt t x y ∧ DRw t x y ∧ DRm t x y ∧ DRc t x y ∧ y.1 0 52 = 1 ∧ x.1 3 5 = 0 ∧ x.1 3 6 = -1 ∧ y.1 0 2 = 0 ∧ y.1 0 3 = -1
theorem SL_ext {t : Nat} {x y x' y' : gS} (ht : t = 4 ∨ t = 194) (h : SL t x y) (hx : SX t x x') (hy : SY y y') : SL t x' y' := by
  obtain ⟨m1, m2, m3, m4, m5, m6, m7, m8, m9, m10⟩ := h
  obtain ⟨-, g1, g2⟩ := hx
  obtain ⟨k1, k2⟩ := hy
  refine ⟨?_, ?_, ?_, ?_, ?_, (k1 0 52 (by omega)).trans m6, (g1 3 5 (by omega)).trans m7, (g1 3 6 (by omega)).trans m8, (k1 0 2 (by omega)).trans m9, (k1 0 3 (by omega)).trans m10⟩
  · exact DRf_ext m1 (k1 0 43 (by omega)) (g1 t 12 (by omega)) (fun i _ => g2 _ i (by omega)) (fun i _ => k2 2 i (by omega))
  · exact DRt_ext m2 (k1 0 44 (by omega)) (g1 t 13 (by omega)) (g1 t 15 (by omega)) (fun k _ => ⟨g2 _ k (by omega), k2 2 _ (by omega), g1 _ k (by omega), g1 _ k (by omega), k1 _ k (by omega), k1 _ k (by omega), k1 _ k (by omega)⟩)
  · exact DRw_ext m3 (k1 0 44 (by omega)) (fun j => g1 _ j (by omega)) (fun k f _ _ => k1 _ _ (by omega))
  · exact DRm_ext m4 (by show vN (y.1 0 43) ≤ vN (y'.1 0 43); rw [k1 0 43 (by omega)]; exact Nat.le_refl _) (k1 0 45 (by omega)) (g1 t 14 (by omega)) (fun m _ k a1 a2 => ⟨g1 _ m (by omega), k1 _ m (by omega)⟩)
  · exact DRc_ext m5 (fun j j1 j2 => k1 0 j (by omega)) (fun j j1 j2 => g1 t j (by omega)) (fun j j1 j2 => g1 3 j (by omega))
def SB (x0 y0 : gS) (t L c : Nat) (x y : gS) : Prop := FXr t x0 x ∧ FYr y0 y ∧ TK x y c L ∧ SL t x y ∧ x.2.2 3 1 = t ∧ (t = 4 ∨ t = 194)
/-- the class: how deep it is, units, steps, the pile -/
def SC (t w u d k : Nat) (x : gS) : Prop := x.1 3 4 = nI w ∧ w ≤ 7 ∧ x.1 (t + 1 + 11) 3 = nI u ∧ u ≤ 30 ∧ x.1 (t + 1 + 11) 2 = nI k ∧ k ≤ 271 ∧ dxx (x.1 (t + 1 + 11 + 1 + 0)) k = some d ∧ d ≤ u ∧ ∀ i, i ≤ k → ∃ d', dxx (x.1 (t + 1 + 11 + 1 + 0)) i = some d' ∧ d' ≤ 30
/-- the reference: what waits -/
def SN (S P : List Nat) (w u : Nat) (y : gS) : Prop := y.1 0 23 = nI (w + nots P) ∧ y.1 0 20 = nI u ∧ y.1 0 22 = nI u ∧ y.1 0 19 = nI (P ++ S).length ∧ atS y (P ++ S) ∧ (P ++ S).length ≤ 70 ∧ (∀ a, a ∈ P → opA a) ∧ ∀ a, a ∈ S → a = 20 ∨ opA a
def SQ (t k : Nat) (P : List Nat) (x y : gS) : Prop := ∃ n, k = n + P.length ∧ y.1 0 17 = nI n ∧ (∀ i, i < n → stp (x.1 (t + 1 + 11 + 1 + 0) i) (y.1 3 i) (y.1 4 i)) ∧ ∀ i a, P[i]? = some a → x.1 (t + 1 + 11 + 1 + 0) (n + i) = cod a
def SR (x0 y0 : gS) (t L c : Nat) (S P : List Nat) (w u d k : Nat) (x y : gS) : Prop := SB x0 y0 t L c x y ∧ SC t w u d k x ∧ SN S P w u y ∧ SQ t k P x y
section SS
variable {x0 y0 x y : gS} {t L c w u d k : Nat} {S P : List Nat}
theorem TX.sx {x' : gS} (h : TX x x') : SX t x x' := ⟨h.1, fun k j q => h.2.1 k j (by omega), h.2.2⟩
theorem TY.sy {y' : gS} (h : TY y y') : SY y y' := ⟨fun k j q => h.1 k j (by omega), h.2⟩
theorem SX.fr {x' : gS} (h : SX t x x') (ht : t = 4 ∨ t = 194) : FXr t x x' := ⟨h.1, fun k j q => h.2.1 k j (by omega)⟩
theorem SY.fr {y' : gS} (h : SY y y') : FYr y y' := fun k j q => h.1 k j (by unfold rdY scrY at q; omega)
theorem SX.rf : SX t x x := ⟨rfl, fun _ _ _ => rfl, fun _ _ _ => rfl⟩
theorem SY.rf : SY y y := ⟨fun _ _ _ => rfl, fun _ _ _ => rfl⟩
theorem SX.tr {x' x'' : gS} (h1 : SX t x x') (h2 : SX t x' x'') : SX t x x'' := ⟨h2.1.trans h1.1, fun k j h => (h2.2.1 k j h).trans (h1.2.1 k j h), fun k j h => (h2.2.2 k j h).trans (h1.2.2 k j h)⟩
theorem SY.tr {y' y'' : gS} (h1 : SY y y') (h2 : SY y' y'') : SY y y'' := ⟨fun k j h => (h2.1 k j h).trans (h1.1 k j h), fun k j h => (h2.2 k j h).trans (h1.2 k j h)⟩
theorem SX_wi {k j : Nat} {v : Int32} (h : (k = 3 ∧ j = 4) ∨ k = t + 1 + 11 ∨ k = t + 1 + 11 + 1 + 0) : SX t x (wi x k j v) := ⟨rfl, fun a b q => by rw [wi_1, if_neg (by omega)], fun _ _ _ => rfl⟩
theorem SY_wi {k j : Nat} {v : Int32} (h : (k = 0 ∧ (j = 17 ∨ j = 19 ∨ j = 20 ∨ j = 22 ∨ j = 23)) ∨ k = 3 ∨ k = 4 ∨ k = 7) : SY y (wi y k j v) := ⟨fun a b q => by rw [wi_1, if_neg (by omega)], fun _ _ _ => rfl⟩
theorem SB.go {x' y' : gS} (h : SB x0 y0 t L c x y) (hx : SX t x x') (hy : SY y y') (h19 : ∀ j, x'.1 19 j = x.1 19 j) (h19l : ∀ j, x'.2.1 19 j = x.2.1 19 j) (h0 : ∀ j, 4 ≤ j → j ≤ 8 → y'.1 0 j = y.1 0 j) (h0l : y'.2.1 0 9 = y.2.1 0 9) : SB x0 y0 t L c x' y' := by
  obtain ⟨a1, a2, a3, a4, a5, a6⟩ := h
  refine ⟨a1.tr (hx.fr a6), a2.tr hy.fr, TK_c a3 (fun k j q => ?_) h19l (fun k j q => ?_) h0l, SL_ext a6 a4 hx hy, by rw [hx.1]; exact a5, a6⟩
  · rcases q with q | q | q
    · rw [q]; exact h19 j
    · exact hx.2.1 k j (by omega)
    · exact hx.2.1 k j (by omega)
  · rcases q with q | q
    · rw [q.1]; exact h0 j q.2.1 q.2.2
    · exact hy.1 k j (by omega)
theorem SB.kd (h : SB x0 y0 t L c x y) : KD x y := h.2.2.1.2.2.2.2.1
theorem SB.f0 (h : SB x0 y0 t L c x y) : y.1 0 2 = 0 := h.2.2.2.1.2.2.2.2.2.2.2.2.1
theorem SB.k8 (h : SB x0 y0 t L c x y) : gK 0 (x.2.2 3 1) = 8 := by
  rw [h.2.2.2.2.1]
  rcases h.2.2.2.2.2 with q | q <;> rw [q]
  · exact gk0_4
  · exact gk0_194
theorem SB.ref {v : Int32} {a : Nat} (h : SB x0 y0 t L c x y) (hv : v = nI a) (ha : 1 ≤ a ∧ a ≤ 5) : ∃ x' y', fX4_refuse v x = some (0, x') ∧ fX11_wrong v y = some y' ∧ FL x0 y0 t x' y' ∧ ∀ k j, ¬ (k = 0 ∧ (j = 2 ∨ j = 3)) → y'.1 k j = y.1 k j := refuse_g h.1 h.2.1 h.2.2.1 h.f0 hv ha
/-- both go over the token -/
theorem SR_tok (h : SR x0 y0 t L c S P w u d k x y) (h1 : x.1 19 2 ≠ 22) (h2 : x.1 19 2 ≠ 21) : ∃ x' y' c', fX7_step x = some x' ∧ fX11_token y = some y' ∧ SR x0 y0 t L c' S P w u d k x' y' ∧ c < c' := by
  obtain ⟨⟨a1, a2, a3, a4, a5, a6⟩, b, e, f⟩ := h
  obtain ⟨x', y', c', b1, b2, b3, b4, b5, b6⟩ := tok_step a3 h1 h2
  have gx : ∀ k j, k ≠ 19 → x'.1 k j = x.1 k j := b5.2.1
  have eg : x'.1 (t + 1 + 11 + 1 + 0) = x.1 (t + 1 + 11 + 1 + 0) := funext fun j => gx _ j (by omega)
  have e3 : y'.1 3 = y.1 3 := funext fun j => b6.1 3 j (by omega)
  have e4 : y'.1 4 = y.1 4 := funext fun j => b6.1 4 j (by omega)
  refine ⟨x', y', c', b1, b2, ⟨⟨a1.tr b5.fr, a2.tr b6.fr, b3, SL_ext a6 a4 b5.sx b6.sy, by rw [b5.1]; exact a5, a6⟩, ?_, ?_, ?_⟩, b4⟩
  · unfold SC at b ⊢
    rw [gx 3 4 (by omega), gx _ 3 (by omega), gx _ 2 (by omega), eg]
    exact b
  · unfold SN at e ⊢
    rw [b6.1 0 23 (by omega), b6.1 0 20 (by omega), b6.1 0 22 (by omega), b6.1 0 19 (by omega)]
    exact ⟨e.1, e.2.1, e.2.2.1, e.2.2.2.1, atS_c (fun j => b6.1 7 j (by omega)) e.2.2.2.2.1, e.2.2.2.2.2⟩
  · unfold SQ at f ⊢
    rw [b6.1 0 17 (by omega), eg, e3, e4]
    exact f
end SS
