/-! ===== what holds between the class's memory x and the reference's memory y ===== -/
abbrev vN (v : Int32) : Nat := v.toNatClampNeg
abbrev nF (y : gS) : Nat := vN (y.1 0 48)
abbrev nT (y : gS) : Nat := vN (y.1 0 49)
abbrev nM (y : gS) : Nat := vN (y.1 0 50)
abbrev fr (y : gS) (m : Nat) : Nat := vN (y.1 21 m)
abbrev tO (y : gS) (m : Nat) : Nat := vN (y.1 22 m)
abbrev fg (y : gS) (m : Nat) : Nat := vN (y.1 23 m)
abbrev hd (y : gS) (m : Nat) : Nat := vN (y.1 24 m)
abbrev sk (y : gS) (k : Nat) : Nat := vN (y.1 12 k)
abbrev sf (y : gS) (k : Nat) : Nat := vN (y.1 13 k)
abbrev wo (y : gS) (k f : Nat) : Nat := vN (y.1 15 (8 * k + f))
/-- a number that is a Nat below n -/
def isN (v : Int32) (n : Nat) : Prop := v = nI (vN v) ∧ vN v < n
def isF (y : gS) (v : Int32) : Prop := v = -1 ∨ isN v (nF y)
/-- the tribe k can do the move m -/
def cnb (y : gS) (k m : Nat) : Bool := !((sf y k).testBit (if y.1 27 k = 1 then 9 - fg y m else fg y m))
def WFs (y : gS) : Prop := isN (y.1 0 48) 9 ∧ isN (y.1 0 49) 6 ∧ isN (y.1 0 50) 17 ∧ isN (y.1 0 51) 100
def WFm (y : gS) (m : Nat) : Prop := isN (y.1 21 m) (nF y) ∧ isN (y.1 22 m) (nF y) ∧ isN (y.1 23 m) 10 ∧ isN (y.1 24 m) 10 ∧ isF y (y.1 25 m)
def WFk (y : gS) (k : Nat) : Prop := isN (y.1 12 k) 10 ∧ isN (y.1 13 k) 1024 ∧ gB (y.1 27 k) ∧ ∀ f, f < 8 → isN (y.1 15 (8 * k + f)) 100
def WFy (y : gS) : Prop := WFs y ∧ (∀ m, m < nM y → WFm y m) ∧ ∀ k, k < nT y → WFk y k
/-- the class's treaty t is the reference's -/
def XTs (x : gS) (t : Nat) (y : gS) : Prop := x.1 t 12 = y.1 0 48 ∧ x.1 t 13 = y.1 0 49 ∧ x.1 t 14 = y.1 0 50 ∧ x.1 t 16 = y.1 0 51
def XTm (x : gS) (t : Nat) (y : gS) (m : Nat) : Prop := x.1 (t + 1 + 6) m = y.1 21 m ∧ x.1 (t + 1 + 7) m = y.1 22 m ∧ x.1 (t + 1 + 8) m = y.1 23 m ∧ x.1 (t + 1 + 9) m = y.1 24 m ∧ x.1 (t + 1 + 10) m = y.1 25 m
def XTk (x : gS) (t : Nat) (y : gS) (k : Nat) : Prop := x.1 (t + 1 + 2) k = y.1 12 k ∧ x.1 (t + 1 + 3) k = y.1 13 k ∧ (vN (x.1 t 15)).testBit k = decide (y.1 27 k = 1) ∧ isN (x.1 (t + 1 + 4) k) 65536 ∧ (∀ m, (vN (x.1 (t + 1 + 4) k)).testBit m = (decide (m < nM y) && cnb y k m)) ∧ ∀ f, f < nF y → (x.1 (t + 1 + 5) (8 * k + f) = y.1 15 (8 * k + f) ∨ (x.1 (t + 1 + 5) (8 * k + f) = -1 ∧ y.1 15 (8 * k + f) = 0))
def XT (x : gS) (t : Nat) (y : gS) : Prop := XTs x t y ∧ isN (x.1 t 15) 32 ∧ (∀ m, m < nM y → XTm x t y m) ∧ ∀ k, k < nT y → XTk x t y k
/-- one step of slip: the class's number, the reference's sort and number -/
def stp (v s a : Int32) : Prop := (s = 0 ∧ v = a ∧ isN v 10000) ∨ (s = 1 ∧ ((a = 0 ∧ v = -8) ∨ (a = 1 ∧ v = -3) ∨ (a = 2 ∧ v = -17) ∨ (a = 3 ∧ v = -18) ∨ (a = 4 ∧ v = -19))) ∨ (s = 2 ∧ a = 0 ∧ v = -16) ∨ (s = 3 ∧ ((a = 124 ∧ v = -14) ∨ (a = 38 ∧ v = -15) ∨ ((a = 37 ∨ a = 42 ∨ a = 43 ∨ a = 45 ∨ a = 47 ∨ a = 60 ∨ a = 61 ∨ a = 62) ∧ v = -a - 1)))
/-- how many numbers lie on the pile behind the first n steps; none if they don't suffice -/
def dpt (y : gS) : Nat → Option Nat
  | 0 => some 0
  | n + 1 => (dpt y n).bind fun d => if y.1 5 n = 0 ∨ y.1 5 n = 1 then some (d + 1) else if y.1 5 n = 2 then (if 1 ≤ d then some d else none) else (if 2 ≤ d then some (d - 1) else none)
def XS (x : gS) (t : Nat) (y : gS) : Prop := isN (y.1 0 18) 272 ∧ isN (y.1 0 21) 31 ∧ x.1 (t + 12) 2 = y.1 0 18 ∧ x.1 (t + 12) 3 = y.1 0 21 ∧ (vN (y.1 0 21) = 0 ↔ vN (y.1 0 18) = 0) ∧ (∀ i, i < vN (y.1 0 18) → stp (x.1 (t + 13) i) (y.1 5 i) (y.1 6 i)) ∧ (∀ i, i ≤ vN (y.1 0 18) → ∃ d, dpt y i = some d ∧ d ≤ 30) ∧ (vN (y.1 0 18) ≠ 0 → dpt y (vN (y.1 0 18)) = some 1)
/-- a row that tells how it is with the cord -/
def rowOK (y : gS) (g : Nat → Int32) : Prop := ((nF y = 0 ∧ g 0 = -1) ∨ isN (g 0) (nF y)) ∧ ((nT y = 0 ∧ g 1 = -1) ∨ isN (g 1) (nT y)) ∧ gB (g 3) ∧ isN (g 16) 1000
/-- the class's state k is that row -/
def stR (x : gS) (k : Nat) (g : Nat → Int32) : Prop := x.1 k 2 = g 0 ∧ x.1 k 3 = g 1 ∧ x.1 k 4 = g 2 ∧ x.1 k 5 = g 3 ∧ x.1 k 6 = g 14 ∧ x.1 k 7 = g 15 ∧ x.1 k 8 = g 16 ∧ x.1 k 9 = g 17 ∧ (∀ i, i < 5 → x.1 (k + 1) i = g (4 + i)) ∧ ∀ i, i < 5 → x.1 (k + 2) i = g (9 + i)
def rw (y : gS) (c o : Nat) : Nat → Int32 := fun j => y.1 c (18 * o + j)
def Itape (x y : gS) : Prop := isN (y.1 0 1) 1601 ∧ x.1 1 1 = y.1 0 1 ∧ ∀ i, i < vN (y.1 0 1) → isN (y.1 1 i) 256 ∧ x.1 2 i = (y.1 1 i).toInt8.toInt32
def Ifault (x y : gS) : Prop := x.1 3 5 = y.1 0 2 ∧ x.1 3 6 = y.1 0 3
def Irefs (x : gS) : Prop := ((x.2.2 0 9 = 4 ∧ x.2.2 3 1 = 194) ∨ (x.2.2 0 9 = 194 ∧ x.2.2 3 1 = 4)) ∧ (∀ b, b < 3 → x.2.2 148 b = 209 + 3 * b) ∧ (∀ i, i < 41 → ∃ j, j < 41 ∧ x.2.2 24 i = 25 + 3 * j) ∧ ∀ i j, i < 41 → j < 41 → x.2.2 24 i = x.2.2 24 j → i = j
def Inow (x y : gS) : Prop := rowOK y (y.1 28) ∧ stR x 20 (y.1 28)
/-- acts kept, undone: the states behind each act, the rows ahead of it or behind it -/
def Ihist (x y : gS) : Prop := isN (y.1 0 58) 41 ∧ isN (y.1 0 59) 41 ∧ vN (y.1 0 58) + vN (y.1 0 59) ≤ 40 ∧ x.1 23 1 = y.1 0 58 ∧ x.1 23 2 = y.1 0 58 + y.1 0 59 ∧
  (∀ i, i < vN (y.1 0 58) → rowOK y (rw y 30 i) ∧ stR x (x.2.2 24 i) (rw y 30 i)) ∧ stR x (x.2.2 24 (vN (y.1 0 58))) (y.1 28) ∧
  ∀ i, vN (y.1 0 58) ≤ i → i < vN (y.1 0 58) + vN (y.1 0 59) → rowOK y (rw y 30 i) ∧ stR x (x.2.2 24 (i + 1)) (rw y 30 i)
def Ibox (x y : gS) : Prop := ∀ b, b < 3 → gB (y.1 45 b) ∧ x.1 149 b = y.1 45 b ∧ (y.1 45 b = 1 → rowOK y (rw y 46 b) ∧ stR x (209 + 3 * b) (rw y 46 b))
def Ipast (x y : gS) : Prop := isN (y.1 0 73) 31 ∧ isN (y.1 0 74) 100001 ∧ x.1 169 10 = y.1 0 73 ∧ x.1 169 11 = y.1 0 74 ∧ ∀ i, i < vN (y.1 0 73) → gB (y.1 37 i) ∧ gB (y.1 42 i) ∧ isN (y.1 38 i) 7 ∧ (y.1 37 i = 0 → isN (y.1 39 i) (nF y)) ∧ (y.1 37 i = 1 → isN (y.1 39 i) 10 ∧ 1 ≤ vN (y.1 38 i)) ∧ isN (y.1 40 i) 100001 ∧ (y.1 41 i = -1 ∨ isN (y.1 41 i) 100001) ∧
  x.1 170 i = y.1 37 i ∧ x.1 171 i = y.1 42 i ∧ x.1 172 i = y.1 38 i ∧ x.1 173 i = y.1 39 i ∧ x.1 174 i = y.1 40 i ∧ x.1 175 i = y.1 41 i
def Ilie (x y : gS) : Prop := isN (y.1 0 62) 17 ∧ x.1 150 7 = y.1 0 62 ∧ ∀ i, i < vN (y.1 0 62) → x.1 152 i = y.1 32 i
def Inv (x y : gS) : Prop := Itape x y ∧ Ifault x y ∧ Irefs x ∧ WFy y ∧ XT x (x.2.2 0 9) y ∧ XS x (x.2.2 0 9) y ∧ Inow x y ∧ Ihist x y ∧ Ibox x y ∧ Ipast x y ∧ Ilie x y
/-- scratch: what nobody reads before it is written -/
def scrX (k j : Nat) : Prop := k = 18 ∨ k = 208 ∨ ((k = 16 ∨ k = 206) ∧ j = 4) ∨ k = 151 ∨ (153 ≤ k ∧ k ≤ 166) ∨ (k = 150 ∧ (j = 8 ∨ j = 9)) ∨ k = 168 ∨ k = 176 ∨ k = 177 ∨ (178 ≤ k ∧ k ≤ 193) ∨ k = 19 ∨ (k = 3 ∧ j ≤ 4)
def scrY (k j : Nat) : Prop := (k = 0 ∧ ((4 ≤ j ∧ j ≤ 9) ∨ j = 17 ∨ j = 19 ∨ j = 20 ∨ j = 22 ∨ j = 23 ∨ (43 ≤ j ∧ j ≤ 47) ∨ (52 ≤ j ∧ j ≤ 54))) ∨ (2 ≤ k ∧ k ≤ 4) ∨ (7 ≤ k ∧ k ≤ 11) ∨ k = 14 ∨ (16 ≤ k ∧ k ≤ 20) ∨ k = 26 ∨ k = 29 ∨ k = 31 ∨ (33 ≤ k ∧ k ≤ 36) ∨ k = 43 ∨ k = 44
def FX (x x' : gS) : Prop := x'.2.2 = x.2.2 ∧ ∀ k j, ¬ scrX k j → x'.1 k j = x.1 k j
def FY (y y' : gS) : Prop := ∀ k j, ¬ scrY k j → y'.1 k j = y.1 k j
theorem FX.rf (x : gS) : FX x x := ⟨rfl, fun _ _ _ => rfl⟩
theorem FY.rf (y : gS) : FY y y := fun _ _ _ => rfl
theorem FX.tr {x x' x'' : gS} (h1 : FX x x') (h2 : FX x' x'') : FX x x'' := ⟨h2.1.trans h1.1, fun k j h => (h2.2 k j h).trans (h1.2 k j h)⟩
theorem FY.tr {x x' x'' : gS} (h1 : FY x x') (h2 : FY x' x'') : FY x x'' := fun k j h => (h2 k j h).trans (h1 k j h)
theorem FX_wi {x : gS} {k j : Nat} {v : Int32} (h : scrX k j) : FX x (wi x k j v) := ⟨rfl, fun a b hs => by
  by_cases e : a = k
  · subst e
    have hj : b ≠ j := fun e => hs (e ▸ h)
    simp [wi, upd, hj]
  · simp [wi, e]⟩
theorem FY_wi {x : gS} {k j : Nat} {v : Int32} (h : scrY k j) : FY x (wi x k j v) := fun a b hs => by
  by_cases e : a = k
  · subst e
    have hj : b ≠ j := fun e => hs (e ▸ h)
    simp [wi, upd, hj]
  · simp [wi, e]
theorem stR_fr {x x' : gS} {k : Nat} {g : Nat → Int32} (h : FX x x') (hk : (20 ≤ k ∧ k ≤ 22) ∨ (25 ≤ k ∧ k ≤ 145) ∨ (209 ≤ k ∧ k ≤ 300)) (hs : stR x k g) : stR x' k g := by
  have e : ∀ c j, k ≤ c → c ≤ k + 2 → x'.1 c j = x.1 c j := fun c j h1 h2 => h.2 c j (by unfold scrX; omega)
  unfold stR at hs ⊢
  rw [e k 2 (by omega) (by omega), e k 3 (by omega) (by omega), e k 4 (by omega) (by omega), e k 5 (by omega) (by omega), e k 6 (by omega) (by omega), e k 7 (by omega) (by omega), e k 8 (by omega) (by omega), e k 9 (by omega) (by omega)]
  obtain ⟨a1, a2, a3, a4, a5, a6, a7, a8, a9, a10⟩ := hs
  exact ⟨a1, a2, a3, a4, a5, a6, a7, a8, fun i hi => (e (k + 1) i (by omega) (by omega)).trans (a9 i hi), fun i hi => (e (k + 2) i (by omega) (by omega)).trans (a10 i hi)⟩
theorem Inv_fr {x x' y y' : gS} (h : Inv x y) (hx : FX x x') (hy : FY y y') : Inv x' y' := by
  have r1 : y'.1 1 = y.1 1 := funext fun j => hy 1 j (by unfold scrY; omega)
  have r5 : y'.1 5 = y.1 5 := funext fun j => hy 5 j (by unfold scrY; omega)
  have r6 : y'.1 6 = y.1 6 := funext fun j => hy 6 j (by unfold scrY; omega)
  have r12 : y'.1 12 = y.1 12 := funext fun j => hy 12 j (by unfold scrY; omega)
  have r13 : y'.1 13 = y.1 13 := funext fun j => hy 13 j (by unfold scrY; omega)
  have r15 : y'.1 15 = y.1 15 := funext fun j => hy 15 j (by unfold scrY; omega)
  have r21 : y'.1 21 = y.1 21 := funext fun j => hy 21 j (by unfold scrY; omega)
  have r22 : y'.1 22 = y.1 22 := funext fun j => hy 22 j (by unfold scrY; omega)
  have r23 : y'.1 23 = y.1 23 := funext fun j => hy 23 j (by unfold scrY; omega)
  have r24 : y'.1 24 = y.1 24 := funext fun j => hy 24 j (by unfold scrY; omega)
  have r25 : y'.1 25 = y.1 25 := funext fun j => hy 25 j (by unfold scrY; omega)
  have r27 : y'.1 27 = y.1 27 := funext fun j => hy 27 j (by unfold scrY; omega)
  have r28 : y'.1 28 = y.1 28 := funext fun j => hy 28 j (by unfold scrY; omega)
  have r30 : y'.1 30 = y.1 30 := funext fun j => hy 30 j (by unfold scrY; omega)
  have r32 : y'.1 32 = y.1 32 := funext fun j => hy 32 j (by unfold scrY; omega)
  have r37 : y'.1 37 = y.1 37 := funext fun j => hy 37 j (by unfold scrY; omega)
  have r38 : y'.1 38 = y.1 38 := funext fun j => hy 38 j (by unfold scrY; omega)
  have r39 : y'.1 39 = y.1 39 := funext fun j => hy 39 j (by unfold scrY; omega)
  have r40 : y'.1 40 = y.1 40 := funext fun j => hy 40 j (by unfold scrY; omega)
  have r41 : y'.1 41 = y.1 41 := funext fun j => hy 41 j (by unfold scrY; omega)
  have r42 : y'.1 42 = y.1 42 := funext fun j => hy 42 j (by unfold scrY; omega)
  have r45 : y'.1 45 = y.1 45 := funext fun j => hy 45 j (by unfold scrY; omega)
  have r46 : y'.1 46 = y.1 46 := funext fun j => hy 46 j (by unfold scrY; omega)
  have s1 : y'.1 0 1 = y.1 0 1 := hy 0 1 (by unfold scrY; omega)
  have s2 : y'.1 0 2 = y.1 0 2 := hy 0 2 (by unfold scrY; omega)
  have s3 : y'.1 0 3 = y.1 0 3 := hy 0 3 (by unfold scrY; omega)
  have s18 : y'.1 0 18 = y.1 0 18 := hy 0 18 (by unfold scrY; omega)
  have s21 : y'.1 0 21 = y.1 0 21 := hy 0 21 (by unfold scrY; omega)
  have s48 : y'.1 0 48 = y.1 0 48 := hy 0 48 (by unfold scrY; omega)
  have s49 : y'.1 0 49 = y.1 0 49 := hy 0 49 (by unfold scrY; omega)
  have s50 : y'.1 0 50 = y.1 0 50 := hy 0 50 (by unfold scrY; omega)
  have s51 : y'.1 0 51 = y.1 0 51 := hy 0 51 (by unfold scrY; omega)
  have s58 : y'.1 0 58 = y.1 0 58 := hy 0 58 (by unfold scrY; omega)
  have s59 : y'.1 0 59 = y.1 0 59 := hy 0 59 (by unfold scrY; omega)
  have s62 : y'.1 0 62 = y.1 0 62 := hy 0 62 (by unfold scrY; omega)
  have s73 : y'.1 0 73 = y.1 0 73 := hy 0 73 (by unfold scrY; omega)
  have s74 : y'.1 0 74 = y.1 0 74 := hy 0 74 (by unfold scrY; omega)
  have hX : ∀ k j, ¬ scrX k j → x'.1 k j = x.1 k j := hx.2
  have hr := hx.1
  obtain ⟨h1, h2, h3, h4, h5, h6, h7, h8, h9, h10, h11⟩ := h
  have ht := h3.1
  have hkp := h3.2.2.1
  have hd : ∀ n, dpt y' n = dpt y n := fun n => by
    induction n with
    | zero => rfl
    | succ n ih => show (dpt y' n).bind _ = (dpt y n).bind _; rw [ih, r5]
  have hc : ∀ k m, cnb y' k m = cnb y k m := fun k m => by unfold cnb; simp only [sf, fg, vN, r13, r27, r23]
  have hro : ∀ g, rowOK y' g = rowOK y g := fun g => by unfold rowOK; simp only [nF, nT, vN, s48, s49]
  have hrw : ∀ o, rw y' 30 o = rw y 30 o := fun o => by unfold rw; rw [r30]
  have hrw2 : ∀ o, rw y' 46 o = rw y 46 o := fun o => by unfold rw; rw [r46]
  refine ⟨?_, ?_, ?_, ?_, ?_, ?_, ?_, ?_, ?_, ?_, ?_⟩
  · unfold Itape at h1 ⊢
    rw [s1, r1, hX 1 1 (by unfold scrX; omega)]
    exact ⟨h1.1, h1.2.1, fun i hi => by rw [hX 2 i (by unfold scrX; omega)]; exact h1.2.2 i hi⟩
  · unfold Ifault at h2 ⊢
    rw [s2, s3, hX 3 5 (by unfold scrX; omega), hX 3 6 (by unfold scrX; omega)]
    exact h2
  · unfold Irefs at h3 ⊢
    rw [hr]
    exact h3
  · unfold WFy WFs WFm WFk isF at h4 ⊢
    simp only [nF, nT, nM, vN, s48, s49, s50, s51, r21, r22, r23, r24, r25, r12, r13, r27, r15]
    exact h4
  · rw [hr]
    have e : ∀ c j, (x.2.2 0 9 ≤ c ∧ c ≤ x.2.2 0 9 + 11) → x'.1 c j = x.1 c j := fun c j h => hX c j (by unfold scrX; omega)
    unfold XT XTs XTm XTk at h5 ⊢
    simp only [nF, nT, nM, vN, s48, s49, s50, s51, r21, r22, r23, r24, r25, r12, r13, r27, r15, hc]
    generalize x.2.2 0 9 = t at e h5 ⊢
    rw [e t 12 (by omega), e t 13 (by omega), e t 14 (by omega), e t 15 (by omega), e t 16 (by omega)]
    refine ⟨h5.1, h5.2.1, fun m hm => ?_, fun k hk => ?_⟩
    · rw [e (t + 1 + 6) m (by omega), e (t + 1 + 7) m (by omega), e (t + 1 + 8) m (by omega), e (t + 1 + 9) m (by omega), e (t + 1 + 10) m (by omega)]
      exact h5.2.2.1 m hm
    · rw [e (t + 1 + 2) k (by omega), e (t + 1 + 3) k (by omega), e (t + 1 + 4) k (by omega)]
      obtain ⟨b1, b2, b3, b4, b5, b6⟩ := h5.2.2.2 k hk
      exact ⟨b1, b2, b3, b4, b5, fun f hf => by rw [e (t + 1 + 5) _ (by omega)]; exact b6 f hf⟩
  · rw [hr]
    have e1 : ∀ j, j = 2 ∨ j = 3 → x'.1 (x.2.2 0 9 + 12) j = x.1 (x.2.2 0 9 + 12) j := fun j h => hX _ j (by unfold scrX; omega)
    have e2 : ∀ j, x'.1 (x.2.2 0 9 + 13) j = x.1 (x.2.2 0 9 + 13) j := fun j => hX _ j (by unfold scrX; omega)
    unfold XS at h6 ⊢
    simp only [vN, s18, s21, r5, r6, hd]
    rw [e1 2 (Or.inl rfl), e1 3 (Or.inr rfl)]
    obtain ⟨b1, b2, b3, b4, b5, b6, b7⟩ := h6
    exact ⟨b1, b2, b3, b4, b5, fun i hi => by rw [e2 i]; exact b6 i hi, b7⟩
  · unfold Inow at h7 ⊢
    rw [r28, hro]
    exact ⟨h7.1, stR_fr hx (by omega) h7.2⟩
  · unfold Ihist at h8 ⊢
    simp only [vN, s58, s59, hro, hrw, r28]
    rw [hr, hX 23 1 (by unfold scrX; omega), hX 23 2 (by unfold scrX; omega)]
    obtain ⟨b1, b2, b3, b4, b5, b6, b7, b8⟩ := h8
    have b9 : (y.1 0 58).toNatClampNeg + (y.1 0 59).toNatClampNeg ≤ 40 := b3
    have hst : ∀ i, i < 41 → ∀ g, stR x (x.2.2 24 i) g → stR x' (x.2.2 24 i) g := fun i hi g hs => by
      obtain ⟨j, hj, ej⟩ := hkp i hi
      exact stR_fr hx (by rw [ej]; omega) hs
    exact ⟨b1, b2, b3, b4, b5, fun i hi => ⟨(b6 i hi).1, hst i (by omega) _ (b6 i hi).2⟩, hst _ (by omega) _ b7, fun i h1 h2 => ⟨(b8 i h1 h2).1, hst (i + 1) (by omega) _ (b8 i h1 h2).2⟩⟩
  · unfold Ibox at h9 ⊢
    intro b hb
    rw [r45, hX 149 b (by unfold scrX; omega), hro, hrw2]
    obtain ⟨b1, b2, b3⟩ := h9 b hb
    exact ⟨b1, b2, fun h => ⟨(b3 h).1, stR_fr hx (by omega) (b3 h).2⟩⟩
  · unfold Ipast at h10 ⊢
    simp only [nF, vN, s73, s74, s48, r37, r38, r39, r40, r41, r42]
    rw [hX 169 10 (by unfold scrX; omega), hX 169 11 (by unfold scrX; omega)]
    obtain ⟨b1, b2, b3, b4, b5⟩ := h10
    refine ⟨b1, b2, b3, b4, fun i hi => ?_⟩
    rw [hX 170 i (by unfold scrX; omega), hX 171 i (by unfold scrX; omega), hX 172 i (by unfold scrX; omega), hX 173 i (by unfold scrX; omega), hX 174 i (by unfold scrX; omega), hX 175 i (by unfold scrX; omega)]
    exact b5 i hi
  · unfold Ilie at h11 ⊢
    rw [s62, r32, hX 150 7 (by unfold scrX; omega)]
    exact ⟨h11.1, h11.2.1, fun i hi => by rw [hX 152 i (by unfold scrX; omega)]; exact h11.2.2 i hi⟩
