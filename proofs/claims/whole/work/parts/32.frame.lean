theorem fr_tape {x x' y y' : gS} {CX CY : Nat → Nat → Prop} (hX : ∀ k j, ¬ CX k j → x'.1 k j = x.1 k j) (hy : ∀ k j, ¬ CY k j → y'.1 k j = y.1 k j) (f : ∀ k j : Nat, ((k = 1 ∧ j = 1) ∨ k = 2) → ¬ CX k j) (g : ∀ k j : Nat, ((k = 0 ∧ j = 1) ∨ k = 1) → ¬ CY k j) (h : Itape x y) : Itape x' y' := by
  have r1 : y'.1 1 = y.1 1 := funext fun j => hy 1 j (g 1 j (by omega))
  have s1 : y'.1 0 1 = y.1 0 1 := hy 0 1 (g 0 1 (by omega))
  unfold Itape at h ⊢
  simp only [vN, s1]
  rw [r1, hX 1 1 (f 1 1 (by omega))]
  exact ⟨h.1, h.2.1, fun i hi => by rw [hX 2 i (f 2 i (by omega))]; exact h.2.2 i hi⟩
theorem fr_fault {x x' y y' : gS} {CX CY : Nat → Nat → Prop} (hX : ∀ k j, ¬ CX k j → x'.1 k j = x.1 k j) (hy : ∀ k j, ¬ CY k j → y'.1 k j = y.1 k j) (f : ∀ k j : Nat, (k = 3 ∧ (j = 5 ∨ j = 6)) → ¬ CX k j) (g : ∀ k j : Nat, (k = 0 ∧ (j = 2 ∨ j = 3)) → ¬ CY k j) (h : Ifault x y) : Ifault x' y' := by
  have s2 : y'.1 0 2 = y.1 0 2 := hy 0 2 (g 0 2 (by omega))
  have s3 : y'.1 0 3 = y.1 0 3 := hy 0 3 (g 0 3 (by omega))
  unfold Ifault at h ⊢
  rw [s2, s3, hX 3 5 (f 3 5 (by omega)), hX 3 6 (f 3 6 (by omega))]
  exact h
theorem fr_wf {x x' y y' : gS} {CX CY : Nat → Nat → Prop} (hX : ∀ k j, ¬ CX k j → x'.1 k j = x.1 k j) (hy : ∀ k j, ¬ CY k j → y'.1 k j = y.1 k j) (f : ∀ k j : Nat, False → ¬ CX k j) (g : ∀ k j : Nat, ((k = 0 ∧ 48 ≤ j ∧ j ≤ 51) ∨ (12 ≤ k ∧ k ≤ 13) ∨ k = 15 ∨ (21 ≤ k ∧ k ≤ 25) ∨ k = 27) → ¬ CY k j) (h : WFy y) : WFy y' := by
  have r21 : y'.1 21 = y.1 21 := funext fun j => hy 21 j (g 21 j (by omega))
  have r22 : y'.1 22 = y.1 22 := funext fun j => hy 22 j (g 22 j (by omega))
  have r23 : y'.1 23 = y.1 23 := funext fun j => hy 23 j (g 23 j (by omega))
  have r24 : y'.1 24 = y.1 24 := funext fun j => hy 24 j (g 24 j (by omega))
  have r25 : y'.1 25 = y.1 25 := funext fun j => hy 25 j (g 25 j (by omega))
  have r12 : y'.1 12 = y.1 12 := funext fun j => hy 12 j (g 12 j (by omega))
  have r13 : y'.1 13 = y.1 13 := funext fun j => hy 13 j (g 13 j (by omega))
  have r27 : y'.1 27 = y.1 27 := funext fun j => hy 27 j (g 27 j (by omega))
  have r15 : y'.1 15 = y.1 15 := funext fun j => hy 15 j (g 15 j (by omega))
  have s48 : y'.1 0 48 = y.1 0 48 := hy 0 48 (g 0 48 (by omega))
  have s49 : y'.1 0 49 = y.1 0 49 := hy 0 49 (g 0 49 (by omega))
  have s50 : y'.1 0 50 = y.1 0 50 := hy 0 50 (g 0 50 (by omega))
  have s51 : y'.1 0 51 = y.1 0 51 := hy 0 51 (g 0 51 (by omega))
  unfold WFy WFs WFm WFk isF at h ⊢
  simp only [nF, nT, nM, vN, s48, s49, s50, s51, r21, r22, r23, r24, r25, r12, r13, r27, r15]
  exact h
theorem fr_xt {x x' y y' : gS} {CX CY : Nat → Nat → Prop} (hX : ∀ k j, ¬ CX k j → x'.1 k j = x.1 k j) (hy : ∀ k j, ¬ CY k j → y'.1 k j = y.1 k j) (f : ∀ k j : Nat, ((4 ≤ k ∧ k ≤ 15) ∨ (194 ≤ k ∧ k ≤ 205)) → ¬ CX k j) (g : ∀ k j : Nat, ((k = 0 ∧ 48 ≤ j ∧ j ≤ 51) ∨ (12 ≤ k ∧ k ≤ 13) ∨ k = 15 ∨ (21 ≤ k ∧ k ≤ 25) ∨ k = 27) → ¬ CY k j) {t : Nat} (ht : t = 4 ∨ t = 194) (h : XT x t y) : XT x' t y' := by
  have r21 : y'.1 21 = y.1 21 := funext fun j => hy 21 j (g 21 j (by omega))
  have r22 : y'.1 22 = y.1 22 := funext fun j => hy 22 j (g 22 j (by omega))
  have r23 : y'.1 23 = y.1 23 := funext fun j => hy 23 j (g 23 j (by omega))
  have r24 : y'.1 24 = y.1 24 := funext fun j => hy 24 j (g 24 j (by omega))
  have r25 : y'.1 25 = y.1 25 := funext fun j => hy 25 j (g 25 j (by omega))
  have r12 : y'.1 12 = y.1 12 := funext fun j => hy 12 j (g 12 j (by omega))
  have r13 : y'.1 13 = y.1 13 := funext fun j => hy 13 j (g 13 j (by omega))
  have r27 : y'.1 27 = y.1 27 := funext fun j => hy 27 j (g 27 j (by omega))
  have r15 : y'.1 15 = y.1 15 := funext fun j => hy 15 j (g 15 j (by omega))
  have s48 : y'.1 0 48 = y.1 0 48 := hy 0 48 (g 0 48 (by omega))
  have s49 : y'.1 0 49 = y.1 0 49 := hy 0 49 (g 0 49 (by omega))
  have s50 : y'.1 0 50 = y.1 0 50 := hy 0 50 (g 0 50 (by omega))
  have s51 : y'.1 0 51 = y.1 0 51 := hy 0 51 (g 0 51 (by omega))
  have hc : ∀ k m, cnb y' k m = cnb y k m := fun k m => by unfold cnb; simp only [sf, fg, vN, r13, r27, r23]
  have e : ∀ c j, (t ≤ c ∧ c ≤ t + 11) → x'.1 c j = x.1 c j := fun c j h => hX c j (f c j (by omega))
  unfold XT XTs XTm XTk at h ⊢
  simp only [nF, nT, nM, vN, s48, s49, s50, s51, r21, r22, r23, r24, r25, r12, r13, r27, r15, hc]
  rw [e t 12 (by omega), e t 13 (by omega), e t 14 (by omega), e t 15 (by omega), e t 16 (by omega)]
  refine ⟨h.1, h.2.1, fun m hm => ?_, fun k hk => ?_⟩
  · rw [e (t + 1 + 6) m (by omega), e (t + 1 + 7) m (by omega), e (t + 1 + 8) m (by omega), e (t + 1 + 9) m (by omega), e (t + 1 + 10) m (by omega)]
    exact h.2.2.1 m hm
  · rw [e (t + 1 + 2) k (by omega), e (t + 1 + 3) k (by omega), e (t + 1 + 4) k (by omega)]
    obtain ⟨b1, b2, b3, b4, b5, b6⟩ := h.2.2.2 k hk
    exact ⟨b1, b2, b3, b4, b5, fun f hf => by rw [e (t + 1 + 5) _ (by omega)]; exact b6 f hf⟩
theorem fr_xs {x x' y y' : gS} {CX CY : Nat → Nat → Prop} (hX : ∀ k j, ¬ CX k j → x'.1 k j = x.1 k j) (hy : ∀ k j, ¬ CY k j → y'.1 k j = y.1 k j) (f : ∀ k j : Nat, (((k = 16 ∨ k = 206) ∧ (j = 2 ∨ j = 3)) ∨ k = 17 ∨ k = 207) → ¬ CX k j) (g : ∀ k j : Nat, ((k = 0 ∧ (j = 18 ∨ j = 21)) ∨ k = 5 ∨ k = 6) → ¬ CY k j) {t : Nat} (ht : t = 4 ∨ t = 194) (h : XS x t y) : XS x' t y' := by
  have r5 : y'.1 5 = y.1 5 := funext fun j => hy 5 j (g 5 j (by omega))
  have r6 : y'.1 6 = y.1 6 := funext fun j => hy 6 j (g 6 j (by omega))
  have s18 : y'.1 0 18 = y.1 0 18 := hy 0 18 (g 0 18 (by omega))
  have s21 : y'.1 0 21 = y.1 0 21 := hy 0 21 (g 0 21 (by omega))
  have hd : ∀ n, dpt y' n = dpt y n := fun n => by
    induction n with
    | zero => rfl
    | succ n ih => show (dpt y' n).bind _ = (dpt y n).bind _; rw [ih, r5]
  have e1 : ∀ j, j = 2 ∨ j = 3 → x'.1 (t + 12) j = x.1 (t + 12) j := fun j h => hX _ j (f _ j (by omega))
  have e2 : ∀ j, x'.1 (t + 13) j = x.1 (t + 13) j := fun j => hX _ j (f _ j (by omega))
  unfold XS at h ⊢
  simp only [vN, s18, s21, r5, r6, hd]
  rw [e1 2 (Or.inl rfl), e1 3 (Or.inr rfl)]
  obtain ⟨b1, b2, b3, b4, b5, b6, b7⟩ := h
  exact ⟨b1, b2, b3, b4, b5, fun i hi => by rw [e2 i]; exact b6 i hi, b7⟩
theorem fr_st {x x' : gS} {CX : Nat → Nat → Prop} (hX : ∀ k j, ¬ CX k j → x'.1 k j = x.1 k j) {k : Nat} {g : Nat → Int32} (f : ∀ c j : Nat, k ≤ c ∧ c ≤ k + 2 → ¬ CX c j) (hs : stR x k g) : stR x' k g := by
  have e : ∀ c j, k ≤ c → c ≤ k + 2 → x'.1 c j = x.1 c j := fun c j h1 h2 => hX c j (f c j ⟨h1, h2⟩)
  unfold stR at hs ⊢
  rw [e k 2 (by omega) (by omega), e k 3 (by omega) (by omega), e k 4 (by omega) (by omega), e k 5 (by omega) (by omega), e k 6 (by omega) (by omega), e k 7 (by omega) (by omega), e k 8 (by omega) (by omega), e k 9 (by omega) (by omega)]
  obtain ⟨a1, a2, a3, a4, a5, a6, a7, a8, a9, a10⟩ := hs
  exact ⟨a1, a2, a3, a4, a5, a6, a7, a8, fun i hi => (e (k + 1) i (by omega) (by omega)).trans (a9 i hi), fun i hi => (e (k + 2) i (by omega) (by omega)).trans (a10 i hi)⟩
theorem fr_now {x x' y y' : gS} {CX CY : Nat → Nat → Prop} (hX : ∀ k j, ¬ CX k j → x'.1 k j = x.1 k j) (hy : ∀ k j, ¬ CY k j → y'.1 k j = y.1 k j) (f : ∀ k j : Nat, (20 ≤ k ∧ k ≤ 22) → ¬ CX k j) (g : ∀ k j : Nat, ((k = 0 ∧ (j = 48 ∨ j = 49)) ∨ k = 28) → ¬ CY k j) (h : Inow x y) : Inow x' y' := by
  have r28 : y'.1 28 = y.1 28 := funext fun j => hy 28 j (g 28 j (by omega))
  have s48 : y'.1 0 48 = y.1 0 48 := hy 0 48 (g 0 48 (by omega))
  have s49 : y'.1 0 49 = y.1 0 49 := hy 0 49 (g 0 49 (by omega))
  have hro : ∀ g, rowOK y' g = rowOK y g := fun g => by unfold rowOK; simp only [nF, nT, vN, s48, s49]

  unfold Inow at h ⊢
  rw [r28, hro]
  exact ⟨h.1, fr_st hX (fun c j hc => f c j (by omega)) h.2⟩
theorem fr_hist {x x' y y' : gS} {CX CY : Nat → Nat → Prop} (hX : ∀ k j, ¬ CX k j → x'.1 k j = x.1 k j) (hy : ∀ k j, ¬ CY k j → y'.1 k j = y.1 k j) (f : ∀ k j : Nat, ((k = 23 ∧ (j = 1 ∨ j = 2)) ∨ (25 ≤ k ∧ k ≤ 147)) → ¬ CX k j) (g : ∀ k j : Nat, ((k = 0 ∧ (j = 48 ∨ j = 49 ∨ j = 58 ∨ j = 59)) ∨ k = 28 ∨ k = 30) → ¬ CY k j) (hr : x'.2.2 = x.2.2) (hkp : ∀ i, i < 41 → ∃ j, j < 41 ∧ x.2.2 24 i = 25 + 3 * j) (h : Ihist x y) : Ihist x' y' := by
  have r28 : y'.1 28 = y.1 28 := funext fun j => hy 28 j (g 28 j (by omega))
  have r30 : y'.1 30 = y.1 30 := funext fun j => hy 30 j (g 30 j (by omega))
  have s48 : y'.1 0 48 = y.1 0 48 := hy 0 48 (g 0 48 (by omega))
  have s49 : y'.1 0 49 = y.1 0 49 := hy 0 49 (g 0 49 (by omega))
  have s58 : y'.1 0 58 = y.1 0 58 := hy 0 58 (g 0 58 (by omega))
  have s59 : y'.1 0 59 = y.1 0 59 := hy 0 59 (g 0 59 (by omega))
  have hro : ∀ g, rowOK y' g = rowOK y g := fun g => by unfold rowOK; simp only [nF, nT, vN, s48, s49]

  have hrw : ∀ o, rw y' 30 o = rw y 30 o := fun o => by unfold rw; rw [r30]
  unfold Ihist at h ⊢
  simp only [vN, s58, s59, hro, hrw, r28]
  rw [hr, hX 23 1 (f 23 1 (by omega)), hX 23 2 (f 23 2 (by omega))]
  obtain ⟨b1, b2, b3, b4, b5, b6, b7, b8⟩ := h
  have b9 : (y.1 0 58).toNatClampNeg + (y.1 0 59).toNatClampNeg ≤ 40 := b3
  have hst : ∀ i, i < 41 → ∀ g, stR x (x.2.2 24 i) g → stR x' (x.2.2 24 i) g := fun i hi g hs => by
    obtain ⟨j, hj, ej⟩ := hkp i hi
    exact fr_st hX (fun c j hc => f c j (by omega)) hs
  exact ⟨b1, b2, b3, b4, b5, fun i hi => ⟨(b6 i hi).1, hst i (by omega) _ (b6 i hi).2⟩, hst _ (by omega) _ b7, fun i h1 h2 => ⟨(b8 i h1 h2).1, hst (i + 1) (by omega) _ (b8 i h1 h2).2⟩⟩
theorem fr_box {x x' y y' : gS} {CX CY : Nat → Nat → Prop} (hX : ∀ k j, ¬ CX k j → x'.1 k j = x.1 k j) (hy : ∀ k j, ¬ CY k j → y'.1 k j = y.1 k j) (f : ∀ k j : Nat, (k = 149 ∨ (209 ≤ k ∧ k ≤ 217)) → ¬ CX k j) (g : ∀ k j : Nat, ((k = 0 ∧ (j = 48 ∨ j = 49)) ∨ k = 45 ∨ k = 46) → ¬ CY k j) (h : Ibox x y) : Ibox x' y' := by
  have r45 : y'.1 45 = y.1 45 := funext fun j => hy 45 j (g 45 j (by omega))
  have r46 : y'.1 46 = y.1 46 := funext fun j => hy 46 j (g 46 j (by omega))
  have s48 : y'.1 0 48 = y.1 0 48 := hy 0 48 (g 0 48 (by omega))
  have s49 : y'.1 0 49 = y.1 0 49 := hy 0 49 (g 0 49 (by omega))
  have hro : ∀ g, rowOK y' g = rowOK y g := fun g => by unfold rowOK; simp only [nF, nT, vN, s48, s49]

  have hrw2 : ∀ o, rw y' 46 o = rw y 46 o := fun o => by unfold rw; rw [r46]
  unfold Ibox at h ⊢
  intro b hb
  rw [r45, hX 149 b (f 149 b (by omega)), hro, hrw2]
  obtain ⟨b1, b2, b3⟩ := h b hb
  exact ⟨b1, b2, fun h => ⟨(b3 h).1, fr_st hX (fun c j hc => f c j (by omega)) (b3 h).2⟩⟩
theorem fr_past {x x' y y' : gS} {CX CY : Nat → Nat → Prop} (hX : ∀ k j, ¬ CX k j → x'.1 k j = x.1 k j) (hy : ∀ k j, ¬ CY k j → y'.1 k j = y.1 k j) (f : ∀ k j : Nat, ((k = 169 ∧ (j = 10 ∨ j = 11)) ∨ (170 ≤ k ∧ k ≤ 175)) → ¬ CX k j) (g : ∀ k j : Nat, ((k = 0 ∧ (j = 48 ∨ j = 73 ∨ j = 74)) ∨ (37 ≤ k ∧ k ≤ 42)) → ¬ CY k j) (h : Ipast x y) : Ipast x' y' := by
  have r37 : y'.1 37 = y.1 37 := funext fun j => hy 37 j (g 37 j (by omega))
  have r38 : y'.1 38 = y.1 38 := funext fun j => hy 38 j (g 38 j (by omega))
  have r39 : y'.1 39 = y.1 39 := funext fun j => hy 39 j (g 39 j (by omega))
  have r40 : y'.1 40 = y.1 40 := funext fun j => hy 40 j (g 40 j (by omega))
  have r41 : y'.1 41 = y.1 41 := funext fun j => hy 41 j (g 41 j (by omega))
  have r42 : y'.1 42 = y.1 42 := funext fun j => hy 42 j (g 42 j (by omega))
  have s48 : y'.1 0 48 = y.1 0 48 := hy 0 48 (g 0 48 (by omega))
  have s73 : y'.1 0 73 = y.1 0 73 := hy 0 73 (g 0 73 (by omega))
  have s74 : y'.1 0 74 = y.1 0 74 := hy 0 74 (g 0 74 (by omega))
  unfold Ipast at h ⊢
  simp only [nF, vN, s73, s74, s48, r37, r38, r39, r40, r41, r42]
  rw [hX 169 10 (f _ _ (by omega)), hX 169 11 (f _ _ (by omega))]
  obtain ⟨b1, b2, b3, b4, b5⟩ := h
  refine ⟨b1, b2, b3, b4, fun i hi => ?_⟩
  rw [hX 170 i (f _ _ (by omega)), hX 171 i (f _ _ (by omega)), hX 172 i (f _ _ (by omega)), hX 173 i (f _ _ (by omega)), hX 174 i (f _ _ (by omega)), hX 175 i (f _ _ (by omega))]
  exact b5 i hi
theorem fr_lie {x x' y y' : gS} {CX CY : Nat → Nat → Prop} (hX : ∀ k j, ¬ CX k j → x'.1 k j = x.1 k j) (hy : ∀ k j, ¬ CY k j → y'.1 k j = y.1 k j) (f : ∀ k j : Nat, ((k = 150 ∧ j = 7) ∨ k = 152) → ¬ CX k j) (g : ∀ k j : Nat, ((k = 0 ∧ j = 62) ∨ k = 32) → ¬ CY k j) (h : Ilie x y) : Ilie x' y' := by
  have r32 : y'.1 32 = y.1 32 := funext fun j => hy 32 j (g 32 j (by omega))
  have s62 : y'.1 0 62 = y.1 0 62 := hy 0 62 (g 0 62 (by omega))
  unfold Ilie at h ⊢
  simp only [vN, s62]
  rw [r32, hX 150 7 (f _ _ (by omega))]
  exact ⟨h.1, h.2.1, fun i hi => by rw [hX 152 i (f _ _ (by omega))]; exact h.2.2 i hi⟩
theorem fr_refs {x x' : gS} (hr : x'.2.2 = x.2.2) (h : Irefs x) : Irefs x' := by
  unfold Irefs at h ⊢
  rw [hr]
  exact h
theorem Inv.t4 {x y : gS} (h : Inv x y) : x.2.2 0 9 = 4 ∨ x.2.2 0 9 = 194 := by
  rcases h.refs.1 with q | q
  · exact Or.inl q.1
  · exact Or.inr q.1
