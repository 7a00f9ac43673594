/-! ===== treaty: how it begins, and what is left of it when it is refused ===== -/
theorem XT_c {x x' y y' : gS} {t : Nat} (e : ∀ c j, (t ≤ c ∧ c ≤ t + 11) → x'.1 c j = x.1 c j) (hy : ∀ k j : Nat, ((k = 0 ∧ 48 ≤ j ∧ j ≤ 51) ∨ (12 ≤ k ∧ k ≤ 13) ∨ k = 15 ∨ (21 ≤ k ∧ k ≤ 25) ∨ k = 27) → y'.1 k j = y.1 k j) (h : XT x t y) : XT x' t y' := by
  have r21 : y'.1 21 = y.1 21 := funext fun j => hy 21 j (by omega)
  have r22 : y'.1 22 = y.1 22 := funext fun j => hy 22 j (by omega)
  have r23 : y'.1 23 = y.1 23 := funext fun j => hy 23 j (by omega)
  have r24 : y'.1 24 = y.1 24 := funext fun j => hy 24 j (by omega)
  have r25 : y'.1 25 = y.1 25 := funext fun j => hy 25 j (by omega)
  have r12 : y'.1 12 = y.1 12 := funext fun j => hy 12 j (by omega)
  have r13 : y'.1 13 = y.1 13 := funext fun j => hy 13 j (by omega)
  have r27 : y'.1 27 = y.1 27 := funext fun j => hy 27 j (by omega)
  have r15 : y'.1 15 = y.1 15 := funext fun j => hy 15 j (by omega)
  have s48 : y'.1 0 48 = y.1 0 48 := hy 0 48 (by omega)
  have s49 : y'.1 0 49 = y.1 0 49 := hy 0 49 (by omega)
  have s50 : y'.1 0 50 = y.1 0 50 := hy 0 50 (by omega)
  have s51 : y'.1 0 51 = y.1 0 51 := hy 0 51 (by omega)
  have hc : ∀ k m, cnb y' k m = cnb y k m := fun k m => by unfold cnb; simp only [sf, fg, vN, r13, r27, r23]
  unfold XT XTs XTm XTk at h ⊢
  simp only [nF, nT, nM, vN, s48, s49, s50, s51, r21, r22, r23, r24, r25, r12, r13, r27, r15, hc]
  rw [e t 12 (by omega), e t 13 (by omega), e t 14 (by omega), e t 15 (by omega), e t 16 (by omega)]
  refine ⟨h.1, h.2.1, fun m hm => ?_, fun k hk => ?_⟩
  · rw [e (t + 1 + 6) m (by omega), e (t + 1 + 7) m (by omega), e (t + 1 + 8) m (by omega), e (t + 1 + 9) m (by omega), e (t + 1 + 10) m (by omega)]
    exact h.2.2.1 m hm
  · rw [e (t + 1 + 2) k (by omega), e (t + 1 + 3) k (by omega), e (t + 1 + 4) k (by omega)]
    obtain ⟨b1, b2, b3, b4, b5, b6⟩ := h.2.2.2 k hk
    exact ⟨b1, b2, b3, b4, b5, fun f hf => by rw [e (t + 1 + 5) _ (by omega)]; exact b6 f hf⟩
theorem XS_c {x x' y y' : gS} {t : Nat} (e : ∀ c j, (c = t + 12 ∨ c = t + 13) → x'.1 c j = x.1 c j) (hy : ∀ k j : Nat, ((k = 0 ∧ (j = 18 ∨ j = 21)) ∨ k = 5 ∨ k = 6) → y'.1 k j = y.1 k j) (h : XS x t y) : XS x' t y' := by
  have r5 : y'.1 5 = y.1 5 := funext fun j => hy 5 j (by omega)
  have r6 : y'.1 6 = y.1 6 := funext fun j => hy 6 j (by omega)
  have s18 : y'.1 0 18 = y.1 0 18 := hy 0 18 (by omega)
  have s21 : y'.1 0 21 = y.1 0 21 := hy 0 21 (by omega)
  have hd : ∀ n, dpt y' n = dpt y n := fun n => by
    induction n with
    | zero => rfl
    | succ n ih => show (dpt y' n).bind _ = (dpt y n).bind _; rw [ih, r5]
  unfold XS at h ⊢
  simp only [vN, s18, s21, r5, r6, hd]
  rw [e _ 2 (by omega), e _ 3 (by omega)]
  obtain ⟨b1, b2, b3, b4, b5, b6, b7⟩ := h
  exact ⟨b1, b2, b3, b4, b5, fun i hi => by rw [e _ i (by omega)]; exact b6 i hi, b7⟩
theorem Inv.dt {x y : gS} (h : Inv x y) : (x.2.2 3 1 = 4 ∨ x.2.2 3 1 = 194) ∧ (x.2.2 0 9 + 15 ≤ x.2.2 3 1 ∨ x.2.2 3 1 + 15 ≤ x.2.2 0 9) := by
  rcases h.refs.1 with q | q
  · exact ⟨.inr q.2, by rw [q.1, q.2]; omega⟩
  · exact ⟨.inl q.2, by rw [q.1, q.2]; omega⟩
/-- the text was refused: all is as it was -/
theorem Inv_fail {x y x' y' : gS} (h : Inv x y) (hx : FXr (x.2.2 3 1) x x') (hy : ∀ k j, ¬ (scrY k j ∨ (k = 0 ∧ (j = 1 ∨ j = 2 ∨ j = 3))) → y'.1 k j = y.1 k j) (h1 : y'.1 0 1 = 0) (e5 : x'.1 3 5 = y'.1 0 2) (e6 : x'.1 3 6 = y'.1 0 3) : Inv (wi x' 1 1 0) y' := by
  obtain ⟨ht, hd⟩ := h.dt
  have ht2 := h.t4
  have hr : (wi x' 1 1 0).2.2 = x.2.2 := hx.1
  have hX : ∀ k j, ¬ (k = 19 ∨ (k = 3 ∧ 2 ≤ j ∧ j ≤ 6) ∨ (x.2.2 3 1 ≤ k ∧ k ≤ x.2.2 3 1 + 14) ∨ (k = 1 ∧ j = 1)) → (wi x' 1 1 0).1 k j = x.1 k j := fun k j q => by rw [wi_1, if_neg (by omega), hx.2 k j (by omega)]
  unfold scrY at hy
  refine ⟨⟨?_, ?_, fun i hi => ?_⟩, ⟨?_, ?_⟩, fr_refs hr h.refs, fr_wf hX hy (fun _ _ h => h.elim) (by intros; omega) h.wf, ?_, ?_, fr_now hX hy (by intros; omega) (by intros; omega) h.now, fr_hist hX hy (by intros; omega) (by intros; omega) hr h.refs.2.2.1 h.hist, fr_box hX hy (by intros; omega) (by intros; omega) h.box, fr_past hX hy (by intros; omega) (by intros; omega) h.past, fr_lie hX hy (by intros; omega) (by intros; omega) h.lie⟩
  · rw [h1]; exact isN.of (j := 0) (by decide) (by decide)
  · rw [h1, wi_1, if_pos ⟨rfl, rfl⟩]
  · rw [h1] at hi
    exact absurd hi (by show ¬ i < 0; omega)
  · rw [wi_1, if_neg (by omega)]; exact e5
  · rw [wi_1, if_neg (by omega)]; exact e6
  · rw [hr]; exact XT_c (fun c j q => hX c j (by omega)) (fun k j q => hy k j (by omega)) h.xt
  · rw [hr]; exact XS_c (fun c j q => hX c j (by omega)) (fun k j q => hy k j (by omega)) h.xs
/-- both begin to read -/
theorem read_0 {x y : gS} (h : Inv x y) : ∃ x1 y0 y1 c, fX10_treaty x = hX10_treaty_11 FU 1 0 x1 ∧ fX11_readAll y = hX11_readAll_78 FU y1 ∧ RD x y0 (x.2.2 3 1) (vN (y.1 0 1)) c x1 y1 ∧ y0.1 0 1 = 0 ∧ ∀ k j, ¬ (scrY k j ∨ (k = 0 ∧ (j = 1 ∨ j = 2 ∨ j = 3))) → y0.1 k j = y.1 k j := by
  obtain ⟨ht, -⟩ := h.dt
  obtain ⟨p1, p2, p3⟩ := h.tape
  have hL : vN (y.1 0 1) < 1601 := p1.2
  have hk8 : gK 0 (x.2.2 3 1) = 8 := by
    rcases ht with q | q <;> rw [q]
    · exact gk0_4
    · exact gk0_194
  generalize hT : x.2.2 3 1 = t at *
  have hN : gN 0 (t + 1 + 5) = 40 := by
    rcases ht with q | q <;> rw [q] <;> decide +kernel
  -- the class
  generalize hA : wi (wi (wi (wi (wi (wi (wi (wi x t 12 0) t 13 0) t 14 0) t 15 0) t 16 9) t 17 0) (t + 1 + 11) 2 0) (t + 1 + 11) 3 0 = xa
  have aa : ∀ k j, xa.1 k j = if k = t + 1 + 11 ∧ (j = 2 ∨ j = 3) then 0 else if k = t ∧ (12 ≤ j ∧ j ≤ 15 ∨ j = 17) then 0 else if k = t ∧ j = 16 then 9 else x.1 k j := fun k j => by
    rw [← hA]
    by_cases z1 : k = t + 1 + 11 ∧ (j = 2 ∨ j = 3)
    · rw [if_pos z1]
      rcases z1.2 with q | q
      · rw [wi_1, if_neg (by omega), wi_1, if_pos ⟨z1.1, q⟩]
      · rw [wi_1, if_pos ⟨z1.1, q⟩]
    · rw [if_neg z1, wi_1, if_neg (by omega), wi_1, if_neg (by omega), wi_1]
      by_cases z2 : k = t ∧ j = 17
      · rw [if_pos z2, if_pos (by omega)]
      · rw [if_neg z2, wi_1]
        by_cases z3 : k = t ∧ j = 16
        · rw [if_pos z3, if_neg (by omega), if_pos z3]
        · rw [if_neg z3, wi_1]
          by_cases z4 : k = t ∧ j = 15
          · rw [if_pos z4, if_pos (by omega)]
          · rw [if_neg z4, wi_1]
            by_cases z5 : k = t ∧ j = 14
            · rw [if_pos z5, if_pos (by omega)]
            · rw [if_neg z5, wi_1]
              by_cases z6 : k = t ∧ j = 13
              · rw [if_pos z6, if_pos (by omega)]
              · rw [if_neg z6, wi_1]
                by_cases z7 : k = t ∧ j = 12
                · rw [if_pos z7, if_pos (by omega)]
                · rw [if_neg z7, if_neg (by omega), if_neg z3]
  have a2 : xa.2 = x.2 := by rw [← hA]; rfl
  obtain ⟨xb, g1, g2, g3⟩ := fill_spec (r := t + 1 + 5) hN (by decide) (-1) xa
  have eC : fX8_clear t x = some xb := by
    unfold fX8_clear fX0_clear
    rw [bd, hA, g1, bd]
  generalize hS : wi (wi (wi (wi (wi (wi xb 3 2 0) 3 3 0) 3 4 0) 3 5 0) 3 6 (-1)) 19 1 0 = xs
  have s2 : xs.2 = x.2 := by rw [← hS]; show xb.2 = _; rw [g2, a2]
  have sk : ∀ k j, ¬ (k = 19 ∨ (k = 3 ∧ 2 ≤ j ∧ j ≤ 6)) → xs.1 k j = xb.1 k j := fun k j q => by rw [← hS, wi_1, if_neg (by omega), wi_1, if_neg (by omega), wi_1, if_neg (by omega), wi_1, if_neg (by omega), wi_1, if_neg (by omega), wi_1, if_neg (by omega)]
  have s191 : xs.1 19 1 = 0 := by rw [← hS, wi_1, if_pos ⟨rfl, rfl⟩]
  have s36 : xs.1 3 6 = -1 := by rw [← hS, wi_1, if_neg (by omega), wi_1, if_pos ⟨rfl, rfl⟩]
  have s35 : xs.1 3 5 = 0 := by rw [← hS, wi_1, if_neg (by omega), wi_1, if_neg (by omega), wi_1, if_pos ⟨rfl, rfl⟩]
  have s34 : xs.1 3 4 = 0 := by rw [← hS, wi_1, if_neg (by omega), wi_1, if_neg (by omega), wi_1, if_neg (by omega), wi_1, if_pos ⟨rfl, rfl⟩]
  have s33 : xs.1 3 3 = 0 := by rw [← hS, wi_1, if_neg (by omega), wi_1, if_neg (by omega), wi_1, if_neg (by omega), wi_1, if_neg (by omega), wi_1, if_pos ⟨rfl, rfl⟩]
  have s32 : xs.1 3 2 = 0 := by rw [← hS, wi_1, if_neg (by omega), wi_1, if_neg (by omega), wi_1, if_neg (by omega), wi_1, if_neg (by omega), wi_1, if_neg (by omega), wi_1, if_pos ⟨rfl, rfl⟩]
  have sx : ∀ k j, ¬ (k = 19 ∨ (k = 3 ∧ 2 ≤ j ∧ j ≤ 6) ∨ (t ≤ k ∧ k ≤ t + 14)) → xs.1 k j = x.1 k j := fun k j q => by rw [sk k j (by omega), g3, if_neg (by omega), aa, if_neg (by omega), if_neg (by omega), if_neg (by omega)]
  have st : ∀ j, (12 ≤ j ∧ j ≤ 15 ∨ j = 17) → xs.1 t j = 0 := fun j q => by rw [sk t j (by omega), g3, if_neg (by omega), aa, if_neg (by omega), if_pos ⟨rfl, q⟩]
  have st16 : xs.1 t 16 = 9 := by rw [sk t 16 (by omega), g3, if_neg (by omega), aa, if_neg (by omega), if_neg (by omega), if_pos ⟨rfl, rfl⟩]
  have sf : ∀ j, j = 2 ∨ j = 3 → xs.1 (t + 1 + 11) j = 0 := fun j q => by rw [sk _ j (by omega), g3, if_neg (by omega), aa, if_pos ⟨rfl, q⟩]
  have sw : ∀ j, j < 40 → xs.1 (t + 1 + 5) j = -1 := fun j q => by rw [sk _ j (by omega), g3, if_pos ⟨rfl, q⟩]
  -- the reference
  generalize hY : wi (wi (wi (wi (wi (wi (wi (wi (wi (wi (wi (wi (wi (wi y 0 5 (y.1 0 1)) 0 1 0) 0 4 0) 0 2 0) 0 3 (-1)) 0 43 0) 0 44 0) 0 45 0) 0 46 9) 0 47 0) 0 52 0) 0 53 0) 0 54 0) 0 20 0 = y0
  have yk : ∀ k j, ¬ (k = 0 ∧ (1 ≤ j ∧ j ≤ 5 ∨ j = 20 ∨ 43 ≤ j ∧ j ≤ 47 ∨ 52 ≤ j ∧ j ≤ 54)) → y0.1 k j = y.1 k j := fun k j q => by
    rw [← hY, wi_1, if_neg (by omega), wi_1, if_neg (by omega), wi_1, if_neg (by omega), wi_1, if_neg (by omega), wi_1, if_neg (by omega), wi_1, if_neg (by omega), wi_1, if_neg (by omega), wi_1, if_neg (by omega), wi_1, if_neg (by omega), wi_1, if_neg (by omega), wi_1, if_neg (by omega), wi_1, if_neg (by omega), wi_1, if_neg (by omega), wi_1, if_neg (by omega)]
  have y20 : y0.1 0 20 = 0 := by rw [← hY, wi_s]
  have y54 : y0.1 0 54 = 0 := by rw [← hY, wi_n (by omega), wi_s]
  have y53 : y0.1 0 53 = 0 := by rw [← hY, wi_n (by omega), wi_n (by omega), wi_s]
  have y52 : y0.1 0 52 = 0 := by rw [← hY, wi_n (by omega), wi_n (by omega), wi_n (by omega), wi_s]
  have y47 : y0.1 0 47 = 0 := by rw [← hY, wi_n (by omega), wi_n (by omega), wi_n (by omega), wi_n (by omega), wi_s]
  have y46 : y0.1 0 46 = 9 := by rw [← hY, wi_n (by omega), wi_n (by omega), wi_n (by omega), wi_n (by omega), wi_n (by omega), wi_s]
  have y45 : y0.1 0 45 = 0 := by rw [← hY, wi_n (by omega), wi_n (by omega), wi_n (by omega), wi_n (by omega), wi_n (by omega), wi_n (by omega), wi_s]
  have y44 : y0.1 0 44 = 0 := by rw [← hY, wi_n (by omega), wi_n (by omega), wi_n (by omega), wi_n (by omega), wi_n (by omega), wi_n (by omega), wi_n (by omega), wi_s]
  have y43 : y0.1 0 43 = 0 := by rw [← hY, wi_n (by omega), wi_n (by omega), wi_n (by omega), wi_n (by omega), wi_n (by omega), wi_n (by omega), wi_n (by omega), wi_n (by omega), wi_s]
  have y3 : y0.1 0 3 = -1 := by rw [← hY, wi_n (by omega), wi_n (by omega), wi_n (by omega), wi_n (by omega), wi_n (by omega), wi_n (by omega), wi_n (by omega), wi_n (by omega), wi_n (by omega), wi_s]
  have y2 : y0.1 0 2 = 0 := by rw [← hY, wi_n (by omega), wi_n (by omega), wi_n (by omega), wi_n (by omega), wi_n (by omega), wi_n (by omega), wi_n (by omega), wi_n (by omega), wi_n (by omega), wi_n (by omega), wi_s]
  have y4 : y0.1 0 4 = 0 := by rw [← hY, wi_n (by omega), wi_n (by omega), wi_n (by omega), wi_n (by omega), wi_n (by omega), wi_n (by omega), wi_n (by omega), wi_n (by omega), wi_n (by omega), wi_n (by omega), wi_n (by omega), wi_s]
  have y1 : y0.1 0 1 = 0 := by rw [← hY, wi_n (by omega), wi_n (by omega), wi_n (by omega), wi_n (by omega), wi_n (by omega), wi_n (by omega), wi_n (by omega), wi_n (by omega), wi_n (by omega), wi_n (by omega), wi_n (by omega), wi_n (by omega), wi_s]
  have y5 : y0.1 0 5 = y.1 0 1 := by rw [← hY, wi_n (by omega), wi_n (by omega), wi_n (by omega), wi_n (by omega), wi_n (by omega), wi_n (by omega), wi_n (by omega), wi_n (by omega), wi_n (by omega), wi_n (by omega), wi_n (by omega), wi_n (by omega), wi_n (by omega), wi_s]
  have tp : TP xs y0 (vN (y.1 0 1)) := by
    refine ⟨by omega, ?_, ?_, fun i hi => ?_⟩
    · rw [sx 1 1 (by omega), p2]; exact p1.1
    · rw [y5]; exact p1.1
    · rw [yk 1 i (by omega), sx 2 i (by omega)]; exact p3 i hi
  obtain ⟨x1, z1, c, f1, f2, f3, -, f5, f6⟩ := tok_at tp (Nat.zero_le _) s191 y4
  have F0 : qF y0 = 0 := by show vN (y0.1 0 43) = 0; rw [y43]; rfl
  have T0 : qT y0 = 0 := by show vN (y0.1 0 44) = 0; rw [y44]; rfl
  have M0 : qM y0 = 0 := by show vN (y0.1 0 45) = 0; rw [y45]; rfl
  have dr : DR t xs y0 := by
    refine ⟨⟨?_, ?_, ?_, ?_⟩, ⟨?_, ?_, ?_, ?_, ?_⟩, fun k f hk hf => ?_, ⟨?_, ?_, ?_⟩, ⟨?_, ?_, ?_, ?_, ?_⟩, .inl ⟨y52, sf 2 (by omega), sf 3 (by omega), y20⟩, s34, s35, s36, y2, y3⟩
    · rw [y43]; exact isN.of (j := 0) (by decide) (by decide)
    · rw [y43]; exact st 12 (by omega)
    · rw [F0]; intro i hi; omega
    · rw [F0]; intro i j hi; omega
    · rw [y44]; exact isN.of (j := 0) (by decide) (by decide)
    · rw [y44]; exact st 13 (by omega)
    · rw [T0, st 15 (by omega)]; exact isN.of (j := 0) (by decide) (by decide)
    · rw [T0]; intro i j hi; omega
    · rw [T0]; intro i hi; omega
    · rw [T0, sw _ (by omega)]
      exact ⟨fun q => absurd q (by omega), fun _ => rfl, .inl rfl⟩
    · rw [y45]; exact isN.of (j := 0) (by decide) (by decide)
    · rw [y45]; exact st 14 (by omega)
    · rw [M0]; intro i hi; omega
    · rw [y46]; exact st16
    · rw [y46]; exact isN.of (j := 9) (by decide) (by decide)
    · rw [y47]; exact st 17 (by omega)
    · rw [y53]; exact s32
    · rw [y54]; exact s33
  refine ⟨x1, y0, z1, c, ?_, ?_, ⟨⟨?_, fun k j q => ?_⟩, f6.fr, f3, DR_ext dr (f5.ex ht) f6.ey, ?_, ht⟩, y1, fun k j q => ?_⟩
  · unfold fX10_treaty fX4_start fX7_start
    rw [hT, gc_p hk8, eC, bd, hS, f1, bd, bd, bd]
  · unfold fX11_readAll
    rw [hY, f2, bd]
  · rw [f5.1, s2]
  · rw [f5.2.1 k j (by omega)]; exact sx k j q
  · rw [f5.1, s2]; exact hT
  · unfold scrY at q
    exact yk k j (by omega)
