/-! ===== at first ===== -/
set_option maxRecDepth 100000 in
theorem c0_i : ((csB 3).1.1 1 1 = 0 ∧ (csB 3).1.1 3 5 = 0 ∧ (csB 3).1.1 3 6 = -1 ∧ (csB 3).1.1 169 11 = 0) ∧ ((csB 3).1.1 194 12 = 0 ∧ (csB 3).1.1 194 13 = 0 ∧ (csB 3).1.1 194 14 = 0 ∧ (csB 3).1.1 194 15 = 0) ∧ ((csB 3).1.1 194 16 = 9 ∧ (csB 3).1.1 194 17 = 0 ∧ (csB 3).1.1 206 2 = 0 ∧ (csB 3).1.1 206 3 = 0) := by decide +kernel
set_option maxRecDepth 100000 in
theorem c0_r : (csB 3).1.2.2 0 9 = 194 ∧ (csB 3).1.2.2 3 1 = 4 ∧ (∀ b : Fin 3, (csB 3).1.2.2 148 b.val = 209 + 3 * b.val) ∧ ∀ i : Fin 41, (csB 3).1.2.2 24 i.val = 25 + 3 * i.val := by decide +kernel
set_option maxRecDepth 100000 in
theorem c1_i : (y00.1 0 1 = 0 ∧ y00.1 0 2 = 0 ∧ y00.1 0 3 = -1 ∧ y00.1 0 18 = 0 ∧ y00.1 0 21 = 0) ∧ (y00.1 0 48 = 0 ∧ y00.1 0 49 = 0 ∧ y00.1 0 50 = 0 ∧ y00.1 0 51 = 9) ∧ (y00.1 0 58 = 0 ∧ y00.1 0 59 = 0 ∧ y00.1 0 73 = 0 ∧ y00.1 0 74 = 0 ∧ y00.1 0 62 = 0) := by decide +kernel
set_option maxRecDepth 100000 in
theorem c1_a : (∀ b : Fin 3, y00.1 45 b.val = 0) ∧ y00.1 28 0 = -1 ∧ y00.1 28 1 = -1 ∧ ∀ j : Fin 16, y00.1 28 (2 + j.val) = 0 := by decide +kernel
theorem Inv_0 : ∃ x00, fX10_beginAnew (csB 3).1 = some x00 ∧ Inv x00 y00 := by
  obtain ⟨⟨i1, i2, i3, i4⟩, ⟨i5, i6, i7, i8⟩, i9, i10, i11, i12⟩ := c0_i
  obtain ⟨r1, r2, r3, r4⟩ := c0_r
  obtain ⟨⟨a1, a2, a3, a4, a5⟩, ⟨a6, a7, a8, a9⟩, a10, a11, a12, a13, a14⟩ := c1_i
  obtain ⟨b1, b2', b3, b4⟩ := c1_a
  have r4 : ∀ i, i < 41 → (csB 3).1.2.2 24 i = 25 + 3 * i := fun i hi => r4 ⟨i, hi⟩
  have b1 : ∀ b, b < 3 → y00.1 45 b = 0 := fun b hb => b1 ⟨b, hb⟩
  have b4 : ∀ j, 2 ≤ j → j ≤ 17 → y00.1 28 j = 0 := fun j h1 h2 => by
    have := b4 ⟨j - 2, by omega⟩
    rwa [show 2 + (j - 2) = j by omega] at this
  obtain ⟨x, e1, e2, e3⟩ := begin_spec (st := (csB 3).1) (t := 194) (q := 0) r1 (.inr rfl) (r4 0 (by decide)) (by decide)
  refine ⟨x, e1, ?_⟩
  have X : ∀ k j, ¬ (k = 149 ∧ j < 3) → ¬ (k = 169 ∧ j = 10) → ¬ (k = 150 ∧ j = 7) → ¬ (k = 23 ∧ (j = 1 ∨ j = 2)) → ¬ (20 ≤ k ∧ k ≤ 22) → ¬ (25 ≤ k ∧ k ≤ 27) → x.1 k j = (csB 3).1.1 k j := fun k j z1 z2 z3 z4 z5 z6 => by
    rw [e3, if_neg z1, if_neg z2, if_neg z3, if_neg z4, if_neg (by omega), if_neg (by omega)]
  have hr : ∀ k j, x.2.2 k j = (csB 3).1.2.2 k j := fun k j => by rw [e2]
  have v0 : vN (0 : Int32) = 0 := rfl
  have n0 : ∀ {n : Nat}, 0 < n → n ≤ 2 ^ 31 → isN (0 : Int32) n := fun {n} h1 h2 => isN.of (j := 0) h1 h2
  have eF : nF y00 = 0 := by show vN (y00.1 0 48) = 0; rw [a6]; rfl
  have eT : nT y00 = 0 := by show vN (y00.1 0 49) = 0; rw [a7]; rfl
  have eM : nM y00 = 0 := by show vN (y00.1 0 50) = 0; rw [a8]; rfl
  have Xr : ∀ k, k = 20 ∨ k = 25 + 3 * 0 → ∀ j, 2 ≤ j → j ≤ 9 → x.1 k j = bgR (csB 3).1 194 j := fun k hk j h1 h2 => by
    rw [e3, if_neg (by omega), if_neg (by omega), if_neg (by omega), if_neg (by omega), if_pos ⟨hk, h1, h2⟩]
  have Xz : ∀ k j, (k = 21 ∨ k = 22 ∨ k = 25 + 3 * 0 + 1 ∨ k = 25 + 3 * 0 + 2) → j < 5 → x.1 k j = 0 := fun k j hk hj => by
    rw [e3, if_neg (by omega), if_neg (by omega), if_neg (by omega), if_neg (by omega), if_neg (by omega), if_pos ⟨hk, hj⟩]
  have hstR : ∀ k, k = 20 ∨ k = 25 + 3 * 0 → stR x k (y00.1 28) := fun k hk => by
    refine ⟨?_, ?_, ?_, ?_, ?_, ?_, ?_, ?_, fun i hi => ?_, fun i hi => ?_⟩
    · rw [Xr k hk 2 (by omega) (by omega), b2']; unfold bgR; rw [if_pos rfl, i5, if_pos le0]
    · rw [Xr k hk 3 (by omega) (by omega), b3]; unfold bgR; rw [if_neg (by decide), if_pos rfl, i6, if_pos le0]
    · rw [Xr k hk 4 (by omega) (by omega), b4 2 (by omega) (by omega)]; unfold bgR; rw [if_neg (by decide), if_neg (by decide), if_neg (by decide)]
    · rw [Xr k hk 5 (by omega) (by omega), b4 3 (by omega) (by omega)]; unfold bgR; rw [if_neg (by decide), if_neg (by decide), if_neg (by decide)]
    · rw [Xr k hk 6 (by omega) (by omega), b4 14 (by omega) (by omega)]; unfold bgR; rw [if_neg (by decide), if_neg (by decide), if_neg (by decide)]
    · rw [Xr k hk 7 (by omega) (by omega), b4 15 (by omega) (by omega)]; unfold bgR; rw [if_neg (by decide), if_neg (by decide), if_neg (by decide)]
    · rw [Xr k hk 8 (by omega) (by omega), b4 16 (by omega) (by omega)]; unfold bgR; rw [if_neg (by decide), if_neg (by decide), if_neg (by decide)]
    · rw [Xr k hk 9 (by omega) (by omega), b4 17 (by omega) (by omega)]; unfold bgR; rw [if_neg (by decide), if_neg (by decide), if_pos rfl, i10]
    · rw [Xz (k + 1) i (by omega) hi, b4 (4 + i) (by omega) (by omega)]
    · rw [Xz (k + 2) i (by omega) hi, b4 (9 + i) (by omega) (by omega)]
  refine ⟨⟨?_, ?_, fun i hi => ?_⟩, ⟨?_, ?_⟩, ⟨.inr ⟨?_, ?_⟩, fun b hb => ?_, fun i hi => ⟨i, hi, ?_⟩, fun i j hi hj z => ?_⟩, ⟨⟨?_, ?_, ?_, ?_⟩, fun m hm => ?_, fun k hk => ?_⟩, ?_, ?_, ⟨⟨.inl ⟨eF, b2'⟩, .inl ⟨eT, b3⟩, ?_, ?_⟩, hstR 20 (.inl rfl)⟩, ⟨?_, ?_, ?_, ?_, ?_, fun i hi => ?_, ?_, fun i h1 h2 => ?_⟩, fun b hb => ⟨?_, ?_, fun z => ?_⟩, ⟨?_, ?_, ?_, ?_, fun i hi => ?_⟩, ⟨?_, ?_, fun i hi => ?_⟩⟩
  · rw [a1]; exact n0 (by decide) (by decide)
  · rw [X 1 1 (by omega) (by omega) (by omega) (by omega) (by omega) (by omega), i1, a1]
  · rw [a1] at hi; exact absurd hi (by rw [v0]; omega)
  · rw [X 3 5 (by omega) (by omega) (by omega) (by omega) (by omega) (by omega), i2, a2]
  · rw [X 3 6 (by omega) (by omega) (by omega) (by omega) (by omega) (by omega), i3, a3]
  · rw [hr]; exact r1
  · rw [hr]; exact r2
  · rw [hr]; exact r3 ⟨b, hb⟩
  · rw [hr]; exact r4 i hi
  · rw [hr, hr, r4 i hi, r4 j hj] at z; omega
  · rw [a6]; exact n0 (by decide) (by decide)
  · rw [a7]; exact n0 (by decide) (by decide)
  · rw [a8]; exact n0 (by decide) (by decide)
  · rw [a9]; exact isN.of (j := 9) (by decide) (by decide)
  · rw [eM] at hm; omega
  · rw [eT] at hk; omega
  · rw [hr, r1]
    unfold XT XTs
    rw [X 194 12 (by omega) (by omega) (by omega) (by omega) (by omega) (by omega), X 194 13 (by omega) (by omega) (by omega) (by omega) (by omega) (by omega), X 194 14 (by omega) (by omega) (by omega) (by omega) (by omega) (by omega), X 194 15 (by omega) (by omega) (by omega) (by omega) (by omega) (by omega), X 194 16 (by omega) (by omega) (by omega) (by omega) (by omega) (by omega), i5, i6, i7, i8, i9, a6, a7, a8, a9, eM, eT]
    exact ⟨⟨rfl, rfl, rfl, rfl⟩, n0 (by decide) (by decide), fun m hm => absurd hm (by omega), fun k hk => absurd hk (by omega)⟩
  · rw [hr, r1]
    unfold XS
    rw [a4, a5, X (194 + 12) 2 (by omega) (by omega) (by omega) (by omega) (by omega) (by omega), X (194 + 12) 3 (by omega) (by omega) (by omega) (by omega) (by omega) (by omega), i11, i12, v0]
    refine ⟨n0 (by decide) (by decide), n0 (by decide) (by decide), rfl, rfl, Iff.rfl, fun i hi => absurd hi (by omega), fun i hi => ?_, fun z => absurd rfl z⟩
    have : i = 0 := by omega
    rw [this]
    exact ⟨0, rfl, by decide⟩
  · rw [b4 3 (by omega) (by omega)]; exact .inl rfl
  · rw [b4 16 (by omega) (by omega)]; exact n0 (by decide) (by decide)
  · rw [a10]; exact n0 (by decide) (by decide)
  · rw [a11]; exact n0 (by decide) (by decide)
  · rw [a10, a11]; decide
  · rw [e3, if_neg (by omega), if_neg (by omega), if_neg (by omega), if_pos (by omega), a10]
  · rw [e3, if_neg (by omega), if_neg (by omega), if_neg (by omega), if_pos (by omega), a10, a11]; rfl
  · rw [a10] at hi; exact absurd hi (by rw [v0]; omega)
  · rw [a10, v0, hr, r4 0 (by decide)]; exact hstR _ (.inr rfl)
  · rw [a10, a11] at h2; exact absurd h2 (by rw [v0]; omega)
  · rw [b1 b hb]; exact .inl rfl
  · rw [b1 b hb, e3, if_pos ⟨rfl, hb⟩]
  · rw [b1 b hb] at z; exact absurd z (by decide)
  · rw [a12]; exact n0 (by decide) (by decide)
  · rw [a13]; exact n0 (by decide) (by decide)
  · rw [a12, e3, if_neg (by omega), if_pos ⟨rfl, rfl⟩]
  · rw [a13, X 169 11 (by omega) (by omega) (by omega) (by omega) (by omega) (by omega), i4]
  · rw [a12] at hi; exact absurd hi (by rw [v0]; omega)
  · rw [a14]; exact n0 (by decide) (by decide)
  · rw [a14, e3, if_neg (by omega), if_neg (by omega), if_pos ⟨rfl, rfl⟩]
  · rw [a14] at hi; exact absurd hi (by rw [v0]; omega)
theorem step_all : StepAll Inv := ⟨s_feed, s_end, s_treaty, s_fault, s_tribe, s_move, s_worth, s_slip, s_take, s_rain, s_give, s_night, s_undo, s_redo, s_way, s_surest, s_makes, s_hands, s_deal, s_fair, s_good, s_round, s_near, s_both, s_clumsy, s_idle, s_ends, s_sources, s_will, s_mirror, s_lies, s_seen, s_felt, s_untell, s_later, s_rows, s_sure, s_ask, s_image, s_back, s_about⟩
