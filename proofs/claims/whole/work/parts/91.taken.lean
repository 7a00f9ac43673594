/-! ===== the reference takes over what was told ===== -/
theorem T74 {n : Nat} {y : gS} (e : y.1 0 18 = nI n) (hn : n ≤ 300) : ∃ y', hX11_treaty_74 FU 0 y = hX11_treaty_114 FU 0 y' ∧ y'.2 = y.2 ∧ ∀ k j, y'.1 k j = if k = 5 ∧ j < n then y.1 3 j else if k = 6 ∧ j < n then y.1 4 j else y.1 k j := by
  obtain ⟨s, m, e1, hp⟩ := lp (fun k (s : Int32 × gS) => hX11_treaty_74 k s.1 s.2) n (fun i s => s.1 = nI i ∧ s.2.2 = y.2 ∧ ∀ k j, s.2.1 k j = if k = 5 ∧ j < i then y.1 3 j else if k = 6 ∧ j < i then y.1 4 j else y.1 k j) (by
    intro k i ⟨l1, st⟩ hi ⟨q1, q2, q3⟩
    dsimp only at q1 q2 q3
    subst q1
    refine ⟨(nI (i + 1), wi (wi st 5 i (y.1 3 i)) 6 i (y.1 4 i)), ?_, rfl, q2, fun k j => ?_⟩
    · show fX11_treaty_74 (hX11_treaty_74 k) (nI i) st = hX11_treaty_74 k (nI (i + 1)) (wi (wi st 5 i (y.1 3 i)) 6 i (y.1 4 i))
      unfold fX11_treaty_74
      have g : gI (nI i) 320 := gI_nI (by omega) (by decide)
      rw [show st.1 0 18 = nI n by rw [q3, if_neg (by omega), if_neg (by omega), e], if_neg (nle hi (by omega)), gc_p g, gc_p g, gc_p g, gc_p g, nI_clamp (show i < 2 ^ 31 by omega), nI_s, show st.1 3 i = y.1 3 i by rw [q3, if_neg (by omega), if_neg (by omega)], show (wi st 5 i (y.1 3 i)).1 4 i = y.1 4 i by rw [wi_1, if_neg (by omega), q3, if_neg (by omega), if_neg (by omega)]]
    · dsimp only
      rw [wi_1]
      by_cases z1 : k = 6 ∧ j = i
      · rw [if_pos z1, if_neg (by omega), if_pos (by omega), z1.2]
      · rw [if_neg z1, wi_1]
        by_cases z2 : k = 5 ∧ j = i
        · rw [if_pos z2, if_pos (by omega), z2.2]
        · rw [if_neg z2, q3]
          by_cases z3 : k = 5 ∧ j < i
          · rw [if_pos z3, if_pos (by omega)]
          · rw [if_neg z3, if_neg (show ¬ (k = 5 ∧ j < i + 1) by omega)]
            by_cases z4 : k = 6 ∧ j < i
            · rw [if_pos z4, if_pos (by omega)]
            · rw [if_neg z4, if_neg (by omega)]) 0 (0, y) FU (by omega) ⟨rfl, rfl, fun k j => by dsimp only; rw [if_neg (by omega), if_neg (by omega)]⟩ (FU_gt (by omega))
  obtain ⟨l1, st⟩ := s
  obtain ⟨p1, p2, p3⟩ := hp
  dsimp only at e1 p1 p2 p3
  subst p1
  refine ⟨st, e1.trans ?_, p2, p3⟩
  show fX11_treaty_74 (hX11_treaty_74 m) (nI n) st = _
  unfold fX11_treaty_74
  rw [show st.1 0 18 = nI n by rw [p3, if_neg (by omega), if_neg (by omega), e], if_pos (yle _)]
theorem T114 {y : gS} : ∃ y', hX11_treaty_114 FU 0 y = hX11_treaty_163 FU 0 y' ∧ y'.2 = y.2 ∧ ∀ k j, y'.1 k j = if k = 12 ∧ j < 5 then y.1 10 j else if k = 13 ∧ j < 5 then y.1 11 j else if k = 27 ∧ j < 5 then vp_nar .boolean (y.1 26 j) else y.1 k j := by
  obtain ⟨s, m, e1, hp⟩ := lp (fun k (s : Int32 × gS) => hX11_treaty_114 k s.1 s.2) 5 (fun i s => s.1 = nI i ∧ s.2.2 = y.2 ∧ ∀ k j, s.2.1 k j = if k = 12 ∧ j < i then y.1 10 j else if k = 13 ∧ j < i then y.1 11 j else if k = 27 ∧ j < i then vp_nar .boolean (y.1 26 j) else y.1 k j) (by
    intro k i ⟨l1, st⟩ hi ⟨q1, q2, q3⟩
    dsimp only at q1 q2 q3
    subst q1
    have h0 : ∀ a b, a ≠ 12 → a ≠ 13 → a ≠ 27 → st.1 a b = y.1 a b := fun a b z1 z2 z3 => by rw [q3, if_neg (by omega), if_neg (by omega), if_neg (by omega)]
    refine ⟨(nI (i + 1), wi (wi (wi st 12 i (y.1 10 i)) 13 i (y.1 11 i)) 27 i (vp_nar .boolean (y.1 26 i))), ?_, rfl, q2, fun k j => ?_⟩
    · show fX11_treaty_114 (hX11_treaty_114 k) (nI i) st = hX11_treaty_114 k (nI (i + 1)) (wi (wi (wi st 12 i (y.1 10 i)) 13 i (y.1 11 i)) 27 i (vp_nar .boolean (y.1 26 i)))
      unfold fX11_treaty_114
      have g : gI (nI i) 5 := gI_nI (by omega) (by decide)
      rw [if_neg (show ¬ 5 ≤ nI i from fun q => by have := (nI_le' (a := 5) (by decide) (by omega)).mp q; omega), gc_p g, gc_p g, gc_p g, gc_p g, gc_p g, gc_p g, nI_clamp (show i < 2 ^ 31 by omega), nI_s, h0 10 i (by omega) (by omega) (by omega), show (wi st 12 i (y.1 10 i)).1 11 i = y.1 11 i by rw [wi_1, if_neg (by omega), h0 11 i (by omega) (by omega) (by omega)], show (wi (wi st 12 i (y.1 10 i)) 13 i (y.1 11 i)).1 26 i = y.1 26 i by rw [wi_1, if_neg (by omega), wi_1, if_neg (by omega), h0 26 i (by omega) (by omega) (by omega)]]
    · dsimp only
      rw [wi_1]
      by_cases z1 : k = 27 ∧ j = i
      · rw [if_pos z1, if_neg (by omega), if_neg (by omega), if_pos (by omega), z1.2]
      · rw [if_neg z1, wi_1]
        by_cases z2 : k = 13 ∧ j = i
        · rw [if_pos z2, if_neg (by omega), if_pos (by omega), z2.2]
        · rw [if_neg z2, wi_1]
          by_cases z3 : k = 12 ∧ j = i
          · rw [if_pos z3, if_pos (by omega), z3.2]
          · rw [if_neg z3, q3]
            by_cases z4 : k = 12 ∧ j < i
            · rw [if_pos z4, if_pos (by omega)]
            · rw [if_neg z4, if_neg (show ¬ (k = 12 ∧ j < i + 1) by omega)]
              by_cases z5 : k = 13 ∧ j < i
              · rw [if_pos z5, if_pos (by omega)]
              · rw [if_neg z5, if_neg (show ¬ (k = 13 ∧ j < i + 1) by omega)]
                by_cases z6 : k = 27 ∧ j < i
                · rw [if_pos z6, if_pos (by omega)]
                · rw [if_neg z6, if_neg (by omega)]) 0 (0, y) FU (by omega) ⟨rfl, rfl, fun k j => by dsimp only; rw [if_neg (by omega), if_neg (by omega), if_neg (by omega)]⟩ (FU_gt (by omega))
  obtain ⟨l1, st⟩ := s
  obtain ⟨p1, p2, p3⟩ := hp
  dsimp only at e1 p1 p2 p3
  subst p1
  refine ⟨st, e1.trans ?_, p2, p3⟩
  show fX11_treaty_114 (hX11_treaty_114 m) (nI 5) st = _
  unfold fX11_treaty_114
  rw [if_pos (by decide)]
theorem T163 {T : Nat} {y : gS} (e : y.1 0 49 = nI T) (hT : T ≤ 5) : ∃ y', hX11_treaty_163 FU 0 y = hX11_treaty_207 FU 0 y' ∧ y'.2 = y.2 ∧ ∀ k j, y'.1 k j = if k = 15 ∧ j < 8 * T then (if 0 ≤ y.1 14 j then y.1 14 j else 0) else y.1 k j := by
  have e8 : 8 * nI T = nI (8 * T) := pk_mul 8 T
  obtain ⟨s, m, e1, hp⟩ := lp (fun k (s : Int32 × gS) => hX11_treaty_163 k s.1 s.2) (8 * T) (fun i s => s.1 = nI i ∧ s.2.2 = y.2 ∧ ∀ k j, s.2.1 k j = if k = 15 ∧ j < i then (if 0 ≤ y.1 14 j then y.1 14 j else 0) else y.1 k j) (by
    intro k i ⟨l1, st⟩ hi ⟨q1, q2, q3⟩
    dsimp only at q1 q2 q3
    subst q1
    refine ⟨(nI (i + 1), wi st 15 i (if 0 ≤ y.1 14 i then y.1 14 i else 0)), ?_, rfl, q2, fun k j => ?_⟩
    · show fX11_treaty_163 (hX11_treaty_163 k) (nI i) st = hX11_treaty_163 k (nI (i + 1)) (wi st 15 i (if 0 ≤ y.1 14 i then y.1 14 i else 0))
      unfold fX11_treaty_163 fX11_treaty_198
      have g : gI (nI i) 40 := gI_nI (by omega) (by decide)
      rw [show st.1 0 49 = nI T by rw [q3, if_neg (by omega), e], e8, if_neg (nle hi (by omega)), gc_p g, gc_p g, gc_p g, gc_p g, nI_clamp (show i < 2 ^ 31 by omega), nI_s, show st.1 14 i = y.1 14 i by rw [q3, if_neg (by omega)]]
      by_cases z : 0 ≤ y.1 14 i
      · rw [if_pos z, if_pos z]
      · rw [if_neg z, if_neg z]
    · dsimp only
      rw [wi_1]
      by_cases z1 : k = 15 ∧ j = i
      · rw [if_pos z1, if_pos (show k = 15 ∧ j < i + 1 by omega), z1.2]
      · rw [if_neg z1, q3]
        by_cases z2 : k = 15 ∧ j < i
        · rw [if_pos z2, if_pos (show k = 15 ∧ j < i + 1 by omega)]
        · rw [if_neg z2, if_neg (by omega)]) 0 (0, y) FU (by omega) ⟨rfl, rfl, fun k j => by dsimp only; rw [if_neg (by omega)]⟩ (FU_gt (by omega))
  obtain ⟨l1, st⟩ := s
  obtain ⟨p1, p2, p3⟩ := hp
  dsimp only at e1 p1 p2 p3
  subst p1
  refine ⟨st, e1.trans ?_, p2, p3⟩
  show fX11_treaty_163 (hX11_treaty_163 m) (nI (8 * T)) st = _
  unfold fX11_treaty_163
  rw [show st.1 0 49 = nI T by rw [p3, if_neg (by omega), e], e8, if_pos (yle _)]
theorem T207 {M : Nat} {y : gS} (e : y.1 0 50 = nI M) (hM : M ≤ 16) : ∃ y', hX11_treaty_207 FU 0 y = hX11_treaty_283 FU 0 y' ∧ y'.2 = y.2 ∧ ∀ k j, y'.1 k j = if (21 ≤ k ∧ k ≤ 25) ∧ j < M then y.1 (k - 5) j else y.1 k j := by
  obtain ⟨s, m, e1, hp⟩ := lp (fun k (s : Int32 × gS) => hX11_treaty_207 k s.1 s.2) M (fun i s => s.1 = nI i ∧ s.2.2 = y.2 ∧ ∀ k j, s.2.1 k j = if (21 ≤ k ∧ k ≤ 25) ∧ j < i then y.1 (k - 5) j else y.1 k j) (by
    intro k i ⟨l1, st⟩ hi ⟨q1, q2, q3⟩
    dsimp only at q1 q2 q3
    subst q1
    have h0 : ∀ a b, ¬ (21 ≤ a ∧ a ≤ 25) → st.1 a b = y.1 a b := fun a b z => by rw [q3, if_neg (by omega)]
    refine ⟨(nI (i + 1), wi (wi (wi (wi (wi st 21 i (y.1 16 i)) 22 i (y.1 17 i)) 23 i (y.1 18 i)) 24 i (y.1 19 i)) 25 i (y.1 20 i)), ?_, rfl, q2, fun k j => ?_⟩
    · show fX11_treaty_207 (hX11_treaty_207 k) (nI i) st = hX11_treaty_207 k (nI (i + 1)) (wi (wi (wi (wi (wi st 21 i (y.1 16 i)) 22 i (y.1 17 i)) 23 i (y.1 18 i)) 24 i (y.1 19 i)) 25 i (y.1 20 i))
      unfold fX11_treaty_207
      have g : gI (nI i) 16 := gI_nI (by omega) (by decide)
      rw [show st.1 0 50 = nI M by rw [h0 0 50 (by omega), e], if_neg (nle hi (by omega)), gc_p g, gc_p g, gc_p g, gc_p g, gc_p g, gc_p g, gc_p g, gc_p g, gc_p g, gc_p g, nI_clamp (show i < 2 ^ 31 by omega), nI_s, h0 16 i (by omega)]
      have w17 : ∀ v, (wi st 21 i v).1 17 i = y.1 17 i := fun v => by rw [wi_1, if_neg (by omega), h0 17 i (by omega)]
      rw [w17]
      have w18 : ∀ v w, (wi (wi st 21 i v) 22 i w).1 18 i = y.1 18 i := fun v w => by rw [wi_1, if_neg (by omega), wi_1, if_neg (by omega), h0 18 i (by omega)]
      rw [w18]
      have w19 : ∀ v w u, (wi (wi (wi st 21 i v) 22 i w) 23 i u).1 19 i = y.1 19 i := fun v w u => by rw [wi_1, if_neg (by omega), wi_1, if_neg (by omega), wi_1, if_neg (by omega), h0 19 i (by omega)]
      rw [w19]
      have w20 : ∀ v w u s, (wi (wi (wi (wi st 21 i v) 22 i w) 23 i u) 24 i s).1 20 i = y.1 20 i := fun v w u s => by rw [wi_1, if_neg (by omega), wi_1, if_neg (by omega), wi_1, if_neg (by omega), wi_1, if_neg (by omega), h0 20 i (by omega)]
      rw [w20]
    · dsimp only
      by_cases z : (21 ≤ k ∧ k ≤ 25) ∧ j = i
      · rw [if_pos (show (21 ≤ k ∧ k ≤ 25) ∧ j < i + 1 by omega), z.2]
        rcases (by omega : k = 21 ∨ k = 22 ∨ k = 23 ∨ k = 24 ∨ k = 25) with z | z | z | z | z <;> subst z
        · rw [wi_n (by omega), wi_n (by omega), wi_n (by omega), wi_n (by omega), wi_s]
        · rw [wi_n (by omega), wi_n (by omega), wi_n (by omega), wi_s]
        · rw [wi_n (by omega), wi_n (by omega), wi_s]
        · rw [wi_n (by omega), wi_s]
        · rw [wi_s]
      · rw [wi_n (by omega), wi_n (by omega), wi_n (by omega), wi_n (by omega), wi_n (by omega), q3]
        by_cases z2 : (21 ≤ k ∧ k ≤ 25) ∧ j < i
        · rw [if_pos z2, if_pos (by omega)]
        · rw [if_neg z2, if_neg (by omega)]) 0 (0, y) FU (by omega) ⟨rfl, rfl, fun k j => by dsimp only; rw [if_neg (by omega)]⟩ (FU_gt (by omega))
  obtain ⟨l1, st⟩ := s
  obtain ⟨p1, p2, p3⟩ := hp
  dsimp only at e1 p1 p2 p3
  subst p1
  refine ⟨st, e1.trans ?_, p2, p3⟩
  show fX11_treaty_207 (hX11_treaty_207 m) (nI M) st = _
  unfold fX11_treaty_207
  rw [show st.1 0 50 = nI M by rw [p3, if_neg (by omega), e], if_pos (yle _)]
def bgY (y : gS) (j : Nat) : Int32 := if j = 0 then (if y.1 0 48 = 0 then -1 else 0) else if j = 1 then (if y.1 0 49 = 0 then -1 else 0) else if j = 17 then y.1 0 47 else 0
theorem T283 {y : gS} : ∃ y', hX11_treaty_283 FU 0 y = some (y.1 0 48, y') ∧ y'.2 = y.2 ∧ ∀ k j, y'.1 k j = if k = 28 ∧ j < 18 then bgY y j else if k = 0 ∧ (j = 58 ∨ j = 59 ∨ j = 73 ∨ j = 62) then 0 else if k = 45 ∧ j < 3 then 0 else y.1 k j := by
  obtain ⟨s, m, e1, hp⟩ := lp (fun k (s : Int32 × gS) => hX11_treaty_283 k s.1 s.2) 18 (fun i s => s.1 = nI i ∧ s.2.2 = y.2 ∧ ∀ k j, s.2.1 k j = if k = 28 ∧ j < i then 0 else y.1 k j) (by
    intro k i ⟨l1, st⟩ hi ⟨q1, q2, q3⟩
    dsimp only at q1 q2 q3
    subst q1
    refine ⟨(nI (i + 1), wi st 28 i 0), ?_, rfl, q2, fun k j => ?_⟩
    · show fX11_treaty_283 (hX11_treaty_283 k) (nI i) st = hX11_treaty_283 k (nI (i + 1)) (wi st 28 i 0)
      unfold fX11_treaty_283
      rw [if_neg (show ¬ 18 ≤ nI i from fun q => by have := (nI_le' (a := 18) (by decide) (by omega)).mp q; omega), gc_p (gI_nI hi (by decide)), nI_clamp (show i < 2 ^ 31 by omega), nI_s]
    · dsimp only
      rw [wi_1]
      by_cases z1 : k = 28 ∧ j = i
      · rw [if_pos z1, if_pos (by omega)]
      · rw [if_neg z1, q3]
        by_cases z2 : k = 28 ∧ j < i
        · rw [if_pos z2, if_pos (by omega)]
        · rw [if_neg z2, if_neg (by omega)]) 0 (0, y) FU (by omega) ⟨rfl, rfl, fun k j => by dsimp only; rw [if_neg (by omega)]⟩ (FU_gt (by omega))
  obtain ⟨l1, st⟩ := s
  obtain ⟨p1, p2, p3⟩ := hp
  dsimp only at e1 p1 p2 p3
  subst p1
  generalize hV0 : (if y.1 0 48 = 0 then (-1 : Int32) else 0) = v0
  generalize hV1 : (if y.1 0 49 = 0 then (-1 : Int32) else 0) = v1
  have h0 : ∀ b, st.1 0 b = y.1 0 b := fun b => by rw [p3, if_neg (by omega)]
  obtain ⟨g, hg⟩ : ∃ g, FU = g + 4 := ⟨69996, rfl⟩
  refine ⟨wi (wi (wi (wi (wi (wi (wi (wi (wi (wi st 28 0 v0) 28 1 v1) 28 17 (y.1 0 47)) 0 58 0) 0 59 0) 0 73 0) 0 62 0) 45 0 0) 45 1 0) 45 2 0, ?_, p2, fun k j => ?_⟩
  · rw [e1]
    show fX11_treaty_283 (hX11_treaty_283 m) (nI 18) st = _
    have e319 : (if st.1 0 48 = 0 then fX11_treaty_319 (-1) 0 st else fX11_treaty_319 0 0 st) = fX11_treaty_319 v0 0 st := by
      rw [h0, ← hV0]
      by_cases z : y.1 0 48 = 0
      · rw [if_pos z, if_pos z]
      · rw [if_neg z, if_neg z]
    have e337 : (if (wi st 28 0 v0).1 0 49 = 0 then fX11_treaty_337 (-1) 1 (wi st 28 0 v0) else fX11_treaty_337 0 1 (wi st 28 0 v0)) = fX11_treaty_337 v1 1 (wi st 28 0 v0) := by
      rw [wi_n (by omega), h0, ← hV1]
      by_cases z : y.1 0 49 = 0
      · rw [if_pos z, if_pos z]
      · rw [if_neg z, if_neg z]
    unfold fX11_treaty_283
    rw [if_pos (by decide), e319]
    unfold fX11_treaty_319
    rw [gc_p (by decide)]
    show (if (wi st 28 0 v0).1 0 49 = 0 then fX11_treaty_337 (-1) 1 (wi st 28 0 v0) else fX11_treaty_337 0 1 (wi st 28 0 v0)) = _
    rw [e337]
    unfold fX11_treaty_337
    rw [gc_p (by decide), gc_p (by decide), hg]
    show fX11_treaty_371 (hX11_treaty_371 (g + 3)) 0 (wi (wi (wi (wi (wi (wi (wi st 28 0 v0) 28 1 v1) 28 17 ((wi (wi st 28 0 v0) 28 1 v1).1 0 47)) 0 58 0) 0 59 0) 0 73 0) 0 62 0) = _
    rw [show (wi (wi st 28 0 v0) 28 1 v1).1 0 47 = y.1 0 47 by rw [wi_n (by omega), wi_n (by omega), h0]]
    unfold fX11_treaty_371
    rw [if_neg (by decide), gc_p (by decide)]
    show fX11_treaty_371 (hX11_treaty_371 (g + 2)) 1 (wi (wi (wi (wi (wi (wi (wi (wi st 28 0 v0) 28 1 v1) 28 17 (y.1 0 47)) 0 58 0) 0 59 0) 0 73 0) 0 62 0) 45 0 0) = _
    unfold fX11_treaty_371
    rw [if_neg (by decide), gc_p (by decide)]
    show fX11_treaty_371 (hX11_treaty_371 (g + 1)) 2 (wi (wi (wi (wi (wi (wi (wi (wi (wi st 28 0 v0) 28 1 v1) 28 17 (y.1 0 47)) 0 58 0) 0 59 0) 0 73 0) 0 62 0) 45 0 0) 45 1 0) = _
    unfold fX11_treaty_371
    rw [if_neg (by decide), gc_p (by decide)]
    show fX11_treaty_371 (hX11_treaty_371 g) 3 (wi (wi (wi (wi (wi (wi (wi (wi (wi (wi st 28 0 v0) 28 1 v1) 28 17 (y.1 0 47)) 0 58 0) 0 59 0) 0 73 0) 0 62 0) 45 0 0) 45 1 0) 45 2 0) = _
    unfold fX11_treaty_371
    rw [if_pos (by decide), wi_n (by omega), wi_n (by omega), wi_n (by omega), wi_n (by omega), wi_n (by omega), wi_n (by omega), wi_n (by omega), wi_n (by omega), wi_n (by omega), wi_n (by omega), h0]
  · by_cases z1 : k = 28 ∧ j < 18
    · rw [if_pos z1, wi_n (by omega), wi_n (by omega), wi_n (by omega), wi_n (by omega), wi_n (by omega), wi_n (by omega), wi_n (by omega)]
      unfold bgY
      rw [hV0, hV1]
      obtain ⟨z2, z3⟩ := z1
      subst z2
      by_cases q17 : j = 17
      · subst q17
        rw [wi_s, if_neg (by decide), if_neg (by decide), if_pos rfl]
      · rw [wi_n (by omega)]
        by_cases q1 : j = 1
        · subst q1
          rw [wi_s, if_neg (by decide), if_pos rfl]
        · rw [wi_n (by omega)]
          by_cases q0 : j = 0
          · subst q0
            rw [wi_s, if_pos rfl]
          · rw [wi_n (by omega), p3, if_pos ⟨rfl, z3⟩, if_neg q0, if_neg q1, if_neg q17]
    · rw [if_neg z1]
      by_cases z2 : k = 0 ∧ (j = 58 ∨ j = 59 ∨ j = 73 ∨ j = 62)
      · rw [if_pos z2, wi_n (by omega), wi_n (by omega), wi_n (by omega)]
        obtain ⟨z3, z4⟩ := z2
        subst z3
        rcases z4 with z | z | z | z <;> subst z
        · rw [wi_n (by omega), wi_n (by omega), wi_n (by omega), wi_s]
        · rw [wi_n (by omega), wi_n (by omega), wi_s]
        · rw [wi_n (by omega), wi_s]
        · rw [wi_s]
      · rw [if_neg z2]
        by_cases z3 : k = 45 ∧ j < 3
        · rw [if_pos z3]
          obtain ⟨z4, z5⟩ := z3
          subst z4
          rcases (by omega : j = 0 ∨ j = 1 ∨ j = 2) with z | z | z <;> subst z
          · rw [wi_n (by omega), wi_n (by omega), wi_s]
          · rw [wi_n (by omega), wi_s]
          · rw [wi_s]
        · rw [if_neg z3, wi_n (by omega), wi_n (by omega), wi_n (by omega), wi_n (by omega), wi_n (by omega), wi_n (by omega), wi_n (by omega), wi_n (by omega), wi_n (by omega), wi_n (by omega), p3, if_neg (by omega)]
