/-! ===== the reference's loop over what waits ===== -/
/-- the reference at the head of its loop; at the head of unit's -/
def LH (n : Nat) (y : gS) : Option gS := hX11_readSlip_30 n 1 y
def UU (m n : Nat) (y : gS) : Option gS := (hX11_unit_2 m 1 y).bind fun q => hX11_readSlip_30 n 1 q
section SS
variable {x0 y0 x y : gS} {t L c w u d k : Nat} {S P : List Nat}
theorem isOp_n {v : Int32} {a : Nat} (h : isOp v a) : v ≠ 22 ∧ v ≠ 21 ∧ v ≠ 41 ∧ v ≠ 15 := by
  rcases h with ⟨h1, h2⟩ | ⟨h1, h2⟩ | ⟨h1, h2⟩
  · subst h1; decide
  · subst h1; decide
  · rcases h2 with h2 | h2 | h2 | h2 | h2 | h2 | h2 | h2 <;> subst h1 h2 <;> decide
theorem sign_op {a : Nat} (h : KD x y) (ha : isOp (x.1 19 2) a) : fX11_sign y = some (nI a, y) := by
  unfold fX11_sign fX11_sign_98
  rcases ha with ⟨h1, h2⟩ | ⟨h1, h2⟩ | ⟨h1, h2⟩
  · rw [(isW h (k := 14) (w := 6385252) (by decide) rfl).2 (by rw [h1]; decide), bd]
    dsimp only
    rw [if_pos rfl, (isW h (k := 13) (w := 28530) (by decide) rfl).1 h1, bd]
    dsimp only
    rw [if_neg one0, h2]
    rfl
  · rw [(isW h (k := 14) (w := 6385252) (by decide) rfl).1 h1, bd]
    dsimp only
    rw [if_neg one0, h2]
    rfl
  · have e : y.1 0 6 = nI a := (h.iff (a := a) (b := a) (by omega) (by omega)).mpr h1
    have n14 : ¬ x.1 19 2 = nI 14 := by rw [h1]; exact fun q => by have := (nI_inj (by omega) (by decide)).mp q; omega
    have n13 : ¬ x.1 19 2 = nI 13 := by rw [h1]; exact fun q => by have := (nI_inj (by omega) (by decide)).mp q; omega
    rw [(isW h (k := 14) (w := 6385252) (by decide) rfl).2 n14, bd]
    dsimp only
    rw [if_pos rfl, (isW h (k := 13) (w := 28530) (by decide) rfl).2 n13, bd]
    dsimp only
    rw [if_pos rfl, e]
    rcases h2 with h2 | h2 | h2 | h2 | h2 | h2 | h2 | h2 <;> subst h2 <;> rfl
theorem sign_0 (h : KD x y) (hn : ∀ a, ¬ isOp (x.1 19 2) a) : fX11_sign y = some (0, y) := by
  unfold fX11_sign
  have n14 : ¬ x.1 19 2 = nI 14 := fun q => hn 38 (.inr (.inl ⟨q, rfl⟩))
  have n13 : ¬ x.1 19 2 = nI 13 := fun q => hn 124 (.inl ⟨q, rfl⟩)
  have ns : ∀ s, (s = 60 ∨ s = 62 ∨ s = 61 ∨ s = 43 ∨ s = 45 ∨ s = 42 ∨ s = 47 ∨ s = 37) → ¬ y.1 0 6 = nI s := fun s hs q => hn s (.inr (.inr ⟨(h.iff (a := s) (b := s) (by omega) (by omega)).mp q, hs⟩))
  rw [(isW h (k := 14) (w := 6385252) (by decide) rfl).2 n14, bd]
  dsimp only
  rw [if_pos rfl, (isW h (k := 13) (w := 28530) (by decide) rfl).2 n13, bd]
  dsimp only
  rw [if_pos rfl, if_neg (show ¬ y.1 0 6 = 60 from ns 60 (by omega)), if_neg (show ¬ y.1 0 6 = 62 from ns 62 (by omega)), if_neg (show ¬ y.1 0 6 = 61 from ns 61 (by omega)), if_neg (show ¬ y.1 0 6 = 43 from ns 43 (by omega)), if_neg (show ¬ y.1 0 6 = 45 from ns 45 (by omega)), if_neg (show ¬ y.1 0 6 = 42 from ns 42 (by omega)), if_neg (show ¬ y.1 0 6 = 47 from ns 47 (by omega)), if_neg (show ¬ y.1 0 6 = 37 from ns 37 (by omega))]
theorem atS_ex {y : gS} {a : Nat} : ∀ {l : List Nat}, atS y l → a ∈ l → ∃ j, j < l.length ∧ y.1 7 j = nI a := by
  intro l
  induction l with
  | nil => exact fun _ h => absurd h List.not_mem_nil
  | cons b l ih =>
    intro h hm
    rcases List.mem_cons.mp hm with e | e
    · exact ⟨l.length, Nat.lt_succ_self _, by rw [e]; exact h.1⟩
    · obtain ⟨j, h1, h2⟩ := ih h.2 e
      exact ⟨j, Nat.lt_succ_of_lt h1, h2⟩
theorem atS_all {y : gS} {j : Nat} : ∀ {l : List Nat}, atS y l → j < l.length → ∃ a, a ∈ l ∧ y.1 7 j = nI a := by
  intro l
  induction l with
  | nil => exact fun _ h => absurd h (Nat.not_lt_zero _)
  | cons b l ih =>
    intro h hj
    by_cases e : j = l.length
    · exact ⟨b, List.mem_cons_self .., by rw [e]; exact h.1⟩
    · have hj : j < l.length + 1 := hj
      obtain ⟨a, h1, h2⟩ := ih h.2 (by omega)
      exact ⟨a, List.mem_cons_of_mem _ h1, h2⟩
theorem hb_loop {N : Nat} (e : y.1 0 19 = nI N) (hN : N ≤ 70) : (∃ j, j < N ∧ y.1 7 j = 20 ∧ fX11_hasBracket y = some (1, y)) ∨ ((∀ j, j < N → ¬ y.1 7 j = 20) ∧ fX11_hasBracket y = some (0, y)) := by
  unfold fX11_hasBracket
  obtain ⟨s, m, e1, hp⟩ := lp (fun k (s : Int32 × Int32) => hX11_hasBracket_4 k s.1 s.2 y) N (fun i s => s.2 = nI i ∧ ((s.1 = 1 ∧ ∃ j, j < i ∧ y.1 7 j = 20) ∨ (s.1 = 0 ∧ ∀ j, j < i → ¬ y.1 7 j = 20))) (by
    intro k i ⟨l1, l2⟩ hi ⟨g1, g2⟩
    dsimp only at g1 g2
    subst g1
    have f : hX11_hasBracket_4 (k + 1) l1 (nI i) y = if l1 = 0 then (if y.1 7 i = 20 then hX11_hasBracket_4 k 1 (nI (i + 1)) y else hX11_hasBracket_4 k 0 (nI (i + 1)) y) else hX11_hasBracket_4 k 1 (nI (i + 1)) y := by
      show fX11_hasBracket_4 (hX11_hasBracket_4 k) l1 (nI i) y = _
      unfold fX11_hasBracket_4 fX11_hasBracket_27
      rw [e, if_neg (show ¬ nI N ≤ nI i from fun z => by have := (nI_le' (by omega) (by omega)).mp z; omega), gc_p (gI_nI (by omega) (by decide)), nI_clamp (by omega), nI_s]
    dsimp only
    rw [f]
    rcases g2 with ⟨g2, j, j1, j2⟩ | ⟨g2, g3⟩
    · rw [if_neg (by rw [g2]; decide)]
      exact ⟨(_, _), rfl, rfl, .inl ⟨rfl, j, by omega, j2⟩⟩
    · rw [if_pos g2]
      by_cases z : y.1 7 i = 20
      · rw [if_pos z]
        exact ⟨(_, _), rfl, rfl, .inl ⟨rfl, i, by omega, z⟩⟩
      · rw [if_neg z]
        refine ⟨(_, _), rfl, rfl, .inr ⟨rfl, fun j hj => ?_⟩⟩
        by_cases e2 : j = i
        · rw [e2]; exact z
        · exact g3 j (by omega)) 0 (0, 0) FU (by omega) ⟨rfl, .inr ⟨rfl, fun j hj => absurd hj (by omega)⟩⟩ (FU_gt (by omega))
  obtain ⟨l1, l2⟩ := s
  obtain ⟨p1, p2⟩ := hp
  dsimp only at e1 p1 p2
  subst p1
  rw [e1]
  have f : ∀ v : Int32, gB v → hX11_hasBracket_4 (m + 1) v (nI N) y = some (v, y) := fun v hv => by
    show fX11_hasBracket_4 (hX11_hasBracket_4 m) v (nI N) y = _
    unfold fX11_hasBracket_4
    rw [e, if_pos ((nI_le' (by omega) (by omega)).mpr (Nat.le_refl _)), gc_p hv]
  rcases p2 with ⟨g1, j, j1, j2⟩ | ⟨g1, g2⟩
  · exact .inl ⟨j, j1, j2, by rw [g1]; exact f 1 (by decide)⟩
  · exact .inr ⟨g2, by rw [g1]; exact f 0 (by decide)⟩
theorem hb1 (h : SR x0 y0 t L c S P w u d k x y) (hm : 20 ∈ P ++ S) : fX11_hasBracket y = some (1, y) := by
  obtain ⟨-, -, ⟨b1, b2, b3, b4, b5, b6, b7, b8⟩, -⟩ := h
  rcases hb_loop b4 b6 with ⟨j, -, -, q⟩ | ⟨q, -⟩
  · exact q
  · obtain ⟨j, j1, j2⟩ := atS_ex b5 hm
    exact absurd j2 (q j j1)
theorem hb0 (h : SR x0 y0 t L c S P w u d k x y) (hm : ¬ 20 ∈ P ++ S) : fX11_hasBracket y = some (0, y) := by
  obtain ⟨-, -, ⟨b1, b2, b3, b4, b5, b6, b7, b8⟩, -⟩ := h
  rcases hb_loop b4 b6 with ⟨j, j1, j2, -⟩ | ⟨-, q⟩
  · obtain ⟨a, a1, a2⟩ := atS_all b5 j1
    have ha : a < 125 := by
      rcases List.mem_append.mp a1 with q | q
      · exact opA_lt (b7 a q)
      · rcases b8 a q with q | q
        · omega
        · exact opA_lt q
    have : a = 20 := (nI_inj (b := 20) (by omega) (by decide)).mp (a2.symm.trans j2)
    rw [this] at a1
    exact absurd a1 hm
  · exact q
theorem rel_loop : ∀ {l : List Nat} {n : Nat}, atS y l → l.length ≤ 70 → (∀ a, a ∈ l → a = 20 ∨ opA a) → l.length < n → hX11_hasRelation_7 n (nI l.length - 1) y = some (b2 (hasRel l), y) := by
  intro l
  induction l with
  | nil =>
    intro n _ _ _ hn
    obtain ⟨n, rfl⟩ : ∃ j, n = j + 1 := ⟨n - 1, by have : (0 : Nat) < n := hn; omega⟩
    show fX11_hasRelation_7 (hX11_hasRelation_7 n) (nI 0 - 1) y = _
    unfold fX11_hasRelation_7 fX11_hasRelation_41
    rw [if_pos (by decide), if_pos (by decide)]
    rfl
  | cons a l ih =>
    intro n h hl ho hn
    have hl : l.length + 1 ≤ 70 := hl
    have hn : l.length + 1 < n := hn
    obtain ⟨n, rfl⟩ : ∃ j, n = j + 1 := ⟨n - 1, by omega⟩
    have e : nI (a :: l).length - 1 = nI l.length := pk_sub (a := l.length + 1) (b := 1) (by omega)
    have hoa := ho a (List.mem_cons_self ..)
    have ha : a < 125 := by
      rcases hoa with q | q
      · omega
      · exact opA_lt q
    have h6 := ti_6 a
    have gi : gI (nI l.length) 160 := gI_nI (by omega) (by decide)
    have e7 : y.1 7 l.length = nI a := h.1
    have nn : ¬ nI l.length < 0 := nI_nn (by omega)
    rw [e]
    show fX11_hasRelation_7 (hX11_hasRelation_7 n) (nI l.length) y = _
    have h41 : fX11_hasRelation_41 (nI l.length) y = if nI a = 20 then some (0, y) else if nI (ti a) = 4 then some (1, y) else some (0, y) := by
      unfold fX11_hasRelation_41
      rw [if_neg nn, gc_p gi, gc_p gi, nI_clamp (show l.length < 2 ^ 31 by omega), e7, tight_sp hoa, bd]
    unfold fX11_hasRelation_7
    show _ = some (b2 (if a = 20 then false else if 4 < ti a then hasRel l else decide (ti a = 4)), y)
    rw [if_neg nn, gc_p gi, gc_p gi, nI_clamp (show l.length < 2 ^ 31 by omega), e7, tight_sp hoa, bd]
    dsimp only
    rw [h41]
    by_cases z : a = 20
    · rw [if_pos (show nI a = 20 by rw [z]; rfl), if_pos (show nI a = 20 by rw [z]; rfl), if_pos z]
      rfl
    · have nz : ¬ nI a = 20 := fun q => z ((nI_inj (b := 20) (by omega) (by decide)).mp q)
      rw [if_neg nz, if_neg nz, if_neg z]
      by_cases z4 : 4 < ti a
      · rw [if_neg (show ¬ nI (ti a) ≤ 4 from fun q => by have := (nI_le' (b := 4) (by omega) (by decide)).mp q; omega), if_pos z4, show nI l.length + (-1) = nI l.length - 1 from (Int32.sub_eq_add_neg _ _).symm]
        exact ih h.2 (by omega) (fun b hb => ho b (List.mem_cons_of_mem _ hb)) (by omega)
      · rw [if_pos (show nI (ti a) ≤ 4 from (nI_le' (b := 4) (by omega) (by decide)).mpr (by omega)), if_neg z4]
        by_cases z5 : ti a = 4
        · rw [if_pos (show nI (ti a) = 4 by rw [z5]; rfl), z5]
          rfl
        · rw [if_neg (show ¬ nI (ti a) = 4 from fun q => z5 ((nI_inj (b := 4) (by omega) (by decide)).mp q)), show decide (ti a = 4) = false by simp [z5]]
          rfl
theorem rel_sp (h : SR x0 y0 t L c S P w u d k x y) : fX11_hasRelation y = some (b2 (hasRel (P ++ S)), y) := by
  obtain ⟨-, -, ⟨b1, e2, b3, b4, b5, b6, b7, b8⟩, -⟩ := h
  unfold fX11_hasRelation gl
  rw [b4]
  refine rel_loop b5 b6 (fun a ha => ?_) (FU_gt (by omega))
  rcases List.mem_append.mp ha with q | q
  · exact .inr (b7 a q)
  · exact b8 a q
theorem may_sp (h : SR x0 y0 t L c S [] w u d k x y) : fX11_mayNot y = some (b2 (mayN S), y) := by
  obtain ⟨-, -, ⟨b1, e2, b3, b4, b5, b6, b7, b8⟩, -⟩ := h
  unfold fX11_mayNot
  cases S with
  | nil =>
    rw [b4]
    exact if_pos rfl
  | cons a S =>
    have b4 : y.1 0 19 = nI (S.length + 1) := b4
    have b6 : S.length + 1 ≤ 70 := b6
    have b50 : y.1 7 S.length = nI a := b5.1
    have hoa : a = 20 ∨ opA a := b8 a (List.mem_cons_self ..)
    have ha : a < 125 := by
      rcases hoa with q | q
      · omega
      · exact opA_lt q
    have h6 := ti_6 a
    have e1 : y.1 0 19 - 1 = nI S.length := by rw [b4]; exact pk_sub (a := S.length + 1) (b := 1) (by omega)
    have gi : gI (nI S.length) 160 := gI_nI (by omega) (by decide)
    rw [e1, b4, if_neg (show ¬ nI (S.length + 1) = 0 from fun q => by have := (nI_eq0 (by omega)).mp q; omega), gc_p gi, gc_p gi, nI_clamp (show S.length < 2 ^ 31 by omega), b50, tight_sp hoa, bd]
    dsimp only
    show _ = some (b2 (decide (a = 20) || decide (ti a < 4)), y)
    by_cases z : a = 20
    · rw [if_pos (show nI a = 20 by rw [z]; rfl), show (decide (a = 20) || decide (ti a < 4)) = true by simp [z]]
      rfl
    · rw [if_neg (show ¬ nI a = 20 from fun q => z ((nI_inj (b := 20) (by omega) (by decide)).mp q))]
      by_cases z4 : ti a < 4
      · rw [if_neg (show ¬ 4 ≤ nI (ti a) from fun q => by have := (nI_le' (a := 4) (by decide) (by omega)).mp q; omega), show (decide (a = 20) || decide (ti a < 4)) = true by simp [z4]]
        rfl
      · rw [if_pos (show 4 ≤ nI (ti a) from (nI_le' (a := 4) (by decide) (by omega)).mpr (by omega)), show (decide (a = 20) || decide (ti a < 4)) = false by simp [z, z4]]
        rfl
/-- a sign is gone over, and waits -/
theorem op_sp {a n : Nat} (h : SR x0 y0 t L c S P w u d k x y) (ha : isOp (x.1 19 2) a) (hP : ∀ b, b ∈ P → ti a ≤ ti b) (hS : low (ti a) S) (hr : ti a = 4 → hasRel (P ++ S) = false) (h70 : S.length < 70) : ∃ x' y' c', fX7_step x = some x' ∧ LH (n + 1) y = UU FU n y' ∧ SR x0 y0 t L c' (a :: S) [] w u d k x' y' ∧ c < c' := by
  have hob := isOp_B ha
  have hlt := opB_lt hob
  obtain ⟨n22, n21, n41, -⟩ := isOp_n ha
  have h6 := ti_6 a
  have s41 : ¬ y.1 0 6 = 41 := fun q => n41 ((h.1.kd.iff (a := 41) (b := 41) (by decide) (by omega)).mp q)
  obtain ⟨y1, c1, r1⟩ := close_all h h6 hP hS
  have hc := r1.2.1
  obtain ⟨b1, e20, b3, b4, b5, b6, b7, b8⟩ := r1.2.2.1
  have b4 : y1.1 0 19 = nI S.length := b4
  have r2 : SR x0 y0 t L c (a :: S) [] w u d k x (wi (wi y1 7 S.length (nI a)) 0 19 (nI (S.length + 1))) := by
    refine SR_up r1 SX.rf ((SY_wi (by omega)).tr (SY_wi (by omega))) (fun _ => rfl) (fun _ => rfl) (fun j j1 j2 => ?_) rfl (.inr (.inr hob)) h70 hc.1 hc.2.1 ?_ hc.2.2.1 (Nat.le_refl _) hc.2.2.2.1 ?_ ?_ rfl (fun _ => rfl) ?_ (fun j => ?_) ?_ (fun j => ⟨?_, ?_⟩)
    · rw [wi_1, if_neg (by omega), wi_1, if_neg (by omega)]
    · rw [wi_1, if_neg (by omega), wi_1, if_neg (by omega)]; exact b1
    · rw [wi_1, if_neg (by omega), wi_1, if_neg (by omega)]; exact e20
    · rw [wi_1, if_neg (by omega), wi_1, if_neg (by omega)]; exact b3
    · rw [wi_1, if_pos ⟨rfl, rfl⟩]
    · rw [wi_1, if_neg (by omega), wi_1]
      by_cases e : j = S.length
      · rw [if_pos ⟨rfl, e⟩, if_pos e]
      · rw [if_neg (fun q => e q.2), if_neg e]
    · rw [wi_1, if_neg (by omega), wi_1, if_neg (by omega)]
    · rw [wi_1, if_neg (by omega), wi_1, if_neg (by omega)]
    · rw [wi_1, if_neg (by omega), wi_1, if_neg (by omega)]
  obtain ⟨x', y', c', f1, f2, f3, f4⟩ := SR_tok r2 n22 n21
  refine ⟨x', y', c', f1, ?_, f3, f4⟩
  have e113 : fX11_readSlip_113 (hX11_readSlip_30 n) 1 (nI a) y = UU FU n y' := by
    unfold fX11_readSlip_113
    rw [tight_sp (.inr (.inr hob)), bd]
    dsimp only
    rw [c1, bd, b4, gc_p (gI_nI (by omega) (by decide)), nI_clamp (by omega), show (wi y1 7 S.length (nI a)).1 0 19 = nI S.length by rw [wi_1, if_neg (by omega), b4], nI_s, f2, bd]
    rfl
  show fX11_readSlip_30 (hX11_readSlip_30 n) 1 y = _
  unfold fX11_readSlip_30
  rw [if_neg one0, h.1.f0, if_pos rfl, sign_op h.1.kd ha, bd]
  dsimp only
  rw [if_neg s41]
  unfold fX11_readSlip_94
  rw [if_neg (show ¬ nI a = 0 from fun q => by have := (nI_eq0 (by omega)).mp q; unfold opB at hob; omega), tight_sp (.inr (.inr hob)), bd]
  dsimp only
  by_cases z : ti a = 4
  · rw [if_pos (show nI (ti a) = 4 by rw [z]; rfl), rel_sp h, bd, hr z]
    dsimp only
    rw [if_pos (show b2 false = 0 from rfl)]
    exact e113
  · rw [if_neg (show ¬ nI (ti a) = 4 from fun q => z ((nI_inj (b := 4) (by omega) (by decide)).mp q))]
    exact e113
end SS
