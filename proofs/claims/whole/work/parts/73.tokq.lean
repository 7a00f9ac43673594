/-! ===== what the reference sees of the token, by the class's kind ===== -/
theorem words_inj {i j : Nat} (hi : i < 19) (hj : j < 19) (h : gWords.getD i 0 = gWords.getD j 0) : i = j := by
  have q : ∀ i j : Fin 19, gWords.getD i.val 0 = gWords.getD j.val 0 → i = j := by decide +kernel
  exact congrArg Fin.val (q ⟨i, hi⟩ ⟨j, hj⟩ h)
theorem sgn_n {c : Int32} (h : sgn c) : ∃ n, c = nI n ∧ 37 ≤ n ∧ n ≤ 62 := by
  rcases h with h | h | h | h | h | h | h | h | h | h | h
  · exact ⟨59, h, by decide, by decide⟩
  · exact ⟨40, h, by decide, by decide⟩
  · exact ⟨41, h, by decide, by decide⟩
  · exact ⟨60, h, by decide, by decide⟩
  · exact ⟨62, h, by decide, by decide⟩
  · exact ⟨61, h, by decide, by decide⟩
  · exact ⟨43, h, by decide, by decide⟩
  · exact ⟨45, h, by decide, by decide⟩
  · exact ⟨42, h, by decide, by decide⟩
  · exact ⟨47, h, by decide, by decide⟩
  · exact ⟨37, h, by decide, by decide⟩
section KQ
variable {x y : gS}
theorem KD.nat (h : KD x y) : ∃ σ κ, y.1 0 6 = nI σ ∧ x.1 19 2 = nI κ ∧ ((σ = 0 ∧ κ = 21) ∨ (σ = 1 ∧ κ ≤ 19) ∨ (σ = 2 ∧ κ = 20) ∨ (σ = 3 ∧ κ = 22) ∨ (σ = κ ∧ 37 ≤ κ ∧ κ ≤ 62)) := by
  rcases h with ⟨h1, h2⟩ | ⟨k, h0, h1, h2, -⟩ | ⟨h1, h2, -⟩ | ⟨h1, h2⟩ | ⟨h1, h2⟩
  · exact ⟨0, 21, h2, h1, by omega⟩
  · exact ⟨1, k, h2, h1, by omega⟩
  · exact ⟨2, 20, h2, h1, by omega⟩
  · exact ⟨3, 22, h2, h1, by omega⟩
  · obtain ⟨n, e, n1, n2⟩ := sgn_n h1
    exact ⟨n, n, e, h2.trans e, by omega⟩
theorem KD.iff (h : KD x y) {a b : Nat} (hb : b < 100) (hab : (a = 0 ∧ b = 21) ∨ (a = 2 ∧ b = 20) ∨ (a = 3 ∧ b = 22) ∨ (a = b ∧ 37 ≤ b)) : y.1 0 6 = nI a ↔ x.1 19 2 = nI b := by
  obtain ⟨σ, κ, e1, e2, hh⟩ := h.nat
  rw [e1, e2, nI_inj (by omega) (by omega), nI_inj (by omega) (by omega)]
  omega
theorem KD.wd (h : KD x y) (h1 : y.1 0 6 = 1) : (∀ k, k < 19 → (y.2.1 0 9 = gWords.getD k 0 ↔ x.1 19 2 = nI k)) ∧ x.2.1 19 5 = y.2.1 0 9 ∧ (x.1 19 2 = nI 19 ↔ ∀ k, k < 19 → gWords.getD k 0 ≠ y.2.1 0 9) := by
  rcases h with ⟨-, h2⟩ | ⟨k, g0, g1, -, g3, g4, g5⟩ | ⟨-, h2, -⟩ | ⟨-, h2⟩ | ⟨h2, -⟩
  · rw [h2] at h1; exact absurd h1 (by decide)
  · refine ⟨fun j hj => ?_, g3, ?_⟩
    · rw [g1, nI_inj (by omega) (by omega)]
      constructor
      · intro e
        rcases Nat.lt_or_ge k 19 with q | q
        · exact words_inj q hj ((g4 q).trans e)
        · exact absurd e.symm (g5 (by omega) j hj)
      · intro e
        rw [← e] at hj ⊢
        exact (g4 hj).symm
    · rw [g1, nI_inj (by omega) (by omega)]
      constructor
      · exact fun e => g5 e
      · intro q
        rcases Nat.lt_or_ge k 19 with z | z
        · exact absurd (g4 z) (q k z)
        · omega
  · rw [h2] at h1; exact absurd h1 (by decide)
  · rw [h2] at h1; exact absurd h1 (by decide)
  · rw [h1] at h2; exact absurd h2 (by decide)
theorem KD.nw (h : KD x y) (h1 : y.1 0 6 ≠ 1) {k : Nat} (hk : k ≤ 19) : x.1 19 2 ≠ nI k := by
  obtain ⟨σ, κ, e1, e2, hh⟩ := h.nat
  rw [e1] at h1
  have : σ ≠ 1 := fun q => h1 (by rw [q]; rfl)
  rw [e2]
  intro q
  have := (nI_inj (by omega) (by omega)).mp q
  omega
theorem KD.wdk (h : KD x y) {k : Nat} (hk : k ≤ 19) (e : x.1 19 2 = nI k) : y.1 0 6 = 1 := Classical.byContradiction fun q => h.nw q hk e
theorem isW (h : KD x y) {k : Nat} (hk : k < 19) {w : Int64} (hw : gWords.getD k 0 = w) : (x.1 19 2 = nI k → fX11_isWord w y = some (1, y)) ∧ (¬ x.1 19 2 = nI k → fX11_isWord w y = some (0, y)) := by
  subst hw
  unfold fX11_isWord
  constructor
  · intro e
    have h1 := h.wdk (by omega) e
    rw [if_pos h1, if_pos ((lg_cmp_eq _ _).mpr (((h.wd h1).1 k hk).mpr e))]
  · intro e
    by_cases h1 : y.1 0 6 = 1
    · rw [if_pos h1, if_neg (fun z => e (((h.wd h1).1 k hk).mp ((lg_cmp_eq _ _).mp z)))]
    · rw [if_neg h1]
theorem ite1 {α : Type} {c : Prop} [Decidable c] {A B r : α} (h1 : c → A = r) (h2 : ¬ c → B = r) : (if c then A else B) = r := by
  by_cases h : c
  · rw [if_pos h]; exact h1 h
  · rw [if_neg h]; exact h2 h
theorem isOwn1 {k : Nat} (hk : k < 19) (hw : gWords.getD k 0 = y.2.1 0 9) : fX11_isOwn y = some (1, y) := by
  unfold fX11_isOwn
  refine ite1 (fun _ => rfl) (fun n0 => ?_)
  refine ite1 (fun _ => rfl) (fun n1 => ?_)
  refine ite1 (fun _ => rfl) (fun n2 => ?_)
  refine ite1 (fun _ => rfl) (fun n3 => ?_)
  refine ite1 (fun _ => rfl) (fun n4 => ?_)
  refine ite1 (fun _ => rfl) (fun n5 => ?_)
  refine ite1 (fun _ => rfl) (fun n6 => ?_)
  refine ite1 (fun _ => rfl) (fun n7 => ?_)
  refine ite1 (fun _ => rfl) (fun n8 => ?_)
  refine ite1 (fun _ => rfl) (fun n9 => ?_)
  refine ite1 (fun _ => rfl) (fun n10 => ?_)
  refine ite1 (fun _ => rfl) (fun n11 => ?_)
  refine ite1 (fun _ => rfl) (fun n12 => ?_)
  refine ite1 (fun _ => rfl) (fun n13 => ?_)
  refine ite1 (fun _ => rfl) (fun n14 => ?_)
  refine ite1 (fun _ => rfl) (fun n15 => ?_)
  refine ite1 (fun _ => rfl) (fun n16 => ?_)
  refine ite1 (fun _ => rfl) (fun n17 => ?_)
  refine ite1 (fun _ => rfl) (fun n18 => ?_)
  exfalso
  rw [lg_cmp_eq] at n0
  rw [lg_cmp_eq] at n1
  rw [lg_cmp_eq] at n2
  rw [lg_cmp_eq] at n3
  rw [lg_cmp_eq] at n4
  rw [lg_cmp_eq] at n5
  rw [lg_cmp_eq] at n6
  rw [lg_cmp_eq] at n7
  rw [lg_cmp_eq] at n8
  rw [lg_cmp_eq] at n9
  rw [lg_cmp_eq] at n10
  rw [lg_cmp_eq] at n11
  rw [lg_cmp_eq] at n12
  rw [lg_cmp_eq] at n13
  rw [lg_cmp_eq] at n14
  rw [lg_cmp_eq] at n15
  rw [lg_cmp_eq] at n16
  rw [lg_cmp_eq] at n17
  rw [lg_cmp_eq] at n18
  have q : ∀ k : Fin 19, gWords.getD k.val 0 ≠ y.2.1 0 9 := by
    intro k
    generalize y.2.1 0 9 = w at *
    match k with
    | ⟨0, _⟩ => exact fun e => n0 e.symm
    | ⟨1, _⟩ => exact fun e => n1 e.symm
    | ⟨2, _⟩ => exact fun e => n2 e.symm
    | ⟨3, _⟩ => exact fun e => n3 e.symm
    | ⟨4, _⟩ => exact fun e => n4 e.symm
    | ⟨5, _⟩ => exact fun e => n5 e.symm
    | ⟨6, _⟩ => exact fun e => n6 e.symm
    | ⟨7, _⟩ => exact fun e => n7 e.symm
    | ⟨8, _⟩ => exact fun e => n8 e.symm
    | ⟨9, _⟩ => exact fun e => n9 e.symm
    | ⟨10, _⟩ => exact fun e => n10 e.symm
    | ⟨11, _⟩ => exact fun e => n11 e.symm
    | ⟨12, _⟩ => exact fun e => n12 e.symm
    | ⟨13, _⟩ => exact fun e => n17 e.symm
    | ⟨14, _⟩ => exact fun e => n16 e.symm
    | ⟨15, _⟩ => exact fun e => n18 e.symm
    | ⟨16, _⟩ => exact fun e => n13 e.symm
    | ⟨17, _⟩ => exact fun e => n14 e.symm
    | ⟨18, _⟩ => exact fun e => n15 e.symm
    | ⟨n + 19, h⟩ => exact absurd h (by omega)
  exact q ⟨k, hk⟩ hw
theorem isOwn0 (hw : ∀ k, k < 19 → gWords.getD k 0 ≠ y.2.1 0 9) : fX11_isOwn y = some (0, y) := by
  unfold fX11_isOwn
  rw [if_neg (show ¬ lg_cmp (y.2.1 0 9) 112602893349477 = 0 from fun z => hw 0 (by decide) ((lg_cmp_eq _ _).mp z).symm)]
  rw [if_neg (show ¬ lg_cmp (y.2.1 0 9) 500135715429 = 0 from fun z => hw 1 (by decide) ((lg_cmp_eq _ _).mp z).symm)]
  rw [if_neg (show ¬ lg_cmp (y.2.1 0 9) 495723310188 = 0 from fun z => hw 2 (by decide) ((lg_cmp_eq _ _).mp z).symm)]
  rw [if_neg (show ¬ lg_cmp (y.2.1 0 9) 495874303590 = 0 from fun z => hw 3 (by decide) ((lg_cmp_eq _ _).mp z).symm)]
  rw [if_neg (show ¬ lg_cmp (y.2.1 0 9) 30796712728556147 = 0 from fun z => hw 4 (by decide) ((lg_cmp_eq _ _).mp z).symm)]
  rw [if_neg (show ¬ lg_cmp (y.2.1 0 9) 1836021349 = 0 from fun z => hw 5 (by decide) ((lg_cmp_eq _ _).mp z).symm)]
  rw [if_neg (show ¬ lg_cmp (y.2.1 0 9) 112603009869170 = 0 from fun z => hw 6 (by decide) ((lg_cmp_eq _ _).mp z).symm)]
  rw [if_neg (show ¬ lg_cmp (y.2.1 0 9) 1751216740 = 0 from fun z => hw 7 (by decide) ((lg_cmp_eq _ _).mp z).symm)]
  rw [if_neg (show ¬ lg_cmp (y.2.1 0 9) 513021013607 = 0 from fun z => hw 8 (by decide) ((lg_cmp_eq _ _).mp z).symm)]
  rw [if_neg (show ¬ lg_cmp (y.2.1 0 9) 512970880104 = 0 from fun z => hw 9 (by decide) ((lg_cmp_eq _ _).mp z).symm)]
  rw [if_neg (show ¬ lg_cmp (y.2.1 0 9) 1936484720 = 0 from fun z => hw 10 (by decide) ((lg_cmp_eq _ _).mp z).symm)]
  rw [if_neg (show ¬ lg_cmp (y.2.1 0 9) 1668248164 = 0 from fun z => hw 11 (by decide) ((lg_cmp_eq _ _).mp z).symm)]
  rw [if_neg (show ¬ lg_cmp (y.2.1 0 9) 1685217655 = 0 from fun z => hw 12 (by decide) ((lg_cmp_eq _ _).mp z).symm)]
  rw [if_neg (show ¬ lg_cmp (y.2.1 0 9) 2003792494 = 0 from fun z => hw 16 (by decide) ((lg_cmp_eq _ _).mp z).symm)]
  rw [if_neg (show ¬ lg_cmp (y.2.1 0 9) 7824756 = 0 from fun z => hw 17 (by decide) ((lg_cmp_eq _ _).mp z).symm)]
  rw [if_neg (show ¬ lg_cmp (y.2.1 0 9) 6578553 = 0 from fun z => hw 18 (by decide) ((lg_cmp_eq _ _).mp z).symm)]
  rw [if_neg (show ¬ lg_cmp (y.2.1 0 9) 6385252 = 0 from fun z => hw 14 (by decide) ((lg_cmp_eq _ _).mp z).symm)]
  rw [if_neg (show ¬ lg_cmp (y.2.1 0 9) 28530 = 0 from fun z => hw 13 (by decide) ((lg_cmp_eq _ _).mp z).symm)]
  rw [if_neg (show ¬ lg_cmp (y.2.1 0 9) 7237492 = 0 from fun z => hw 15 (by decide) ((lg_cmp_eq _ _).mp z).symm)]
theorem isNm (h : KD x y) : (x.1 19 2 = 19 → fX11_isName y = some (1, y)) ∧ (¬ x.1 19 2 = 19 → fX11_isName y = some (0, y)) := by
  unfold fX11_isName
  constructor
  · intro e
    have h1 := h.wdk (k := 19) (by omega) e
    rw [if_pos h1, isOwn0 ((h.wd h1).2.2.mp e), bd]
    dsimp only
    rw [if_pos rfl]
  · intro e
    by_cases h1 : y.1 0 6 = 1
    · have q := fun z => e ((h.wd h1).2.2.mpr z)
      obtain ⟨k, hk⟩ := Classical.not_forall.mp q
      obtain ⟨hk1, hk2⟩ := Classical.not_imp.mp hk
      rw [if_pos h1, isOwn1 hk1 (Classical.not_not.mp hk2), bd]
      dsimp only
      rw [if_neg one0]
    · rw [if_neg h1]
def askv (c : Int32) : Int32 := if c = 7 then 0 else if c = 2 then 1 else if c = 16 then 2 else if c = 17 then 3 else if c = 18 then 4 else -1
theorem isAsk (h : KD x y) : fX11_asked y = some (askv (x.1 19 2), y) := by
  unfold fX11_asked askv
  by_cases h1 : y.1 0 6 = 1
  · have q := (h.wd h1).1
    rw [if_pos h1]
    simp only [lg_cmp_eq]
    have q7 : (y.2.1 0 9 = 1751216740) ↔ x.1 19 2 = 7 := q 7 (by decide)
    have q2 : (y.2.1 0 9 = 495723310188) ↔ x.1 19 2 = 2 := q 2 (by decide)
    have q16 : (y.2.1 0 9 = 2003792494) ↔ x.1 19 2 = 16 := q 16 (by decide)
    have q17 : (y.2.1 0 9 = 7824756) ↔ x.1 19 2 = 17 := q 17 (by decide)
    have q18 : (y.2.1 0 9 = 6578553) ↔ x.1 19 2 = 18 := q 18 (by decide)
    simp only [q7, q2, q16, q17, q18]
    by_cases z0 : x.1 19 2 = 7
    · rw [if_pos z0, if_pos z0]
    rw [if_neg z0, if_neg z0]
    by_cases z1 : x.1 19 2 = 2
    · rw [if_pos z1, if_pos z1]
    rw [if_neg z1, if_neg z1]
    by_cases z2 : x.1 19 2 = 16
    · rw [if_pos z2, if_pos z2]
    rw [if_neg z2, if_neg z2]
    by_cases z3 : x.1 19 2 = 17
    · rw [if_pos z3, if_pos z3]
    rw [if_neg z3, if_neg z3]
    by_cases z4 : x.1 19 2 = 18
    · rw [if_pos z4, if_pos z4]
    rw [if_neg z4, if_neg z4]
  · rw [if_neg h1, if_neg (show ¬ x.1 19 2 = 7 from h.nw h1 (k := 7) (by decide)), if_neg (show ¬ x.1 19 2 = 2 from h.nw h1 (k := 2) (by decide)), if_neg (show ¬ x.1 19 2 = 16 from h.nw h1 (k := 16) (by decide)), if_neg (show ¬ x.1 19 2 = 17 from h.nw h1 (k := 17) (by decide)), if_neg (show ¬ x.1 19 2 = 18 from h.nw h1 (k := 18) (by decide))]
end KQ
