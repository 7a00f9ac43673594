/-! ===== tokens, of the class and of the reference ===== -/
theorem wi_s {st : gS} {k j : Nat} {v : Int32} : (wi st k j v).1 k j = v := by rw [wi_1, if_pos ⟨rfl, rfl⟩]
theorem wi_n {st : gS} {k j a b : Nat} {v : Int32} (h : ¬ (a = k ∧ b = j)) : (wi st k j v).1 a b = st.1 a b := by rw [wi_1, if_neg h]
theorem by255 {n : Nat} (h : n < 256) : (nI n).toInt8.toInt32 &&& 255 = nI n := by
  have q : ∀ n : Fin 256, (nI n.val).toInt8.toInt32 &&& 255 = nI n.val := by decide +kernel
  exact q ⟨n, h⟩
theorem by16 {n : Nat} (h : n < 256) : ((nI n).toUInt32 % 65536).toInt32 = nI n := by
  have q : ∀ n : Fin 256, ((nI n.val).toUInt32 % 65536).toInt32 = nI n.val := by decide +kernel
  exact q ⟨n, h⟩
def ch (T : Nat → Int32) (L i : Nat) : Int32 := if i < L then T i else -1
/-- the tape while it is read -/
def TP (x y : gS) (L : Nat) : Prop := L ≤ 1600 ∧ x.1 1 1 = nI L ∧ y.1 0 5 = nI L ∧ ∀ i, i < L → isN (y.1 1 i) 256 ∧ x.1 2 i = (y.1 1 i).toInt8.toInt32
/-- what a token changes -/
def TX (x x' : gS) : Prop := x'.2.2 = x.2.2 ∧ (∀ k j, k ≠ 19 → x'.1 k j = x.1 k j) ∧ ∀ k j, k ≠ 19 → x'.2.1 k j = x.2.1 k j
def TY (y y' : gS) : Prop := (∀ k j, ¬ (k = 0 ∧ (j = 4 ∨ j = 6 ∨ j = 7 ∨ j = 8)) → y'.1 k j = y.1 k j) ∧ ∀ k j, ¬ (k = 0 ∧ j = 9) → y'.2.1 k j = y.2.1 k j
theorem TX.rf (x : gS) : TX x x := ⟨rfl, fun _ _ _ => rfl, fun _ _ _ => rfl⟩
theorem TY.rf (y : gS) : TY y y := ⟨fun _ _ _ => rfl, fun _ _ _ => rfl⟩
theorem TX.tr {x x' x'' : gS} (h1 : TX x x') (h2 : TX x' x'') : TX x x'' := ⟨h2.1.trans h1.1, fun k j h => (h2.2.1 k j h).trans (h1.2.1 k j h), fun k j h => (h2.2.2 k j h).trans (h1.2.2 k j h)⟩
theorem TY.tr {x x' x'' : gS} (h1 : TY x x') (h2 : TY x' x'') : TY x x'' := ⟨fun k j h => (h2.1 k j h).trans (h1.1 k j h), fun k j h => (h2.2 k j h).trans (h1.2 k j h)⟩
theorem TX_wi {x : gS} {j : Nat} {v : Int32} : TX x (wi x 19 j v) := ⟨rfl, fun k i h => by rw [wi_1, if_neg (fun q => h q.1)], fun _ _ _ => rfl⟩
theorem TX_wl {x : gS} {j : Nat} {v : Int64} : TX x (wl x 19 j v) := ⟨rfl, fun _ _ _ => rfl, fun k i h => by rw [wl_3, if_neg (fun q => h q.1)]⟩
theorem TY_wi {y : gS} {j : Nat} {v : Int32} (h : j = 4 ∨ j = 6 ∨ j = 7 ∨ j = 8) : TY y (wi y 0 j v) := ⟨fun k i q => by rw [wi_1, if_neg (by omega)], fun _ _ _ => rfl⟩
theorem TY_wl {y : gS} {v : Int64} : TY y (wl y 0 9 v) := ⟨fun _ _ _ => rfl, fun k i q => by rw [wl_3, if_neg q]⟩
theorem TY.t1 {y y' : gS} (h : TY y y') : y'.1 1 = y.1 1 := funext fun j => h.1 1 j (by omega)
theorem TP_fr {x y x' y' : gS} {L : Nat} (h : TP x y L) (hx : TX x x') (hy : TY y y') : TP x' y' L :=
  ⟨h.1, (hx.2.1 1 1 (by decide)).trans h.2.1, (hy.1 0 5 (by omega)).trans h.2.2.1, fun i hi => by rw [hy.1 1 i (by omega), hx.2.1 2 i (by decide)]; exact h.2.2.2 i hi⟩
theorem ch_x {x y : gS} {L : Nat} (h : TP x y L) {i : Nat} (hi : i < 2 ^ 31) : fX6_at (nI i) x = some (ch (y.1 1) L i, x) := by
  obtain ⟨h1, h2, h3, h4⟩ := h
  unfold fX6_at ch
  rw [if_neg (nI_nn hi), h2]
  by_cases q : i < L
  · have e := (h4 i q).1
    have e' : (y.1 1 i).toInt8.toInt32 &&& 255 = y.1 1 i := by rw [e.1]; exact by255 e.2
    rw [if_neg (show ¬ nI L ≤ nI i from fun z => by have := (nI_le' (by omega) hi).mp z; omega), if_pos q, gc_p (gI_nI (by omega) (by decide)), nI_clamp hi, (h4 i q).2, e']
  · rw [if_pos (show nI L ≤ nI i from (nI_le' (by omega) hi).mpr (by omega)), if_neg q]
theorem ch_y {x y : gS} {L : Nat} (h : TP x y L) {a : Int32} {i : Nat} (hi : i < 2 ^ 31) (e : y.1 0 4 + a = nI i) : fX11_here a y = some (ch (y.1 1) L i, y) := by
  obtain ⟨h1, h2, h3, h4⟩ := h
  unfold fX11_here ch
  rw [e, h3]
  by_cases q : i < L
  · rw [if_neg (show ¬ nI L ≤ nI i from fun z => by have := (nI_le' (by omega) hi).mp z; omega), if_pos q, gc_p (gI_nI (by omega) (by decide)), nI_clamp hi]
  · rw [if_pos (show nI L ≤ nI i from (nI_le' (by omega) hi).mpr (by omega)), if_neg q]
theorem ch_b {x y : gS} {L : Nat} (h : TP x y L) (i : Nat) : (ch (y.1 1) L i = -1 ∧ L ≤ i) ∨ ∃ b, b < 256 ∧ i < L ∧ ch (y.1 1) L i = nI b := by
  unfold ch
  by_cases q : i < L
  · rw [if_pos q]
    have e := (h.2.2.2 i q).1
    exact .inr ⟨vN (y.1 1 i), e.2, q, e.1⟩
  · rw [if_neg q]
    exact .inl ⟨rfl, by omega⟩
def isL (c : Int32) : Prop := ¬ c < 97 ∧ ¬ 122 < c
def isD (c : Int32) : Prop := ¬ c < 48 ∧ ¬ 57 < c
theorem isL_x (c : Int32) (st : gS) : (isL c → fX7_isLetter c st = some (1, st)) ∧ (¬ isL c → fX7_isLetter c st = some (0, st)) := by
  unfold fX7_isLetter isL
  refine ⟨fun h => by rw [if_neg h.1, if_neg h.2], fun h => ?_⟩
  by_cases q : c < 97
  · rw [if_pos q]
  · rw [if_neg q, if_pos (Classical.byContradiction fun z => h ⟨q, z⟩)]
theorem isL_y (c : Int32) (st : gS) : (isL c → fX11_isLetter c st = some (1, st)) ∧ (¬ isL c → fX11_isLetter c st = some (0, st)) := by
  unfold fX11_isLetter isL
  refine ⟨fun h => by rw [if_neg h.1, if_neg h.2], fun h => ?_⟩
  by_cases q : c < 97
  · rw [if_pos q]
  · rw [if_neg q, if_pos (Classical.byContradiction fun z => h ⟨q, z⟩)]
theorem isD_x (c : Int32) (st : gS) : (isD c → fX7_isDigit c st = some (1, st)) ∧ (¬ isD c → fX7_isDigit c st = some (0, st)) := by
  unfold fX7_isDigit isD
  refine ⟨fun h => by rw [if_neg h.1, if_neg h.2], fun h => ?_⟩
  by_cases q : c < 48
  · rw [if_pos q]
  · rw [if_neg q, if_pos (Classical.byContradiction fun z => h ⟨q, z⟩)]
theorem isD_y (c : Int32) (st : gS) : (isD c → fX11_isDigit c st = some (1, st)) ∧ (¬ isD c → fX11_isDigit c st = some (0, st)) := by
  unfold fX11_isDigit isD
  refine ⟨fun h => by rw [if_neg h.1, if_neg h.2], fun h => ?_⟩
  by_cases q : c < 48
  · rw [if_pos q]
  · rw [if_neg q, if_pos (Classical.byContradiction fun z => h ⟨q, z⟩)]
theorem kindOf_spec (w : Int64) (st : gS) : ∃ k, k ≤ 19 ∧ fX7_kindOf w st = some (nI k, st) ∧ (k < 19 → gWords.getD k 0 = w) ∧ (k = 19 → ∀ i, i < 19 → gWords.getD i 0 ≠ w) := by
  unfold fX7_kindOf
  refine lpx (fun k (s : Int32) => hX7_kindOf_2 w k s st) 19 (fun i s => s = nI i ∧ ∀ j, j < i → gWords.getD j 0 ≠ w) (fun r => ∃ k, k ≤ 19 ∧ r = some (nI k, st) ∧ (k < 19 → gWords.getD k 0 = w) ∧ (k = 19 → ∀ i, i < 19 → gWords.getD i 0 ≠ w)) ?_ ?_ 0 0 FU (by decide) ⟨rfl, fun j hj => absurd hj (by omega)⟩ (FU_gt (by decide))
  · intro n i s hi ⟨e, hj⟩
    subst e
    have e : hX7_kindOf_2 w (n + 1) (nI i) st = if lg_cmp (gWords.getD i 0) w = 0 then some (nI i, st) else hX7_kindOf_2 w n (nI (i + 1)) st := by
      show fX7_kindOf_2 w (hX7_kindOf_2 w n) (nI i) st = _
      unfold fX7_kindOf_2
      rw [if_neg (show ¬ 19 ≤ nI i from fun z => by have := (nI_le' (a := 19) (by decide) (by omega)).mp z; omega), gc_p (gI_nI hi (by decide)), nI_clamp (by omega), nI_s]
    rw [e]
    by_cases q : gWords.getD i 0 = w
    · rw [if_pos ((lg_cmp_eq _ _).mpr q)]
      exact .inl ⟨i, by omega, rfl, fun _ => q, fun z => absurd hi (by omega)⟩
    · rw [if_neg (fun z => q ((lg_cmp_eq _ _).mp z))]
      refine .inr ⟨_, rfl, rfl, fun j hj' => ?_⟩
      by_cases e2 : j = i
      · rw [e2]; exact q
      · exact hj j (by omega)
  · intro n s ⟨e, hj⟩
    subst e
    refine ⟨19, Nat.le_refl _, ?_, fun h => absurd h (by omega), fun _ => hj⟩
    show fX7_kindOf_2 w (hX7_kindOf_2 w n) (nI 19) st = _
    unfold fX7_kindOf_2
    rw [if_pos (by decide)]
    rfl
abbrev sgn (c : Int32) : Prop := c = 59 ∨ c = 40 ∨ c = 41 ∨ c = 60 ∨ c = 62 ∨ c = 61 ∨ c = 43 ∨ c = 45 ∨ c = 42 ∨ c = 47 ∨ c = 37
theorem sgn_y (c : Int32) (st : gS) : (sgn c → fX11_isSign c st = some (1, st)) ∧ (¬ sgn c → fX11_isSign c st = some (0, st)) := by
  unfold fX11_isSign
  refine ⟨fun h => ?_, fun h => ?_⟩
  · rcases h with h | h | h | h | h | h | h | h | h | h | h <;> subst h <;> rfl
  · unfold sgn at h
    simp only [not_or] at h
    obtain ⟨a1, a2, a3, a4, a5, a6, a7, a8, a9, a10, a11⟩ := h
    rw [if_neg a1, if_neg a2, if_neg a3, if_neg a4, if_neg a5, if_neg a6, if_neg a7, if_neg a8, if_neg a9, if_neg a10, if_neg a11]
theorem idx_loop (a1 z : Int32) (st : gS) : (∃ j, j < 11 ∧ gSignsB.getD j 0 = z ∧ hJ1_indexOfChar_4cfef_7 a1 0 11 FU z 0 st = some (nI j, st)) ∨ ((∀ j, j < 11 → gSignsB.getD j 0 ≠ z) ∧ hJ1_indexOfChar_4cfef_7 a1 0 11 FU z 0 st = some (-1, st)) := by
  refine lpx (fun k (s : Int32) => hJ1_indexOfChar_4cfef_7 a1 0 11 k z s st) 11 (fun i s => s = nI i ∧ ∀ j, j < i → gSignsB.getD j 0 ≠ z) (fun r => (∃ j, j < 11 ∧ gSignsB.getD j 0 = z ∧ r = some (nI j, st)) ∨ ((∀ j, j < 11 → gSignsB.getD j 0 ≠ z) ∧ r = some (-1, st))) ?_ ?_ 0 0 FU (by decide) ⟨rfl, fun j hj => absurd hj (by omega)⟩ (FU_gt (by decide))
  · intro n i s hi ⟨e, hj⟩
    subst e
    have e : hJ1_indexOfChar_4cfef_7 a1 0 11 (n + 1) z (nI i) st = if gSignsB.getD i 0 = z then some (nI i, st) else hJ1_indexOfChar_4cfef_7 a1 0 11 n z (nI (i + 1)) st := by
      show fJ1_indexOfChar_4cfef_7 a1 0 11 (hJ1_indexOfChar_4cfef_7 a1 0 11 n) z (nI i) st = _
      unfold fJ1_indexOfChar_4cfef_7
      rw [if_neg (show ¬ 11 ≤ nI i from fun z => by have := (nI_le' (a := 11) (by decide) (by omega)).mp z; omega), gc_p (gI_nI hi (by decide)), nI_clamp (by omega), nI_s]
    rw [e]
    by_cases q : gSignsB.getD i 0 = z
    · rw [if_pos q]
      exact .inl (.inl ⟨i, hi, q, rfl⟩)
    · rw [if_neg q]
      refine .inr ⟨_, rfl, rfl, fun j hj' => ?_⟩
      by_cases e2 : j = i
      · rw [e2]; exact q
      · exact hj j (by omega)
  · intro n s ⟨e, hj⟩
    subst e
    refine .inr ⟨hj, ?_⟩
    show fJ1_indexOfChar_4cfef_7 a1 0 11 (hJ1_indexOfChar_4cfef_7 a1 0 11 n) z (nI 11) st = _
    unfold fJ1_indexOfChar_4cfef_7
    rw [if_pos (by decide)]
theorem idx_eq {n : Nat} (hn : n < 256) (st : gS) : fJ0_indexOf_0f7a4 (nI n) st = hJ1_indexOfChar_4cfef_7 (nI n) 0 11 FU (nI n).toInt8.toInt32 0 st := by
  unfold fJ0_indexOf_0f7a4 fJ0_indexOf_7cf53 fJ0_isLatin1_aae02 fJ0_length_8abf5 fJ0_coder_7d493 fJ1_indexOf_4cfef fJ1_canEncode_9a6ad fJ1_indexOfChar_4cfef gl
  rw [bd, bd]
  dsimp only
  rw [if_neg one0, bd]
  dsimp only
  rw [if_neg (nI_nn (show n < 2 ^ 31 by omega)), if_neg (show ¬ 255 < nI n from fun z => by have := (nI_lt' (a := 255) (by decide) (by omega)).mp z; omega), bd]
  dsimp only
  rw [if_neg one0, show (11 : Int32) >>> (0 &&& 31) = 11 by decide, if_neg (show ¬ (0 : Int32) < 0 by decide), if_neg (show ¬ (11 : Int32) < 11 by decide), if_pos (show (0 : Int32) < 11 by decide)]
  cases hJ1_indexOfChar_4cfef_7 (nI n) 0 11 FU (nI n).toInt8.toInt32 0 st <;> rfl
theorem sgn_x {n : Nat} (hn : n < 256) (st : gS) : (sgn (nI n) → ∃ j, j < 11 ∧ fJ0_indexOf_0f7a4 (nI n) st = some (nI j, st)) ∧ (¬ sgn (nI n) → fJ0_indexOf_0f7a4 (nI n) st = some (-1, st)) := by
  rw [idx_eq hn]
  rcases idx_loop (nI n) (nI n).toInt8.toInt32 st with ⟨j, h1, h2, h3⟩ | ⟨h1, h2⟩
  · refine ⟨fun _ => ⟨j, h1, h3⟩, fun q => absurd ?_ q⟩
    have e := by255 hn
    rw [← h2] at e
    have hs : ∀ j : Fin 11, sgn (gSignsB.getD j.val 0 &&& 255) := by decide +kernel
    rw [← e]
    exact hs ⟨j, h1⟩
  · refine ⟨fun q => ?_, fun _ => h2⟩
    exfalso
    have hh : ∀ j : Fin 11, gSignsB.getD j.val 0 ≠ (nI n).toInt8.toInt32 := fun j => h1 j.val j.isLt
    rcases q with q | q | q | q | q | q | q | q | q | q | q <;> rw [q] at hh <;> revert hh <;> decide +kernel
