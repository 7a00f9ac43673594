/-! ===== one token ===== -/
def KD (x y : gS) : Prop :=
  (x.1 19 2 = 21 ∧ y.1 0 6 = 0) ∨ (∃ k, k ≤ 19 ∧ x.1 19 2 = nI k ∧ y.1 0 6 = 1 ∧ x.2.1 19 5 = y.2.1 0 9 ∧ (k < 19 → gWords.getD k 0 = y.2.1 0 9) ∧ (k = 19 → ∀ i, i < 19 → gWords.getD i 0 ≠ y.2.1 0 9)) ∨ (x.1 19 2 = 20 ∧ y.1 0 6 = 2 ∧ x.1 19 4 = y.1 0 8 ∧ isN (y.1 0 8) 10000) ∨ (x.1 19 2 = 22 ∧ y.1 0 6 = 3) ∨ (sgn (y.1 0 6) ∧ x.1 19 2 = y.1 0 6)
/-- both look at the token at c -/
def TK (x y : gS) (c L : Nat) : Prop := TP x y L ∧ c ≤ L ∧ x.1 19 3 = nI c ∧ y.1 0 7 = nI c ∧ KD x y ∧ ((x.1 19 2 = 22 ∧ c < L) ∨ ∃ p, p ≤ L ∧ x.1 19 1 = nI p ∧ y.1 0 4 = nI p ∧ (x.1 19 2 = 21 ∨ c < p))
theorem tok_skip {L : Nat} : ∀ (d p : Nat) (x y : gS) (n m : Nat), p + d = L → TP x y L → x.1 19 1 = nI p → y.1 0 4 = nI p → d < n → d < m →
    ∃ q x' y' m', p ≤ q ∧ q ≤ L ∧ hX7_skipBlanks_0 n x = some x' ∧ hX11_token_0 m y = hX11_token_0 (m' + 1) y' ∧ TX x x' ∧ TY y y' ∧ x'.1 19 1 = nI q ∧ y'.1 0 4 = nI q ∧ ch (y.1 1) L q ≠ 32 ∧ ch (y.1 1) L q ≠ 10 := by
  intro d
  induction d with
  | zero =>
    intro p x y n m e hp ex ey hn hm
    have hL := hp.1
    obtain ⟨n, rfl⟩ : ∃ k, n = k + 1 := ⟨n - 1, by omega⟩
    obtain ⟨m, rfl⟩ : ∃ k, m = k + 1 := ⟨m - 1, by omega⟩
    refine ⟨p, x, y, m, Nat.le_refl _, by omega, ?_, rfl, TX.rf x, TY.rf y, ex, ey, ?_, ?_⟩
    · show fX7_skipBlanks_0 (hX7_skipBlanks_0 n) x = some x
      unfold fX7_skipBlanks_0 fX6_length
      rw [bd]
      dsimp only
      rw [hp.2.1, ex, if_pos ((nI_le' (by omega) (by omega)).mpr (by omega))]
    · unfold ch; rw [if_neg (by omega)]; decide
    · unfold ch; rw [if_neg (by omega)]; decide
  | succ d ih =>
    intro p x y n m e hp ex ey hn hm
    have hL := hp.1
    obtain ⟨n, rfl⟩ : ∃ k, n = k + 1 := ⟨n - 1, by omega⟩
    obtain ⟨m, rfl⟩ : ∃ k, m = k + 1 := ⟨m - 1, by omega⟩
    have c1 := ch_x hp (i := p) (by omega)
    have c2 : fX11_here 0 y = some (ch (y.1 1) L p, y) := ch_y hp (by omega) (by rw [ey]; exact nI_ad p 0)
    by_cases z : ch (y.1 1) L p = 32 ∨ ch (y.1 1) L p = 10
    · have e1 : hX7_skipBlanks_0 (n + 1) x = hX7_skipBlanks_0 n (wi x 19 1 (nI (p + 1))) := by
        show fX7_skipBlanks_0 (hX7_skipBlanks_0 n) x = _
        unfold fX7_skipBlanks_0 fX6_length fX7_skipBlanks_39
        rw [bd]
        dsimp only
        rw [hp.2.1, ex, if_neg (show ¬ nI L ≤ nI p from fun z => by have := (nI_le' (by omega) (by omega)).mp z; omega), c1, bd]
        dsimp only
        rw [ex, nI_s]
        rcases z with z | z
        · rw [if_pos z]
        · rw [if_neg (by rw [z]; decide), if_pos z]
      have e2 : hX11_token_0 (m + 1) y = hX11_token_0 m (wi y 0 4 (nI (p + 1))) := by
        show fX11_token_0 (hX11_token_0 m) y = _
        unfold fX11_token_0 fX11_token_20
        rw [c2, bd]
        dsimp only
        rcases z with z | z
        · rw [if_pos z, ey, nI_s]
        · rw [if_neg (by rw [z]; decide), c2, bd]
          dsimp only
          rw [if_pos z, ey, nI_s]
      obtain ⟨q, x', y', m', h1, h2, h3, h4, h5, h6, h7, h8, h9, h10⟩ := ih (p + 1) (wi x 19 1 (nI (p + 1))) (wi y 0 4 (nI (p + 1))) n m (by omega) (TP_fr hp TX_wi (TY_wi (by omega))) (by rw [wi_1, if_pos ⟨rfl, rfl⟩]) (by rw [wi_1, if_pos ⟨rfl, rfl⟩]) (by omega) (by omega)
      rw [(TY_wi (y := y) (j := 4) (v := nI (p + 1)) (by omega)).t1] at h9 h10
      exact ⟨q, x', y', m', by omega, h2, e1.trans h3, e2.trans h4, TX_wi.tr h5, (TY_wi (by omega)).tr h6, h7, h8, h9, h10⟩
    · refine ⟨p, x, y, m, Nat.le_refl _, by omega, ?_, rfl, TX.rf x, TY.rf y, ex, ey, fun q => z (.inl q), fun q => z (.inr q)⟩
      show fX7_skipBlanks_0 (hX7_skipBlanks_0 n) x = some x
      unfold fX7_skipBlanks_0 fX6_length
      rw [bd]
      dsimp only
      rw [hp.2.1, ex, if_neg (show ¬ nI L ≤ nI p from fun z => by have := (nI_le' (by omega) (by omega)).mp z; omega), c1, bd]
      dsimp only
      rw [if_neg (fun q => z (.inl q)), if_neg (fun q => z (.inr q))]
theorem not_L : ¬ isL (-1) := fun h => h.1 (by decide)
theorem not_D : ¬ isD (-1) := fun h => h.1 (by decide)
theorem ch_out {T : Nat → Int32} {L i : Nat} (h : L ≤ i) : ch T L i = -1 := if_neg (by omega)
def KW (x y : gS) : Prop := ∃ k, k ≤ 19 ∧ x.1 19 2 = nI k ∧ y.1 0 6 = 1 ∧ x.2.1 19 5 = y.2.1 0 9 ∧ (k < 19 → gWords.getD k 0 = y.2.1 0 9) ∧ (k = 19 → ∀ i, i < 19 → gWords.getD i 0 ≠ y.2.1 0 9)
theorem tok_word {L q : Nat} : ∀ (d i : Nat) (x y : gS) (n m : Nat), q + i + d = L → TP x y L → x.1 19 1 = nI (q + i) → x.1 19 3 = nI q → y.1 0 4 = nI q → (i ≤ 8 → x.2.1 19 5 = y.2.1 0 9) → d < n → d < m →
    ∃ e x' y', i ≤ e ∧ q + e ≤ L ∧ hX7_readWord_5 n x = some x' ∧ hX11_token_78 m (nI i) y = some y' ∧ TX x x' ∧ TY y y' ∧ x'.1 19 3 = nI q ∧ x'.1 19 1 = nI (q + e) ∧ y'.1 0 7 = y.1 0 7 ∧ ¬ isL (ch (y.1 1) L (q + e)) ∧ ((e ≤ 8 ∧ KW x' y' ∧ y'.1 0 4 = nI (q + e)) ∨ (x'.1 19 2 = 22 ∧ y'.1 0 6 = 3)) := by
  intro d
  have stop : ∀ (i : Nat) (x y : gS) (n m : Nat), q + i ≤ L → TP x y L → x.1 19 1 = nI (q + i) → x.1 19 3 = nI q → y.1 0 4 = nI q → (i ≤ 8 → x.2.1 19 5 = y.2.1 0 9) → ¬ isL (ch (y.1 1) L (q + i)) →
      ∃ e x' y', i ≤ e ∧ q + e ≤ L ∧ hX7_readWord_5 (n + 1) x = some x' ∧ hX11_token_78 (m + 1) (nI i) y = some y' ∧ TX x x' ∧ TY y y' ∧ x'.1 19 3 = nI q ∧ x'.1 19 1 = nI (q + e) ∧ y'.1 0 7 = y.1 0 7 ∧ ¬ isL (ch (y.1 1) L (q + e)) ∧ ((e ≤ 8 ∧ KW x' y' ∧ y'.1 0 4 = nI (q + e)) ∨ (x'.1 19 2 = 22 ∧ y'.1 0 6 = 3)) := by
    intro i x y n m hi hp ex ep ey hw hc
    have hL := hp.1
    have c1 := ch_x hp (i := q + i) (by omega)
    have c2 : fX11_here (nI i) y = some (ch (y.1 1) L (q + i), y) := ch_y hp (by omega) (by rw [ey, nI_ad])
    have e1 : hX7_readWord_5 (n + 1) x = fX7_readWord_73 x := by
      show fX7_readWord_5 (hX7_readWord_5 n) x = _
      unfold fX7_readWord_5 fX6_length
      rw [bd]
      dsimp only
      rw [hp.2.1, ex]
      by_cases z : q + i < L
      · rw [if_neg (show ¬ nI L ≤ nI (q + i) from fun z => by have := (nI_le' (by omega) (by omega)).mp z; omega), c1, bd]
        dsimp only
        rw [(isL_x _ _).2 hc, bd]
        dsimp only
        rw [if_pos rfl]
      · rw [if_pos ((nI_le' (by omega) (by omega)).mpr (by omega))]
    have e2 : hX11_token_78 (m + 1) (nI i) y = if nI i ≤ 8 then fX11_token_131 (nI i) 1 y else fX11_token_131 (nI i) 3 y := by
      show fX11_token_78 (hX11_token_78 m) (nI i) y = _
      unfold fX11_token_78
      rw [c2, bd]
      dsimp only
      rw [(isL_y _ _).2 hc, bd]
      dsimp only
      rw [if_pos rfl]
    have es : x.1 19 1 - x.1 19 3 = nI i := by rw [ex, ep, pk_sub (by omega), show q + i - q = i by omega]
    rw [e1, e2]
    unfold fX7_readWord_73 fX7_readWord_100 fX11_token_131 fX11_token_232
    rw [es]
    by_cases z : i ≤ 8
    · have z1 : nI i ≤ 8 := (nI_le' (b := 8) (by omega) (by decide)).mpr z
      obtain ⟨k, k1, k2, k3, k4⟩ := kindOf_spec (x.2.1 19 5) x
      rw [if_pos z1, if_pos z1, k2, bd]
      dsimp only
      rw [wi_s, if_neg (show ¬ (1 : Int32) = 3 by decide)]
      refine ⟨i, _, _, Nat.le_refl _, hi, rfl, rfl, TX_wi, (TY_wi (by omega)).tr (TY_wi (by omega)), ?_, ?_, ?_, hc, .inl ⟨z, ⟨k, k1, ?_, ?_, ?_, ?_, ?_⟩, ?_⟩⟩
      · rw [wi_1, if_neg (by decide), ep]
      · rw [wi_1, if_neg (by decide), ex]
      · rw [wi_1, if_neg (by decide), wi_1, if_neg (by decide)]
      · rw [wi_1, if_pos ⟨rfl, rfl⟩]
      · rw [wi_1, if_neg (by decide), wi_1, if_pos ⟨rfl, rfl⟩]
      · exact hw z
      · intro hk; rw [k3 hk]; exact hw z
      · intro hk j hj e; exact k4 hk j hj (e.trans (hw z).symm)
      · rw [wi_1, if_pos ⟨rfl, rfl⟩, wi_1, if_neg (by decide), ey, nI_ad]
    · have z1 : ¬ nI i ≤ 8 := fun z1 => z ((nI_le' (b := 8) (by omega) (by decide)).mp z1)
      rw [if_neg z1, if_neg z1, wi_s, if_pos rfl]
      refine ⟨i, _, _, Nat.le_refl _, hi, rfl, rfl, TX_wi, TY_wi (by omega), ?_, ?_, ?_, hc, .inr ⟨?_, ?_⟩⟩
      · rw [wi_1, if_neg (by decide), ep]
      · rw [wi_1, if_neg (by decide), ex]
      · rw [wi_1, if_neg (by decide)]
      · rw [wi_1, if_pos ⟨rfl, rfl⟩]
      · rw [wi_1, if_pos ⟨rfl, rfl⟩]
  induction d with
  | zero =>
    intro i x y n m e hp ex ep ey hw hn hm
    obtain ⟨n, rfl⟩ : ∃ k, n = k + 1 := ⟨n - 1, by omega⟩
    obtain ⟨m, rfl⟩ : ∃ k, m = k + 1 := ⟨m - 1, by omega⟩
    exact stop i x y n m (by omega) hp ex ep ey hw (by rw [ch_out (by omega)]; exact not_L)
  | succ d ih =>
    intro i x y n m e hp ex ep ey hw hn hm
    have hL := hp.1
    obtain ⟨n, rfl⟩ : ∃ k, n = k + 1 := ⟨n - 1, by omega⟩
    obtain ⟨m, rfl⟩ : ∃ k, m = k + 1 := ⟨m - 1, by omega⟩
    by_cases hc : isL (ch (y.1 1) L (q + i))
    · have c1 := ch_x hp (i := q + i) (by omega)
      have c2 : fX11_here (nI i) y = some (ch (y.1 1) L (q + i), y) := ch_y hp (by omega) (by rw [ey, nI_ad])
      have e1 : hX7_readWord_5 (n + 1) x = hX7_readWord_5 n (wi (wl x 19 5 ((x.2.1 19 5 <<< ((8 : Int32).toInt64 &&& 63)) ||| (ch (y.1 1) L (q + i)).toInt64)) 19 1 (nI (q + (i + 1)))) := by
        show fX7_readWord_5 (hX7_readWord_5 n) x = _
        unfold fX7_readWord_5 fX6_length
        rw [bd]
        dsimp only
        rw [hp.2.1, ex, if_neg (show ¬ nI L ≤ nI (q + i) from fun z => by have := (nI_le' (by omega) (by omega)).mp z; omega), c1, bd]
        dsimp only
        rw [(isL_x _ _).1 hc, bd]
        dsimp only
        rw [if_neg one0, ex, c1, bd]
        dsimp only
        rw [wl_1, ex, nI_s, Nat.add_assoc]
      have e2 : ∃ y1, hX11_token_78 (m + 1) (nI i) y = hX11_token_78 m (nI (i + 1)) y1 ∧ TY y y1 ∧ y1.1 = y.1 ∧ (i + 1 ≤ 8 → y1.2.1 0 9 = (y.2.1 0 9 <<< ((8 : Int32).toInt64 &&& 63)) ||| (ch (y.1 1) L (q + i)).toInt64) := by
        have f : hX11_token_78 (m + 1) (nI i) y = if 8 ≤ nI i then hX11_token_78 m (nI (i + 1)) y else hX11_token_78 m (nI (i + 1)) (wl y 0 9 ((y.2.1 0 9 <<< ((8 : Int32).toInt64 &&& 63)) ||| (ch (y.1 1) L (q + i)).toInt64)) := by
          show fX11_token_78 (hX11_token_78 m) (nI i) y = _
          unfold fX11_token_78
          rw [c2, bd]
          dsimp only
          rw [(isL_y _ _).1 hc, bd]
          dsimp only
          rw [if_neg one0, c2, bd, nI_s]
        by_cases z : 8 ≤ i
        · rw [if_pos (show 8 ≤ nI i from (nI_le' (a := 8) (by decide) (by omega)).mpr z)] at f
          exact ⟨y, f, TY.rf y, rfl, fun q => absurd z (by omega)⟩
        · rw [if_neg (show ¬ 8 ≤ nI i from fun z1 => z ((nI_le' (a := 8) (by decide) (by omega)).mp z1))] at f
          exact ⟨_, f, TY_wl, rfl, fun _ => by rw [wl_3, if_pos ⟨rfl, rfl⟩]⟩
      obtain ⟨y1, f1, f2, f3, f4⟩ := e2
      have hx1 : TX x (wi (wl x 19 5 ((x.2.1 19 5 <<< ((8 : Int32).toInt64 &&& 63)) ||| (ch (y.1 1) L (q + i)).toInt64)) 19 1 (nI (q + (i + 1)))) := TX_wl.tr TX_wi
      obtain ⟨e', x', y', h1, h2, h3, h4, h5, h6, h7, h8, h9, h10, h11⟩ := ih (i + 1) _ y1 n m (by omega) (TP_fr hp hx1 f2) (by rw [wi_1, if_pos ⟨rfl, rfl⟩]) (by rw [wi_1, if_neg (by decide), wl_1, ep]) (by rw [f3, ey]) (fun z => by rw [wi_2, wl_3, if_pos ⟨rfl, rfl⟩, f4 z, hw (by omega)]) (by omega) (by omega)
      rw [f3] at h10 h9
      exact ⟨e', x', y', by omega, h2, e1.trans h3, f1.trans h4, hx1.tr h5, f2.tr h6, h7, h8, h9, h10, h11⟩
    · exact stop i x y n m (by omega) hp ex ep ey hw hc
