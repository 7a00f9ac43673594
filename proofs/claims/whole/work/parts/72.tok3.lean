def KN (x y : gS) : Prop := x.1 19 2 = 20 ∧ y.1 0 6 = 2 ∧ x.1 19 4 = y.1 0 8 ∧ isN (y.1 0 8) 10000
theorem p10 {i : Nat} (h : i ≤ 4) : 10 ^ i ≤ 10000 := by
  have : 10 ^ i ≤ 10 ^ 4 := Nat.pow_le_pow_right (by decide) h
  exact this
theorem tok_num {L q : Nat} : ∀ (d i : Nat) (x y : gS) (n m : Nat), q + i + d = L → TP x y L → x.1 19 1 = nI (q + i) → x.1 19 3 = nI q → y.1 0 4 = nI q → (i ≤ 4 → x.1 19 4 = y.1 0 8 ∧ isN (y.1 0 8) (10 ^ i)) → d < n → d < m →
    ∃ e x' y', i ≤ e ∧ q + e ≤ L ∧ hX7_readNumber_5 n x = some x' ∧ hX11_token_144 m (nI i) y = some y' ∧ TX x x' ∧ TY y y' ∧ x'.1 19 3 = nI q ∧ x'.1 19 1 = nI (q + e) ∧ y'.1 0 7 = y.1 0 7 ∧ ¬ isD (ch (y.1 1) L (q + e)) ∧ ((KN x' y' ∧ y'.1 0 4 = nI (q + e)) ∨ (x'.1 19 2 = 22 ∧ y'.1 0 6 = 3)) := by
  intro d
  have stop : ∀ (i : Nat) (x y : gS) (n m : Nat), q + i ≤ L → TP x y L → x.1 19 1 = nI (q + i) → x.1 19 3 = nI q → y.1 0 4 = nI q → (i ≤ 4 → x.1 19 4 = y.1 0 8 ∧ isN (y.1 0 8) (10 ^ i)) → ¬ isD (ch (y.1 1) L (q + i)) →
      ∃ e x' y', i ≤ e ∧ q + e ≤ L ∧ hX7_readNumber_5 (n + 1) x = some x' ∧ hX11_token_144 (m + 1) (nI i) y = some y' ∧ TX x x' ∧ TY y y' ∧ x'.1 19 3 = nI q ∧ x'.1 19 1 = nI (q + e) ∧ y'.1 0 7 = y.1 0 7 ∧ ¬ isD (ch (y.1 1) L (q + e)) ∧ ((KN x' y' ∧ y'.1 0 4 = nI (q + e)) ∨ (x'.1 19 2 = 22 ∧ y'.1 0 6 = 3)) := by
    intro i x y n m hi hp ex ep ey hw hc
    have hL := hp.1
    have c1 := ch_x hp (i := q + i) (by omega)
    have c2 : fX11_here (nI i) y = some (ch (y.1 1) L (q + i), y) := ch_y hp (by omega) (by rw [ey, nI_ad])
    have e1 : hX7_readNumber_5 (n + 1) x = fX7_readNumber_75 x := by
      show fX7_readNumber_5 (hX7_readNumber_5 n) x = _
      unfold fX7_readNumber_5 fX6_length
      rw [bd]
      dsimp only
      rw [hp.2.1, ex]
      by_cases z : q + i < L
      · rw [if_neg (show ¬ nI L ≤ nI (q + i) from fun z => by have := (nI_le' (by omega) (by omega)).mp z; omega), c1, bd]
        dsimp only
        rw [(isD_x _ _).2 hc, bd]
        dsimp only
        rw [if_pos rfl]
      · rw [if_pos ((nI_le' (by omega) (by omega)).mpr (by omega))]
    have e2 : hX11_token_144 (m + 1) (nI i) y = if 4 < nI i then fX11_token_203 (nI i) y else ((fX11_isLetter (ch (y.1 1) L (q + i)) y).bind fun q144_4 => (if q144_4.1 = 0 then (fX11_token_208 (nI i) 2 q144_4.2) else (fX11_token_203 (nI i) q144_4.2))) := by
      show fX11_token_144 (hX11_token_144 m) (nI i) y = _
      unfold fX11_token_144
      rw [c2, bd]
      dsimp only
      rw [(isD_y _ _).2 hc, bd]
      dsimp only
      rw [if_pos rfl, c2, bd]
    have es : x.1 19 1 - x.1 19 3 = nI i := by rw [ex, ep, pk_sub (by omega), show q + i - q = i by omega]
    have bad : ∃ e x' y', i ≤ e ∧ q + e ≤ L ∧ fX7_readNumber_116 x = some x' ∧ fX11_token_203 (nI i) y = some y' ∧ TX x x' ∧ TY y y' ∧ x'.1 19 3 = nI q ∧ x'.1 19 1 = nI (q + e) ∧ y'.1 0 7 = y.1 0 7 ∧ ¬ isD (ch (y.1 1) L (q + e)) ∧ ((KN x' y' ∧ y'.1 0 4 = nI (q + e)) ∨ (x'.1 19 2 = 22 ∧ y'.1 0 6 = 3)) := by
      unfold fX7_readNumber_116 fX7_readNumber_123 fX11_token_203 fX11_token_208 fX11_token_232
      rw [wi_s, if_pos rfl]
      refine ⟨i, _, _, Nat.le_refl _, hi, rfl, rfl, TX_wi, TY_wi (by omega), ?_, ?_, ?_, hc, .inr ⟨?_, ?_⟩⟩
      · rw [wi_1, if_neg (by decide), ep]
      · rw [wi_1, if_neg (by decide), ex]
      · rw [wi_1, if_neg (by decide)]
      · rw [wi_1, if_pos ⟨rfl, rfl⟩]
      · rw [wi_1, if_pos ⟨rfl, rfl⟩]
    rw [e1, e2]
    unfold fX7_readNumber_75
    rw [es]
    by_cases z : i ≤ 4
    · have z1 : nI i ≤ 4 := (nI_le' (b := 4) (by omega) (by decide)).mpr z
      rw [if_pos z1, if_neg (show ¬ 4 < nI i from fun z1 => by have := (nI_lt' (a := 4) (by decide) (by omega)).mp z1; omega)]
      unfold fX7_readNumber_93
      rw [if_pos rfl, ex, c1, bd]
      dsimp only
      by_cases hl : isL (ch (y.1 1) L (q + i))
      · rw [(isL_x _ _).1 hl, (isL_y _ _).1 hl, bd, bd]
        dsimp only
        rw [if_neg one0, if_neg one0]
        exact bad
      · rw [(isL_x _ _).2 hl, (isL_y _ _).2 hl, bd, bd]
        dsimp only
        rw [if_pos rfl, if_pos rfl]
        unfold fX7_readNumber_123 fX11_token_208 fX11_token_232
        rw [wi_s, if_neg (show ¬ (2 : Int32) = 3 by decide)]
        obtain ⟨w1, w2⟩ := hw z
        have h10 := p10 z
        refine ⟨i, _, _, Nat.le_refl _, hi, rfl, rfl, TX_wi, (TY_wi (by omega)).tr (TY_wi (by omega)), ?_, ?_, ?_, hc, .inl ⟨⟨?_, ?_, ?_, ?_⟩, ?_⟩⟩
        · rw [wi_1, if_neg (by decide), ep]
        · rw [wi_1, if_neg (by decide), ex]
        · rw [wi_1, if_neg (by decide), wi_1, if_neg (by decide)]
        · rw [wi_1, if_pos ⟨rfl, rfl⟩]
        · rw [wi_1, if_neg (by decide), wi_1, if_pos ⟨rfl, rfl⟩]
        · rw [wi_1, if_neg (by decide), wi_1, if_neg (by decide), wi_1, if_neg (by decide)]; exact w1
        · rw [wi_1, if_neg (by decide), wi_1, if_neg (by decide)]; exact ⟨w2.1, by have := w2.2; omega⟩
        · rw [wi_1, if_pos ⟨rfl, rfl⟩, wi_1, if_neg (by decide), ey, nI_ad]
    · have z1 : ¬ nI i ≤ 4 := fun z1 => z ((nI_le' (b := 4) (by omega) (by decide)).mp z1)
      rw [if_neg z1, if_pos (show 4 < nI i from (nI_lt' (a := 4) (by decide) (by omega)).mpr (by omega))]
      unfold fX7_readNumber_93
      rw [if_neg one0]
      exact bad
  induction d with
  | zero =>
    intro i x y n m e hp ex ep ey hw hn hm
    obtain ⟨n, rfl⟩ : ∃ k, n = k + 1 := ⟨n - 1, by omega⟩
    obtain ⟨m, rfl⟩ : ∃ k, m = k + 1 := ⟨m - 1, by omega⟩
    exact stop i x y n m (by omega) hp ex ep ey hw (by rw [ch_out (by omega)]; exact not_D)
  | succ d ih =>
    intro i x y n m e hp ex ep ey hw hn hm
    have hL := hp.1
    obtain ⟨n, rfl⟩ : ∃ k, n = k + 1 := ⟨n - 1, by omega⟩
    obtain ⟨m, rfl⟩ : ∃ k, m = k + 1 := ⟨m - 1, by omega⟩
    by_cases hc : isD (ch (y.1 1) L (q + i))
    · have c1 := ch_x hp (i := q + i) (by omega)
      have c2 : fX11_here (nI i) y = some (ch (y.1 1) L (q + i), y) := ch_y hp (by omega) (by rw [ey, nI_ad])
      obtain ⟨b, hb1, hb2, hb3⟩ : ∃ b, 48 ≤ b ∧ b ≤ 57 ∧ ch (y.1 1) L (q + i) = nI b := by
        rcases ch_b hp (q + i) with ⟨z, -⟩ | ⟨b, z1, z2, z3⟩
        · rw [z] at hc; exact absurd hc not_D
        · rw [z3] at hc
          refine ⟨b, ?_, ?_, z3⟩
          · exact Nat.not_lt.mp fun q => hc.1 ((nI_lt' (b := 48) (by omega) (by decide)).mpr q)
          · exact Nat.not_lt.mp fun q => hc.2 ((nI_lt' (a := 57) (by decide) (by omega)).mpr q)
      have e1 : hX7_readNumber_5 (n + 1) x = hX7_readNumber_5 n (wi (wi x 19 4 (x.1 19 4 * 10 + ch (y.1 1) L (q + i) - 48)) 19 1 (nI (q + (i + 1)))) := by
        show fX7_readNumber_5 (hX7_readNumber_5 n) x = _
        unfold fX7_readNumber_5 fX6_length
        rw [bd]
        dsimp only
        rw [hp.2.1, ex, if_neg (show ¬ nI L ≤ nI (q + i) from fun z => by have := (nI_le' (by omega) (by omega)).mp z; omega), c1, bd]
        dsimp only
        rw [(isD_x _ _).1 hc, bd]
        dsimp only
        rw [if_neg one0, ex, c1, bd]
        dsimp only
        rw [show ∀ v, (wi x 19 4 v).1 19 1 = nI (q + i) from fun v => by rw [wi_1, if_neg (by decide), ex], nI_s, Nat.add_assoc]
      have e2 : ∃ y1, hX11_token_144 (m + 1) (nI i) y = hX11_token_144 m (nI (i + 1)) y1 ∧ TY y y1 ∧ y1.1 0 4 = y.1 0 4 ∧ y1.1 0 7 = y.1 0 7 ∧ (i + 1 ≤ 4 → y1.1 0 8 = 10 * y.1 0 8 + ch (y.1 1) L (q + i) - 48) := by
        have f : hX11_token_144 (m + 1) (nI i) y = if 4 ≤ nI i then hX11_token_144 m (nI (i + 1)) y else hX11_token_144 m (nI (i + 1)) (wi y 0 8 (10 * y.1 0 8 + ch (y.1 1) L (q + i) - 48)) := by
          show fX11_token_144 (hX11_token_144 m) (nI i) y = _
          unfold fX11_token_144
          rw [c2, bd]
          dsimp only
          rw [(isD_y _ _).1 hc, bd]
          dsimp only
          rw [if_neg one0, c2, bd, nI_s]
        by_cases z : 4 ≤ i
        · rw [if_pos (show 4 ≤ nI i from (nI_le' (a := 4) (by decide) (by omega)).mpr z)] at f
          exact ⟨y, f, TY.rf y, rfl, rfl, fun q => absurd z (by omega)⟩
        · rw [if_neg (show ¬ 4 ≤ nI i from fun z1 => z ((nI_le' (a := 4) (by decide) (by omega)).mp z1))] at f
          exact ⟨_, f, TY_wi (by omega), by rw [wi_1, if_neg (by decide)], by rw [wi_1, if_neg (by decide)], fun _ => by rw [wi_1, if_pos ⟨rfl, rfl⟩]⟩
      obtain ⟨y1, f1, f2, f3, f5, f4⟩ := e2
      have hx1 : TX x (wi (wi x 19 4 (x.1 19 4 * 10 + ch (y.1 1) L (q + i) - 48)) 19 1 (nI (q + (i + 1)))) := TX_wi.tr TX_wi
      obtain ⟨e', x', y', h1, h2, h3, h4, h5, h6, h7, h8, h9, h10, h11⟩ := ih (i + 1) _ y1 n m (by omega) (TP_fr hp hx1 f2) (by rw [wi_1, if_pos ⟨rfl, rfl⟩]) (by rw [wi_1, if_neg (by decide), wi_1, if_neg (by decide), ep]) (by rw [f3, ey]) (fun z => by
          obtain ⟨w1, w2⟩ := hw (by omega)
          have h10 := p10 (i := i) (by omega)
          have hv := w2.2
          have ev : x.1 19 4 * 10 + ch (y.1 1) L (q + i) - 48 = nI (10 * vN (y.1 0 8) + (b - 48)) := by
            rw [hb3, w1, w2.1, vN_nI (by omega), show nI (vN (y.1 0 8)) * 10 = nI (vN (y.1 0 8) * 10) from pk_mul _ 10, nI_ad, show nI (vN (y.1 0 8) * 10 + b) - 48 = nI (vN (y.1 0 8) * 10 + b - 48) from pk_sub (b := 48) (by omega), show vN (y.1 0 8) * 10 + b - 48 = 10 * vN (y.1 0 8) + (b - 48) by omega]
          have ew : 10 * y.1 0 8 + ch (y.1 1) L (q + i) - 48 = nI (10 * vN (y.1 0 8) + (b - 48)) := by
            rw [hb3, w2.1, vN_nI (by omega), show 10 * nI (vN (y.1 0 8)) = nI (10 * vN (y.1 0 8)) from pk_mul 10 _, nI_ad, show nI (10 * vN (y.1 0 8) + b) - 48 = nI (10 * vN (y.1 0 8) + b - 48) from pk_sub (b := 48) (by omega), show 10 * vN (y.1 0 8) + b - 48 = 10 * vN (y.1 0 8) + (b - 48) by omega]
          rw [wi_1, if_neg (by decide), wi_1, if_pos ⟨rfl, rfl⟩, f4 z, ev, ew]
          refine ⟨rfl, isN.of ?_ ?_⟩
          · rw [Nat.pow_succ]; omega
          · have := p10 z; omega) (by omega) (by omega)
      rw [f2.t1] at h10
      rw [f5] at h9
      exact ⟨e', x', y', by omega, h2, e1.trans h3, f1.trans h4, hx1.tr h5, f2.tr h6, h7, h8, h9, h10, h11⟩
    · exact stop i x y n m (by omega) hp ex ep ey hw hc
def stepT (c : Int32) (st : gS) : Option gS := if c = (-1) then (some (wi st 19 2 21)) else ((fX7_isLetter c st).bind fun q0_3 => (if q0_3.1 = 0 then ((fX7_isDigit c q0_3.2).bind fun q0_4 => (if q0_4.1 = 0 then ((fJ0_indexOf_0f7a4 ((c.toUInt32 % 65536).toInt32) q0_4.2).bind fun q0_5 => (if q0_5.1 < 0 then (fX7_step_83 22 q0_5.2) else (fX7_step_83 c q0_5.2))) else ((fX7_readNumber q0_4.2).bind fun q0_6 => (some q0_6)))) else ((fX7_readWord q0_3.2).bind fun q0_7 => (some q0_7))))
def tokT (c : Int32) (st : gS) : Option gS := if 0 ≤ c then ((fX11_isLetter c (wi (wl st 0 9 0) 0 8 0)).bind fun q0_4 => (if q0_4.1 = 0 then ((fX11_isDigit c q0_4.2).bind fun q0_5 => (if q0_5.1 = 0 then ((fX11_isSign c q0_5.2).bind fun q0_6 => (if q0_6.1 = 0 then (fX11_token_229 1 3 q0_6.2) else (fX11_token_229 1 c q0_6.2))) else (hX11_token_144 FU 0 q0_5.2))) else (hX11_token_78 FU 0 q0_4.2))) else (fX11_token_232 0 (wi (wi (wl st 0 9 0) 0 8 0) 0 6 0))
theorem tok_at {x y : gS} {L p : Nat} (hp : TP x y L) (hpL : p ≤ L) (ex : x.1 19 1 = nI p) (ey : y.1 0 4 = nI p) : ∃ x' y' c, fX7_step x = some x' ∧ fX11_token y = some y' ∧ TK x' y' c L ∧ p ≤ c ∧ TX x x' ∧ TY y y' := by
  have hL := hp.1
  obtain ⟨q, x1, y1, m, h1, h2, h3, h4, h5, h6, h7, h8, h9, h10⟩ := tok_skip (L - p) p x y FU FU (by omega) hp ex ey (FU_gt (by omega)) (FU_gt (by omega))
  have hp1 := TP_fr hp h5 h6
  rw [← h6.t1] at h9 h10
  have ty2 : TY y1 (wi y1 0 7 (nI q)) := TY_wi (by omega)
  have hp2 : TP (wi x1 19 3 (nI q)) (wi y1 0 7 (nI q)) L := TP_fr hp1 TX_wi ty2
  have cx := ch_x hp2 (i := q) (by omega)
  have cy1 : fX11_here 0 y1 = some (ch (y1.1 1) L q, y1) := ch_y hp1 (by omega) (by rw [h8]; exact nI_ad q 0)
  have cy2 : fX11_here 0 (wi y1 0 7 (nI q)) = some (ch (y1.1 1) L q, wi y1 0 7 (nI q)) := by
    have := ch_y hp2 (a := 0) (i := q) (by omega) (by rw [wi_1, if_neg (by decide), h8]; exact nI_ad q 0)
    rwa [ty2.t1] at this
  rw [ty2.t1] at cx
  have fx : fX7_step x = stepT (ch (y1.1 1) L q) (wi x1 19 3 (nI q)) := by
    unfold fX7_step fX7_skipBlanks
    rw [h3, bd, h7, show (wi x1 19 3 (nI q)).1 19 1 = nI q by rw [wi_1, if_neg (by decide), h7], cx, bd]
    rfl
  have fy : fX11_token y = tokT (ch (y1.1 1) L q) (wi y1 0 7 (nI q)) := by
    unfold fX11_token
    rw [h4]
    show fX11_token_0 (hX11_token_0 m) y1 = _
    unfold fX11_token_0
    rw [cy1, bd]
    dsimp only
    rw [if_neg h9, cy1, bd]
    dsimp only
    rw [if_neg h10, h8, cy2, bd]
    rfl
  have t3 : TY (wi y1 0 7 (nI q)) (wi (wl (wi y1 0 7 (nI q)) 0 9 0) 0 8 0) := TY_wl.tr (TY_wi (by omega))
  have hp3 : TP (wi x1 19 3 (nI q)) (wi (wl (wi y1 0 7 (nI q)) 0 9 0) 0 8 0) L := TP_fr hp2 (TX.rf _) t3
  have t3e : (wi (wl (wi y1 0 7 (nI q)) 0 9 0) 0 8 0).1 1 = y1.1 1 := t3.t1.trans ty2.t1
  have e7 : (wi (wl (wi y1 0 7 (nI q)) 0 9 0) 0 8 0).1 0 7 = nI q := by rw [wi_1, if_neg (by decide), wl_1, wi_1, if_pos ⟨rfl, rfl⟩]
  have e4 : (wi (wl (wi y1 0 7 (nI q)) 0 9 0) 0 8 0).1 0 4 = nI q := by rw [wi_1, if_neg (by decide), wl_1, wi_1, if_neg (by decide), h8]
  have e8 : (wi (wl (wi y1 0 7 (nI q)) 0 9 0) 0 8 0).1 0 8 = 0 := by rw [wi_1, if_pos ⟨rfl, rfl⟩]
  have e9 : (wi (wl (wi y1 0 7 (nI q)) 0 9 0) 0 8 0).2.1 0 9 = 0 := by rw [wi_2, wl_3, if_pos ⟨rfl, rfl⟩]
  have tyy : TY y (wi (wl (wi y1 0 7 (nI q)) 0 9 0) 0 8 0) := h6.tr (ty2.tr t3)
  generalize hY : wi (wl (wi y1 0 7 (nI q)) 0 9 0) 0 8 0 = y3 at *
  have txx : TX x (wi x1 19 3 (nI q)) := h5.tr TX_wi
  have g3 : (wi x1 19 3 (nI q)).1 19 3 = nI q := by rw [wi_1, if_pos ⟨rfl, rfl⟩]
  have g1 : (wi x1 19 3 (nI q)).1 19 1 = nI q := by rw [wi_1, if_neg (by decide), h7]
  generalize hX : wi x1 19 3 (nI q) = x3 at *
  rw [fx, fy]
  unfold stepT tokT
  rw [hY]
  rcases ch_b hp3 q with ⟨z, zL⟩ | ⟨b, z1, z2, z3⟩
  · rw [t3e] at z
    rw [z, if_pos rfl, if_neg (show ¬ (0 : Int32) ≤ -1 by decide)]
    unfold fX11_token_232
    rw [wi_s, if_neg (show ¬ (0 : Int32) = 3 by decide)]
    refine ⟨_, _, q, rfl, rfl, ⟨TP_fr hp3 TX_wi ((TY_wi (by omega)).tr (TY_wi (by omega))), by omega, ?_, ?_, .inl ⟨?_, ?_⟩, .inr ⟨q, by omega, ?_, ?_, .inl ?_⟩⟩, h1, txx.tr TX_wi, tyy.tr ((TY_wi (by omega)).tr (TY_wi (by omega)))⟩
    · rw [wi_1, if_neg (by decide), g3]
    · rw [wi_1, if_neg (by decide), wi_1, if_neg (by decide), e7]
    · rw [wi_1, if_pos ⟨rfl, rfl⟩]
    · rw [wi_1, if_neg (by decide), wi_1, if_pos ⟨rfl, rfl⟩]
    · rw [wi_1, if_neg (by decide), g1]
    · rw [wi_1, if_pos ⟨rfl, rfl⟩, wi_1, if_neg (by decide), e4]; exact nI_ad q 0
    · rw [wi_1, if_pos ⟨rfl, rfl⟩]
  · rw [t3e] at z3
    rw [if_neg (show ¬ ch (y1.1 1) L q = -1 by rw [z3]; exact nI_m1 (by omega)), if_pos (show 0 ≤ ch (y1.1 1) L q by rw [z3]; exact (nI_le' (a := 0) (by decide) (by omega)).mpr (by omega))]
    by_cases hl : isL (ch (y1.1 1) L q)
    · rw [(isL_x _ _).1 hl, (isL_y _ _).1 hl, bd, bd]
      dsimp only
      rw [if_neg one0, if_neg one0]
      unfold fX7_readWord
      have hq0 : TX x3 (wl x3 19 5 0) := TX_wl
      obtain ⟨e, x', y', w1, w2, w3, w4, w5, w6, w7, w8, w9, w10, w11⟩ := tok_word (q := q) (L - q) 0 (wl x3 19 5 0) y3 FU FU (by omega) (TP_fr hp3 hq0 (TY.rf _)) (by rw [wl_1]; exact g1) (by rw [wl_1]; exact g3) e4 (fun _ => by rw [wl_3, if_pos ⟨rfl, rfl⟩, e9]) (FU_gt (by omega)) (FU_gt (by omega))
      rw [w3, bd]
      have w4 : hX11_token_78 FU 0 y3 = some y' := w4
      refine ⟨x', y', q, rfl, w4, ⟨TP_fr hp3 (hq0.tr w5) w6, by omega, w7, w9.trans e7, ?_, ?_⟩, h1, txx.tr (hq0.tr w5), tyy.tr w6⟩
      · rcases w11 with ⟨-, q1, -⟩ | q1
        · exact .inr (.inl q1)
        · exact .inr (.inr (.inr (.inl q1)))
      · rcases w11 with ⟨-, -, q1⟩ | q1
        · refine .inr ⟨q + e, w2, w8, q1, .inr ?_⟩
          have : e ≠ 0 := fun z => by
            rw [z, t3e] at w10
            exact w10 hl
          omega
        · exact .inl ⟨q1.1, by omega⟩
    · rw [(isL_x _ _).2 hl, (isL_y _ _).2 hl, bd, bd]
      dsimp only
      rw [if_pos rfl, if_pos rfl]
      by_cases hd : isD (ch (y1.1 1) L q)
      · rw [(isD_x _ _).1 hd, (isD_y _ _).1 hd, bd, bd]
        dsimp only
        rw [if_neg one0, if_neg one0]
        unfold fX7_readNumber
        have hq0 : TX x3 (wi x3 19 4 0) := TX_wi
        obtain ⟨e, x', y', w1, w2, w3, w4, w5, w6, w7, w8, w9, w10, w11⟩ := tok_num (q := q) (L - q) 0 (wi x3 19 4 0) y3 FU FU (by omega) (TP_fr hp3 hq0 (TY.rf _)) (by rw [wi_1, if_neg (by decide)]; exact g1) (by rw [wi_1, if_neg (by decide)]; exact g3) e4 (fun _ => by rw [wi_1, if_pos ⟨rfl, rfl⟩, e8]; exact ⟨rfl, isN.of (j := 0) (by decide) (by decide)⟩) (FU_gt (by omega)) (FU_gt (by omega))
        rw [w3, bd]
        have w4 : hX11_token_144 FU 0 y3 = some y' := w4
        refine ⟨x', y', q, rfl, w4, ⟨TP_fr hp3 (hq0.tr w5) w6, by omega, w7, w9.trans e7, ?_, ?_⟩, h1, txx.tr (hq0.tr w5), tyy.tr w6⟩
        · rcases w11 with ⟨q1, -⟩ | q1
          · exact .inr (.inr (.inl q1))
          · exact .inr (.inr (.inr (.inl q1)))
        · rcases w11 with ⟨-, q1⟩ | q1
          · refine .inr ⟨q + e, w2, w8, q1, .inr ?_⟩
            have : e ≠ 0 := fun z => by
              rw [z, t3e] at w10
              exact w10 hd
            omega
          · exact .inl ⟨q1.1, by omega⟩
      · rw [(isD_x _ _).2 hd, (isD_y _ _).2 hd, bd, bd]
        dsimp only
        rw [if_pos rfl, if_pos rfl, z3, by16 z1]
        unfold fX7_step_83 fX11_token_229 fX11_token_232
        by_cases hs : sgn (nI b)
        · obtain ⟨j, j1, j2⟩ := (sgn_x z1 x3).1 hs
          rw [j2, (sgn_y _ _).1 hs, bd, bd]
          dsimp only
          have h3 : ¬ nI b = 3 := fun q => by rw [q] at hs; exact absurd hs (by decide)
          rw [if_neg (nI_nn (show j < 2 ^ 31 by omega)), if_neg one0, wi_n (show ¬ (19 = 19 ∧ 1 = 2) by decide), wi_s, if_neg h3, g1, nI_s]
          refine ⟨_, _, q, rfl, rfl, ⟨TP_fr hp3 (TX_wi.tr TX_wi) ((TY_wi (by omega)).tr (TY_wi (by omega))), by omega, ?_, ?_, .inr (.inr (.inr (.inr ⟨?_, ?_⟩))), .inr ⟨q + 1, by omega, ?_, ?_, .inr (by omega)⟩⟩, h1, txx.tr (TX_wi.tr TX_wi), tyy.tr ((TY_wi (by omega)).tr (TY_wi (by omega)))⟩
          · rw [wi_1, if_neg (by decide), wi_1, if_neg (by decide), g3]
          · rw [wi_1, if_neg (by decide), wi_1, if_neg (by decide), e7]
          · rw [wi_1, if_neg (by decide), wi_1, if_pos ⟨rfl, rfl⟩]; exact hs
          · rw [wi_1, if_neg (by decide), wi_1, if_pos ⟨rfl, rfl⟩, wi_1, if_neg (by decide), wi_1, if_pos ⟨rfl, rfl⟩]
          · rw [wi_1, if_pos ⟨rfl, rfl⟩]
          · rw [wi_1, if_pos ⟨rfl, rfl⟩, wi_1, if_neg (by decide), e4, nI_s]
        · rw [(sgn_x z1 x3).2 hs, (sgn_y _ _).2 hs, bd, bd]
          dsimp only
          rw [if_pos (show (-1 : Int32) < 0 by decide), if_pos rfl, wi_n (show ¬ (19 = 19 ∧ 1 = 2) by decide), wi_s, if_pos rfl]
          refine ⟨_, _, q, rfl, rfl, ⟨TP_fr hp3 (TX_wi.tr TX_wi) (TY_wi (by omega)), by omega, ?_, ?_, .inr (.inr (.inr (.inl ⟨?_, ?_⟩))), .inl ⟨?_, by omega⟩⟩, h1, txx.tr (TX_wi.tr TX_wi), tyy.tr (TY_wi (by omega))⟩
          · rw [wi_1, if_neg (by decide), wi_1, if_neg (by decide), g3]
          · rw [wi_1, if_neg (by decide), e7]
          · rw [wi_1, if_neg (by decide), wi_1, if_pos ⟨rfl, rfl⟩]
          · rw [wi_1, if_pos ⟨rfl, rfl⟩]
          · rw [wi_1, if_neg (by decide), wi_1, if_pos ⟨rfl, rfl⟩]
theorem tok_step {x y : gS} {c L : Nat} (h : TK x y c L) (h1 : x.1 19 2 ≠ 22) (h2 : x.1 19 2 ≠ 21) : ∃ x' y' c', fX7_step x = some x' ∧ fX11_token y = some y' ∧ TK x' y' c' L ∧ c < c' ∧ TX x x' ∧ TY y y' := by
  obtain ⟨p1, p2, p3, p4, p5, p6⟩ := h
  rcases p6 with q | ⟨p, q1, q2, q3, q4⟩
  · exact absurd q.1 h1
  · obtain ⟨x', y', c', a1, a2, a3, a4, a5, a6⟩ := tok_at p1 q1 q2 q3
    exact ⟨x', y', c', a1, a2, a3, by rcases q4 with q4 | q4; exact absurd q4 h2; omega, a5, a6⟩
