/-! ===== makes, hands ===== -/
theorem made {x y : gS} (h : Inv x y) {S0 : Nat} (hS0 : S0 < 2 ^ nT y) : ∃ v, v < 2 ^ 8 ∧ (∀ st, FX x st → ∃ st', fX3_byTakings (x.2.2 0 9) 20 (nI S0) st = some (nI v, st') ∧ FX x st') ∧ ∀ s, FY y s → ∃ s', fX11_madeBy (nI S0) s = some (nI v, s') ∧ FY y s' := by
  have hw := h.wf
  have hT := nT6 hw
  have hF := nF9 hw
  have hM := nM17 hw
  obtain ⟨ok, r0, r1, -⟩ := h.now
  have hS5 : S0 < 2 ^ 5 := Nat.lt_of_lt_of_le hS0 (Nat.pow_le_pow_right (by decide) (by omega))
  -- the figure's bit
  obtain ⟨F0, hF0, hbit, hF0b⟩ : ∃ F0, F0 < 2 ^ 8 ∧ (∀ s, FX x s → fX5_figureBit 20 s = some (nI F0, s)) ∧ ((nF y = 0 ∧ F0 = 0) ∨ ∃ f, f < nF y ∧ y.1 28 0 = nI f ∧ F0 = 2 ^ f) := by
    have e20 : ∀ s, FX x s → s.1 20 2 = y.1 28 0 := fun s hs => (hs.2 20 2 (by unfold scrX; omega)).trans r0
    rcases ok.1 with w | w
    · refine ⟨0, by decide, fun s hs => ?_, Or.inl ⟨w.1, rfl⟩⟩
      unfold fX5_figureBit
      rw [e20 s hs, w.2, if_pos (by decide)]; rfl
    · have w2 := w.2
      refine ⟨2 ^ vN (y.1 28 0), Nat.pow_lt_pow_right (by decide) (by omega), fun s hs => ?_, Or.inr ⟨_, w.2, w.1, rfl⟩⟩
      unfold fX5_figureBit
      rw [e20 s hs]
      have w1 := w.1
      generalize vN (y.1 28 0) = f at w1 w2
      rw [w1, if_neg (nI_nn (by omega)), b_1 (by omega)]
  by_cases zT : nT y = 0
  · refine ⟨F0, hF0, fun st hf => ?_, fun s hs => ?_⟩
    · refine ⟨st, ?_, hf⟩
      unfold fX3_byTakings
      have e3 : st.1 20 3 = -1 := by
        rw [hf.2 20 3 (by unfold scrX; omega), r1]
        rcases ok.2.1 with w | w
        · exact w.2
        · have := w.2; omega
      rw [(hasTri st _ _).2 (fun q => q.1 (by rw [e3]; decide)), bd, if_pos rfl, hbit st hf, bd]
    · obtain ⟨k, s1, e, q3, -⟩ := Ymz hs S0
      refine ⟨s1, e.trans ?_, q3⟩
      unfold fX11_madeBy_4
      rw [if_pos (show (40 : Int32) ≤ nI 40 by decide), eT (q3.wf hw), q3.nT, zT, if_pos nI0, eF (q3.wf hw), q3.nF]
      rcases hF0b with w | ⟨f, w1, w2, w3⟩
      · rw [w.1, w.2, if_pos nI0]; rfl
      · rw [if_neg (fun q => by have := (nI_eq0 (by omega)).mp q; omega), gc_p (by decide), show (0 : Int32).toNatClampNeg = 0 from rfl, q3.now, w2, b_1 (by omega), w3]
  · obtain ⟨b, hb, hb1, hb3⟩ : ∃ b, b < nT y ∧ y.1 28 1 = nI b ∧ x.1 20 3 = nI b := by
      rcases ok.2.1 with w | w
      · exact absurd w.1 zT
      · exact ⟨_, w.2, w.1, r1.trans w.1⟩
    obtain ⟨v, x1, a1, a2, a3⟩ := XbyT h (FX.rf x) hb hb3 hF0 hbit hS5
    refine ⟨v, a3.1, fun st hf => ?_, fun s hs => ?_⟩
    · obtain ⟨v2, x2, c1, c2, c3⟩ := XbyT h hf hb hb3 hF0 hbit hS5
      rw [Mk_u a3 c3]
      exact ⟨x2, c1, c2⟩
    · rcases hF0b with w | ⟨f, w1, w2, w3⟩
      · obtain ⟨k, s1, e, q3, -⟩ := Ymz hs S0
        have v0 : v = 0 := by
          apply Nat.eq_of_testBit_eq
          intro i
          rw [Nat.zero_testBit]
          cases hv : v.testBit i
          · rfl
          · obtain ⟨k, k1, k2⟩ := (a3.2 i).mp hv
            exfalso
            refine k2 (fun _ _ => False) ⟨fun f hf => (by rw [w.2, Nat.zero_testBit] at hf; cases hf), fun j g t m _ h2 => absurd h2 id⟩
        refine ⟨s1, e.trans ?_, q3⟩
        unfold fX11_madeBy_4
        rw [if_pos (show (40 : Int32) ≤ nI 40 by decide), eT (q3.wf hw), q3.nT, if_neg (fun q => by have := (nI_eq0 (by omega)).mp q; omega), eF (q3.wf hw), q3.nF, w.1, if_pos nI0, v0]; rfl
      · obtain ⟨v2, s2, c1, c2, c3⟩ := Ymade h hs hb hb1 w1 w2 hS5
        rw [← w3] at c3
        rw [Mk_u a3 c3]
        exact ⟨s2, c1, c2⟩
theorem p2T {n : Nat} (h : n < 6) : (1 <<< (nI n &&& 31) : Int32) = nI (2 ^ n) ∧ 2 ^ n ≤ 32 ∧ 1 ≤ 2 ^ n := ⟨b_1 (by omega), by
  have : (2 : Nat) ^ n ≤ 2 ^ 5 := Nat.pow_le_pow_right (by decide) (by omega)
  omega, Nat.two_pow_pos n⟩
theorem s_makes (a : Int32) : sOK Inv (fX10_makes a) (fX11_makes a) := by
  intro x y h
  have hw := h.wf
  have hT := nT6 hw
  obtain ⟨e1, e2, e3⟩ := p2T hT
  unfold fX10_makes fX11_makes
  rw [isIn_c, bd, eT hw, e1, show nI (2 ^ nT y) - 1 = nI (2 ^ nT y - 1) from pk_sub (b := 1) e3, gc_p h.told8, xT hw h.xt, e1]
  dsimp only
  by_cases h1 : a < 0
  · rw [if_pos h1, if_neg (show ¬ (¬ a < 0 ∧ ¬ nI (2 ^ nT y - 1) < a) from fun q => q.1 h1), if_pos rfl]
    exact ⟨_, _, _, rfl, rfl, h⟩
  rw [if_neg h1]
  by_cases h2 : nI (2 ^ nT y - 1) < a
  · rw [if_neg (show ¬ a < nI (2 ^ nT y) from fun q => by
      rw [Int32.lt_iff_toInt_lt, nI_toInt (by omega)] at h2 q
      omega), if_neg (show ¬ (¬ a < 0 ∧ ¬ nI (2 ^ nT y - 1) < a) from fun q => q.2 h2)]
    exact ⟨_, _, _, rfl, rfl, h⟩
  · have hN := rng (u := 2 ^ nT y - 1) (by omega) h1 h2
    rw [show 2 ^ nT y - 1 + 1 = 2 ^ nT y by omega] at hN
    obtain ⟨S, hS, rfl⟩ : ∃ n, n < 2 ^ nT y ∧ a = nI n := ⟨_, hN.2, hN.1⟩
    rw [if_pos ((nI_lt' (by omega) (by omega)).mpr hS), if_pos (show (¬ nI S < 0 ∧ ¬ nI (2 ^ nT y - 1) < nI S) from ⟨h1, h2⟩), if_neg one0, gc_p h.told8]
    obtain ⟨v, -, m1, m2⟩ := made h hS
    obtain ⟨x', p1, p2⟩ := m1 x (FX.rf x)
    obtain ⟨y', q1, q2⟩ := m2 y (FY.rf y)
    rw [p1, q1, bd, bd]
    exact ⟨_, _, _, rfl, rfl, Inv_fr h p2 q2⟩
theorem cnt5 {s : Nat} (hs : s < 32) : cnt s.testBit 16 = cnt s.testBit 8 :=
  cnt_0 (n := 8) (fun i hi => Nat.testBit_lt_two_pow (Nat.lt_of_lt_of_le (show s < 2 ^ 5 from hs) (Nat.pow_le_pow_right (by decide) (by omega)))) (by decide)
theorem Ymembers {s : Nat} (hs : s < 32) (y : gS) : fX11_members (nI s) y = some (nI (cnt s.testBit 8), y) := by
  unfold fX11_members
  obtain ⟨s', _, e, hp⟩ := lp (fun n (s' : Int32 × Int32 × gS) => hX11_members_4 (nI s) n s'.1 s'.2.1 s'.2.2) 8 (fun i s' => s' = (nI (cnt s.testBit i), nI i, y)) (by
    intro n i s' hi hs'
    subst hs'
    refine ⟨_, ?_, rfl⟩
    show fX11_members_4 (nI s) (hX11_members_4 (nI s) n) _ (nI i) y = _
    unfold fX11_members_4 gl
    rw [if_neg (show ¬ 8 ≤ nI i from nI_ge (b := 8) (by omega) (by omega)), b_bit (by omega) (by omega), nI_s, b2_nI, nI_ad]
    rfl) 0 (0, 0, y) FU (by omega) rfl (FU_gt (by omega))
  subst hp
  refine e.trans ?_
  show fX11_members_4 (nI s) _ _ (nI 8) y = _
  unfold fX11_members_4
  rw [if_pos (show (8 : Int32) ≤ nI 8 by decide)]
/-- the best of the first sets -/
def fw : Option Nat → Nat → Bool
  | none, _ => true
  | some g, s => decide (cnt s.testBit 8 < cnt g.testBit 8)
def hbV (F : Nat → Nat) (bs : Nat → Bool) (f : Nat) : Nat → Option Nat
  | 0 => none
  | s + 1 => if fw (hbV F bs f s) s && bs s && (F s).testBit f then some s else hbV F bs f s
theorem hbV_lt (F : Nat → Nat) (bs : Nat → Bool) (f n : Nat) : ∀ g, hbV F bs f n = some g → g < n := by
  induction n with
  | zero => intro g h; cases h
  | succ n ih =>
    intro g h
    rw [hbV] at h
    split at h
    · have : n = g := Option.some.inj h
      omega
    · have := ih g h; omega
theorem s_hands (a1 a2 : Int32) : sOK Inv (fX10_hands a1 a2) (fX11_hands a1 a2) := by
  intro x y h
  have hw := h.wf
  have hT := nT6 hw
  have hF := nF9 hw
  obtain ⟨e1, e2, e3⟩ := p2T hT
  obtain ⟨ok, r0, r1, -⟩ := h.now
  unfold fX10_hands fX11_hands
  rw [gc_p h.told8]
  rcases inR_dec a1 (y.1 0 48) with q | q
  rotate_left
  · rw [(isFig h.wf a1).2 q, (hasFig x _ a1).2 (by rw [h.xt.1.1]; exact q), bd, bd]
    exact ⟨_, _, _, rfl, rfl, h⟩
  rw [(isFig h.wf a1).1 q, (hasFig x _ a1).1 (by rw [h.xt.1.1]; exact q), bd, bd]
  dsimp only
  obtain ⟨f, hf, rfl⟩ := inF h.wf q
  rw [if_neg one0, if_neg one0, isIn_c, bd]
  dsimp only
  have hi : 1 < a2 ↔ ¬ a2 ≤ 1 := by
    rw [Int32.lt_iff_toInt_lt, Int32.le_iff_toInt_le]; omega
  by_cases h1 : a2 < 0
  · rw [if_pos h1, if_neg (show ¬ (¬ a2 < 0 ∧ ¬ 1 < a2) from fun q => q.1 h1)]
    exact ⟨_, _, _, rfl, rfl, h⟩
  rw [if_neg h1]
  by_cases h2 : a2 ≤ 1
  rotate_left
  · rw [if_neg h2, if_neg (show ¬ (¬ a2 < 0 ∧ ¬ 1 < a2) from fun q => q.2 (hi.mpr h2))]
    exact ⟨_, _, _, rfl, rfl, h⟩
  rw [if_pos h2, if_pos (show (¬ a2 < 0 ∧ ¬ 1 < a2) from ⟨h1, fun z => hi.mp z h2⟩), if_neg one0, gc_p h.told8]
  -- what each set makes
  obtain ⟨F, hFm⟩ : ∃ F : Nat → Nat, ∀ S, S < 2 ^ nT y → F S < 2 ^ 8 ∧ (∀ st, FX x st → ∃ st', fX3_byTakings (x.2.2 0 9) 20 (nI S) st = some (nI (F S), st') ∧ FX x st') ∧ ∀ s, FY y s → ∃ s', fX11_madeBy (nI S) s = some (nI (F S), s') ∧ FY y s' := by
    have : ∀ S, ∃ v, S < 2 ^ nT y → v < 2 ^ 8 ∧ (∀ st, FX x st → ∃ st', fX3_byTakings (x.2.2 0 9) 20 (nI S) st = some (nI v, st') ∧ FX x st') ∧ ∀ s, FY y s → ∃ s', fX11_madeBy (nI S) s = some (nI v, s') ∧ FY y s' := fun S => by
      by_cases z : S < 2 ^ nT y
      · obtain ⟨v, hv⟩ := made h z
        exact ⟨v, fun _ => hv⟩
      · exact ⟨0, fun q => absurd q z⟩
    exact ⟨fun S => Classical.choose (this S), fun S => Classical.choose_spec (this S)⟩
  -- besides the holder
  obtain ⟨bs, hbs⟩ : ∃ bs : Nat → Bool, (nT y = 0 ∧ y.1 28 1 = -1 ∧ ∀ s, bs s = true) ∨ ∃ b, b < nT y ∧ y.1 28 1 = nI b ∧ ∀ s, bs s = !s.testBit b := by
    rcases ok.2.1 with w | w
    · exact ⟨fun _ => true, Or.inl ⟨w.1, w.2, fun _ => rfl⟩⟩
    · exact ⟨fun s => !s.testBit (vN (y.1 28 1)), Or.inr ⟨_, w.2, w.1, fun _ => rfl⟩⟩
  have hX : ∃ x', fX3_fewestHands (x.2.2 0 9) 20 (nI f) x = some (oI (hbV F bs f (2 ^ nT y)), x') ∧ FX x x' := by
    unfold fX3_fewestHands
    obtain ⟨s, _, e, hp⟩ := lp (fun n (s : Int32 × Int32 × gS) => hX3_fewestHands_6 (x.2.2 0 9) 20 (nI f) n s.1 s.2.1 s.2.2) (2 ^ nT y) (fun i s => s.1 = oI (hbV F bs f i) ∧ s.2.1 = nI i ∧ FX x s.2.2) (by
      intro n i ⟨l4, l5, st⟩ hi ⟨q1, q2, q3⟩
      dsimp only at q1 q2 q3
      subst q1 q2
      have hxs := (q3.inv h).xt
      rw [show st.2.2 0 9 = x.2.2 0 9 by rw [q3.1]] at hxs
      obtain ⟨f1, f2, -⟩ := hFm i hi
      obtain ⟨st', f3, f4⟩ := f2 st q3
      have e20 : st.1 20 3 = y.1 28 1 := (q3.2 20 3 (by unfold scrX; omega)).trans r1
      -- behind 'fewer'
      have k41 : ∀ c : Bool, fX3_fewestHands_41 (x.2.2 0 9) 20 (nI f) (hX3_fewestHands_6 (x.2.2 0 9) 20 (nI f) n) (oI (hbV F bs f i)) (nI i) (b2 c) st = if c && bs i && (F i).testBit f then hX3_fewestHands_6 (x.2.2 0 9) 20 (nI f) n (nI i) (nI (i + 1)) st' else hX3_fewestHands_6 (x.2.2 0 9) 20 (nI f) n (oI (hbV F bs f i)) (nI (i + 1)) (if c && bs i then st' else st) := by
        intro c
        have k68 : ∀ d : Bool, fX3_fewestHands_68 (x.2.2 0 9) 20 (nI f) (hX3_fewestHands_6 (x.2.2 0 9) 20 (nI f) n) (oI (hbV F bs f i)) (nI i) (b2 c) (b2 d) st = if c && d && (F i).testBit f then hX3_fewestHands_6 (x.2.2 0 9) 20 (nI f) n (nI i) (nI (i + 1)) st' else hX3_fewestHands_6 (x.2.2 0 9) 20 (nI f) n (oI (hbV F bs f i)) (nI (i + 1)) (if c && d then st' else st) := by
          intro d
          unfold fX3_fewestHands_68
          rw [f3, bd, nI_s]
          dsimp only
          rw [b_bit (l831 f1) (by omega)]
          cases c <;> cases d <;> cases (F i).testBit f <;> rfl
        unfold fX3_fewestHands_41 fX3_fewestHands_63
        rw [e20]
        rcases hbs with ⟨w1, w2, w3⟩ | ⟨b, w1, w2, w3⟩
        · rw [w2, if_pos rfl, show (1 : Int32) = b2 true from rfl, k68, w3]
        · rw [w2, if_neg (nI_m1 (by omega)), b_bit (by omega) (by omega), w3]
          cases hz : i.testBit b
          · rw [if_pos zero0', show (1 : Int32) = b2 true from rfl, k68]; rfl
          · rw [if_neg one0', show (0 : Int32) = b2 false from rfl, k68]; rfl
      have stp : ∀ c : Bool, fw (hbV F bs f i) i = c → hX3_fewestHands_6 (x.2.2 0 9) 20 (nI f) (n + 1) (oI (hbV F bs f i)) (nI i) st = fX3_fewestHands_41 (x.2.2 0 9) 20 (nI f) (hX3_fewestHands_6 (x.2.2 0 9) 20 (nI f) n) (oI (hbV F bs f i)) (nI i) (b2 c) st := by
        intro c hc
        show fX3_fewestHands_6 (x.2.2 0 9) 20 (nI f) (hX3_fewestHands_6 (x.2.2 0 9) 20 (nI f) n) _ (nI i) st = _
        unfold fX3_fewestHands_6 fX3_fewestHands_36
        rw [xT hw hxs, e1, if_neg (nle hi (by omega))]
        cases hq : hbV F bs f i with
        | none =>
          rw [hq] at hc
          rw [if_pos (show oI none = -1 from rfl), ← hc]; rfl
        | some g =>
          rw [hq] at hc
          have hc : decide (cnt i.testBit 8 < cnt g.testBit 8) = c := hc
          have hg := hbV_lt F bs f i g hq
          have c1 := cnt_le i.testBit 8
          have c2 := cnt_le g.testBit 8
          show (if nI g = -1 then _ else (fJ6_bitCount_0f7a4 (nI i) st).bind fun q6_1 => (fJ6_bitCount_0f7a4 (nI g) q6_1.2).bind _) = _
          rw [if_neg (nI_m1 (by omega)), bitC (by omega), bd]
          dsimp only
          rw [bitC (by omega), bd]
          dsimp only
          rw [cnt5 (by omega), cnt5 (by omega), ← hc]
          by_cases z : cnt i.testBit 8 < cnt g.testBit 8
          · rw [if_neg (fun q => by have := (nI_le' (by omega) (by omega)).mp q; omega), decide_eq_true z]; rfl
          · rw [if_pos ((nI_le' (by omega) (by omega)).mpr (by omega)), decide_eq_false z]; rfl
      show ∃ s', hX3_fewestHands_6 (x.2.2 0 9) 20 (nI f) (n + 1) (oI (hbV F bs f i)) (nI i) st = _ ∧ _
      rw [stp _ rfl, k41, hbV]
      generalize fw (hbV F bs f i) i = c
      cases hz : (c && bs i && (F i).testBit f)
      · rw [if_neg (show ¬ false = true by decide), if_neg (show ¬ false = true by decide)]
        have hd : ∀ d : Bool, FX x (if d then st' else st) := fun d => by
          cases d
          · exact q3
          · exact f4
        exact ⟨(_, _, _), rfl, rfl, rfl, hd _⟩
      · rw [if_pos rfl, if_pos rfl]
        exact ⟨(_, _, _), rfl, rfl, rfl, f4⟩) 0 (-1, 0, x) FU (by omega) ⟨rfl, rfl, FX.rf x⟩ (FU_gt (by omega))
    obtain ⟨l4, l5, st⟩ := s
    obtain ⟨q1, q2, q3⟩ := hp
    dsimp only at q1 q2 q3
    subst q1 q2
    have hxs := (q3.inv h).xt
    rw [show st.2.2 0 9 = x.2.2 0 9 by rw [q3.1]] at hxs
    refine ⟨st, e.trans ?_, q3⟩
    show fX3_fewestHands_6 (x.2.2 0 9) 20 (nI f) _ _ _ st = _
    unfold fX3_fewestHands_6
    rw [xT hw hxs, e1, if_pos (yle _)]
  have hY : ∃ y', hX11_hands_24 (nI f) a2 FU (-1) 0 y = (match hbV F bs f (2 ^ nT y) with | none => some (-1, y') | some g => if a2 = 0 then some (nI (cnt g.testBit 8), y') else some (nI g, y')) ∧ FY y y' := by
    obtain ⟨s, _, e, hp⟩ := lp (fun n (s : Int32 × Int32 × gS) => hX11_hands_24 (nI f) a2 n s.1 s.2.1 s.2.2) (2 ^ nT y) (fun i s => s.1 = oI (hbV F bs f i) ∧ s.2.1 = nI i ∧ FY y s.2.2) (by
      intro n i ⟨l3, l4, st⟩ hi ⟨q1, q2, q3⟩
      dsimp only at q1 q2 q3
      subst q1 q2
      obtain ⟨f1, -, f2⟩ := hFm i hi
      obtain ⟨st', f3, f4⟩ := f2 st q3
      have k88 : fX11_hands_88 (nI f) a2 (hX11_hands_24 (nI f) a2 n) (oI (hbV F bs f i)) (nI i) st = if (F i).testBit f then hX11_hands_24 (nI f) a2 n (nI i) (nI (i + 1)) st' else hX11_hands_24 (nI f) a2 n (oI (hbV F bs f i)) (nI (i + 1)) st' := by
        unfold fX11_hands_88
        rw [f3, bd, nI_s]
        dsimp only
        rw [b_bit (l831 f1) (by omega)]
        cases (F i).testBit f <;> rfl
      have k62 : ∀ d : Bool, ∃ s', FY y s' ∧ fX11_hands_62 (nI f) a2 (hX11_hands_24 (nI f) a2 n) (oI (hbV F bs f i)) (nI i) (b2 (!d)) st = if fw (hbV F bs f i) i && d && (F i).testBit f then hX11_hands_24 (nI f) a2 n (nI i) (nI (i + 1)) s' else hX11_hands_24 (nI f) a2 n (oI (hbV F bs f i)) (nI (i + 1)) s' := by
        intro d
        unfold fX11_hands_62
        cases d
        · refine ⟨st, q3, ?_⟩
          rw [if_neg (show ¬ b2 (!false) = 0 from one0'), nI_s, Bool.and_false, Bool.false_and, if_neg (by decide)]
        · rw [if_pos (show b2 (!true) = 0 from rfl), Bool.and_true, k88, nI_s]
          cases hq : hbV F bs f i with
          | none =>
            refine ⟨st', f4, ?_⟩
            rw [if_pos (show oI none < 0 by decide), fw, Bool.true_and]
          | some g =>
            have hg := hbV_lt F bs f i g hq
            have c1 := cnt_le i.testBit 8
            have c2 := cnt_le g.testBit 8
            show ∃ s', FY y s' ∧ (if nI g < 0 then _ else (fX11_members (nI i) st).bind fun q62_1 => (fX11_members (nI g) q62_1.2).bind _) = _
            rw [if_neg (nI_nn (by omega)), Ymembers (by omega), bd]
            dsimp only
            rw [Ymembers (by omega), bd]
            dsimp only
            rw [fw]
            by_cases z : cnt i.testBit 8 < cnt g.testBit 8
            · rw [if_pos ((nI_lt' (by omega) (by omega)).mpr z), decide_eq_true z, Bool.true_and]
              rw [hq] at k88
              exact ⟨st', f4, k88⟩
            · rw [if_neg (fun q => z ((nI_lt' (by omega) (by omega)).mp q)), decide_eq_false z, Bool.false_and]
              exact ⟨st, q3, rfl⟩
      have stp : hX11_hands_24 (nI f) a2 (n + 1) (oI (hbV F bs f i)) (nI i) st = fX11_hands_62 (nI f) a2 (hX11_hands_24 (nI f) a2 n) (oI (hbV F bs f i)) (nI i) (b2 (!bs i)) st := by
        show fX11_hands_24 (nI f) a2 (hX11_hands_24 (nI f) a2 n) _ (nI i) st = _
        unfold fX11_hands_24 fX11_hands_61
        rw [eT (q3.wf hw), q3.nT, e1, if_neg (nle hi (by omega)), gc_p (by decide), show (1 : Int32).toNatClampNeg = 1 from rfl, q3.now]
        rcases hbs with ⟨w1, w2, w3⟩ | ⟨b, w1, w2, w3⟩
        · rw [if_pos (by rw [w1]; decide), w3, show b2 (!true) = 0 from rfl]
        · rw [if_neg (fun q => by have := (nI_le' (b := 0) (by omega) (by decide)).mp q; omega), w2, b_bit (by omega) (by omega), w3]
          cases hz : i.testBit b
          · rw [if_neg (show ¬ b2 false = 1 by decide), show b2 (!(!false)) = 0 from rfl]
          · rw [if_pos (show b2 true = 1 from rfl), show b2 (!(!true)) = 1 from rfl]
      obtain ⟨s2, g1, g2⟩ := k62 (bs i)
      show ∃ s', hX11_hands_24 (nI f) a2 (n + 1) (oI (hbV F bs f i)) (nI i) st = _ ∧ _
      rw [stp, g2, hbV]
      generalize fw (hbV F bs f i) i = c
      cases hz : (c && bs i && (F i).testBit f)
      · rw [if_neg (show ¬ false = true by decide), if_neg (show ¬ false = true by decide)]
        exact ⟨(_, _, _), rfl, rfl, rfl, g1⟩
      · rw [if_pos rfl, if_pos rfl]
        exact ⟨(_, _, _), rfl, rfl, rfl, g1⟩) 0 (-1, 0, y) FU (by omega) ⟨rfl, rfl, FY.rf y⟩ (FU_gt (by omega))
    obtain ⟨l3, l4, st⟩ := s
    obtain ⟨q1, q2, q3⟩ := hp
    dsimp only at q1 q2 q3
    subst q1 q2
    refine ⟨st, e.trans ?_, q3⟩
    show fX11_hands_24 (nI f) a2 _ _ _ st = _
    unfold fX11_hands_24
    rw [eT (q3.wf hw), q3.nT, e1, if_pos (yle _)]
    cases hq : hbV F bs f (2 ^ nT y) with
    | none => rw [if_neg (show ¬ 0 ≤ oI none by decide)]
    | some g =>
      have hg := hbV_lt F bs f _ g hq
      rw [if_pos (show 0 ≤ oI (some g) from (nI_le' (a := 0) (by omega) (by omega)).mpr (by omega))]
      show (if a2 = 0 then (fX11_members (nI g) st).bind _ else _) = _
      rw [Ymembers (by omega), bd]; rfl
  obtain ⟨x', p1, p2⟩ := hX
  obtain ⟨y', p3, p4⟩ := hY
  have hI := Inv_fr h p2 p4
  rw [p1, p3, bd]
  dsimp only
  cases hq : hbV F bs f (2 ^ nT y) with
  | none =>
    rw [if_pos (show oI none = -1 from rfl)]
    exact ⟨_, _, _, rfl, rfl, hI⟩
  | some g =>
    have hg := hbV_lt F bs f _ g hq
    rw [if_neg (show ¬ oI (some g) = -1 from nI_m1 (by omega))]
    show sP Inv (if a2 = 0 then (fJ6_bitCount_0f7a4 (nI g) x').bind _ else some (nI g, x')) _
    rw [bitC (by omega), bd, cnt5 (by omega)]
    exact sp_if (fun _ => ⟨_, _, _, rfl, rfl, hI⟩) (fun _ => ⟨_, _, _, rfl, rfl, hI⟩)
