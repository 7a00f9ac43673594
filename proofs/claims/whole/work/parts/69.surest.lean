/-! ===== surest ===== -/
theorem YS_s {y st0 st : gS} {o b g f0 n : Nat} {mo mn mo' mn' : Int32} (h : YS y o b g f0 n mo mn st0) (ha : YA y o b g f0 n (100 ^ (4 - n)) ((llV y o b g f0 n).map Prod.snd) mo mn st0 (nM y ^ n) mo' mn' st) : YS y o b g f0 (n + 1) mo' mn' st := by
  rcases ha with ⟨u1, u2, u3, u4⟩ | ⟨r0, v0, u1, u2, u3, u4, u5, u6, u7, u8⟩
  · have hl : llV y o b g f0 (n + 1) = llV y o b g f0 n := by
      rw [llV]
      cases hB : bsg y o b g n 0 f0 with
      | none => rfl
      | some w =>
        obtain ⟨r', p1, p2⟩ := bsg_ex hB
        obtain ⟨q, hq, hle⟩ := u1 r' w p1 p2
        cases hL : llV y o b g f0 n with
        | none => rw [hL] at hq; cases hq
        | some p =>
          rw [hL] at hq
          have hq : p.2 = q := Option.some.inj hq
          dsimp only
          rw [if_neg (by omega)]
    rcases h with ⟨p1, p2⟩ | ⟨l, q, w, r0, p1, p2, p3, p4, p5, p6⟩
    · exact Or.inl ⟨by rw [hl]; exact p1, u2.trans p2⟩
    · exact Or.inr ⟨l, q, w, r0, by rw [hl]; exact p1, u2.trans p2, u3.trans p3, p4, p5, fun j hj => (u4 j).trans (p6 j hj)⟩
  · right
    obtain ⟨w, w1, w2⟩ := pv_le u2 u1
    obtain ⟨r', g1, g2⟩ := bsg_ex w1
    have hw : w = v0 := by have := u7 r' w g1 g2; omega
    subst hw
    refine ⟨n, w * 100 ^ (4 - n), w, r0, ?_, u4, u5, w1, ⟨u1, ⟨w, u2, Nat.one_mul w⟩, fun r' v hr hv => ?_⟩, u6⟩
    · rw [llV, w1]
      dsimp only
      cases hL : llV y o b g f0 n with
      | none => rfl
      | some p =>
        rw [hL] at u3
        have := u3 p.2 rfl
        dsimp only
        rw [if_pos this]
    · have := u8 r' v hr hv
      rw [Nat.one_mul]; omega
theorem YS_mo {y st : gS} {o b g f0 n : Nat} {mo mn : Int32} (h : YS y o b g f0 n mo mn st) : mo = oI ((llV y o b g f0 n).map Prod.snd) := by
  rcases h with ⟨p1, p2⟩ | ⟨l, q, w, r0, p1, p2, -⟩
  · rw [p1, p2]; rfl
  · rw [p1, p2]; rfl
theorem Ysurest {x y : gS} (h : Inv x y) {o b g f0 : Nat} (ho : o < nT y) (hbT : b < nT y) (hb : y.1 28 1 = nI b) (h28 : y.1 28 0 = nI f0) (hf0 : f0 < nF y) (hg : g < nF y) (a3 : Int32) :
    ∃ mo mn st, hX11_surest_41 (nI o) (nI g) a3 FU (-1) 0 0 y = (if 0 ≤ mo then ((fX11_power 100 4 (wi st 0 62 mn)).bind fun q41_1 => ((fX11_divisor q41_1.1 mo q41_1.2).bind fun q41_2 => (if a3 = 0 then (gc (¬ q41_2.1 = 0) (some (mo / q41_2.1, q41_2.2))) else (gc (¬ q41_2.1 = 0) (some (q41_1.1 / q41_2.1, q41_2.2)))))) else (some ((-1), st))) ∧ FYw y st ∧ st.1 0 62 = y.1 0 62 ∧ YS y o b g f0 5 mo mn st := by
  have hw := h.wf
  have hM := nM17 hw
  obtain ⟨s, _, e, hp⟩ := lp (fun k (s : Int32 × Int32 × Int32 × gS) => hX11_surest_41 (nI o) (nI g) a3 k s.1 s.2.1 s.2.2.1 s.2.2.2) 5 (fun n s => s.2.2.1 = nI n ∧ FYw y s.2.2.2 ∧ s.2.2.2.1 0 62 = y.1 0 62 ∧ YS y o b g f0 n s.1 s.2.1 s.2.2.2) (by
    intro k n ⟨mo, mn, l6, st1⟩ hn ⟨q1, q2, q6, q3⟩
    dsimp only at q1 q2 q6 q3
    subst q1
    show ∃ s', fX11_surest_41 (nI o) (nI g) a3 (hX11_surest_41 (nI o) (nI g) a3 k) mo mn (nI n) st1 = _ ∧ _
    unfold fX11_surest_41
    have e50 : st1.1 0 50 = nI (nM y) := by rw [eM (q2.wf hw), q2.nM]
    rw [if_neg (show ¬ 4 < nI n from fun q => by have := (nI_lt' (a := 4) (by decide) (by omega)).mp q; omega), e50, Ypower (by omega), bd]
    dsimp only
    have emo := YS_mo q3
    obtain ⟨mo', mn', st', g1, g2, g6, g3⟩ := Yrows h ho hbT hb h28 hf0 hg (n := n) (by omega) q2 (q0 := (llV y o b g f0 n).map Prod.snd) (fun q hq => by
      cases hL : llV y o b g f0 n with
      | none => rw [hL] at hq; cases hq
      | some p =>
        rw [hL] at hq
        rw [← show p.2 = q from Option.some.inj hq]
        exact llV_le hL (by omega)) mn a3 (hX11_surest_41 (nI o) (nI g) a3 k)
    rw [← emo] at g1 g3
    rw [g1, nI_s]
    exact ⟨(_, _, _, _), rfl, rfl, g2, g6.trans q6, YS_s q3 g3⟩) 0 (-1, 0, 0, y) FU (by omega) ⟨rfl, FYw.rf y, rfl, Or.inl ⟨rfl, rfl⟩⟩ (FU_gt (by omega))
  obtain ⟨mo, mn, l6, s2⟩ := s
  obtain ⟨q1, q2, q6, q3⟩ := hp
  dsimp only at q1 q2 q6 q3
  subst q1
  refine ⟨mo, mn, s2, e.trans ?_, q2, q6, q3⟩
  show fX11_surest_41 (nI o) (nI g) a3 _ mo mn (nI 5) s2 = _
  unfold fX11_surest_41
  rw [if_pos (show (4 : Int32) < nI 5 by decide)]
theorem Xlikeliest {x y : gS} (h : Inv x y) (h7 : x.1 150 7 = nI 0) {o b f g : Nat} (ho : o < nT y) (hb : b < nT y) (hf : f < nF y) (hg : g < nF y) (h3 : x.1 20 3 = nI b) (h2 : x.1 20 2 = nI f) :
    (llV y o b g f 5 = none → ∃ x', fX9_likeliest (x.2.2 0 9) 20 (nI o) (nI g) x = some (0, x') ∧ FX x x') ∧ ∀ l q w r, llV y o b g f 5 = some (l, q) → bsg y o b g l 0 f = some w → fR y o b g l 0 f 1 w r → ∃ x', fX9_likeliest (x.2.2 0 9) 20 (nI o) (nI g) x = some (1, x') ∧ FXw x x' ∧ x'.1 150 7 = nI l ∧ (∀ j, j < l → x'.1 152 j = nI (dg (nM y) l r j)) ∧ x'.1 150 8 = nI (w / Nat.gcd (100 ^ l) w) ∧ x'.1 150 9 = nI (100 ^ l / Nat.gcd (100 ^ l) w) := by
  have hw := h.wf
  have hF := nF9 hw
  unfold fX9_likeliest
  rw [h2, Xfig hw h.xt.1 hf, bd]
  dsimp only
  rw [if_neg one0, Xfig hw h.xt.1 hg, bd]
  dsimp only
  obtain ⟨x1, s1, s2, s3⟩ := Xsit h (o := o) h3
  rw [if_neg one0, s1, bd]
  obtain ⟨x2, m1, m2, m3, m4⟩ := Xweigh h ho hb hg s2 s3
  have e20 : x2.1 20 2 = nI f := (m2.2 20 2 (by unfold scrX; omega)).trans h2
  have e150 : x2.1 150 7 = nI 0 := (m2.2 150 7 (by unfold scrX; omega)).trans h7
  rw [m1, bd, e20, XlikeL (x := x) m4 (by omega), bd]
  dsimp only
  refine ⟨fun hn => ?_, fun l q w r hn hB hR => ?_⟩
  · rw [hn, if_pos (show oI ((none : Option (Nat × Nat)).map Prod.fst) = -1 from rfl)]
    exact ⟨x2, rfl, m2⟩
  · have hl5 : l < 5 := (llV_s hn).1
    have hwl := bsg_le hB
    have h8 := p100 (n := l) (by omega)
    have h100 : 0 < 100 ^ l := Nat.pow_pos (by decide)
    rw [hn, show oI ((some (l, q)).map Prod.fst) = nI l from rfl, if_neg (nI_m1 (by omega)), gc_p (gI_nI hl5 (by decide)), e20, gc_p (gI_nI (show f < 16 by omega) (by decide)), nI_clamp (show l < 2 ^ 31 by omega), nI_clamp (show f < 2 ^ 31 by omega)]
    have hrow : x2.1 (159 + 1 + l) f = nI w := by
      have := m4 l 0 f (by omega) (by decide) (by omega)
      rw [show 8 * 0 + f = f by omega, hB] at this
      exact this
    unfold gl
    dsimp only
    have hu : Up y o b g l 0 f 1 w := fun r v hr hv => by
      obtain ⟨w', p1, p2⟩ := pv_le hv hr
      rw [hB] at p1
      rw [Nat.one_mul, Option.some.inj p1]; exact p2
    obtain ⟨x3, l1, l2, l3, l4⟩ := XlayL h ho hb m3 m4 e150 hf (by omega) (by omega) hR hu
    have hg0 : 0 < Nat.gcd (100 ^ l) w := Nat.gcd_pos_of_pos_left _ h100
    have hgl : Nat.gcd (100 ^ l) w ≤ 100 ^ l := Nat.gcd_le_left _ h100
    have hnz : ¬ nI (Nat.gcd (100 ^ l) w) = 0 := fun q => by have := (nI_eq0 (by omega)).mp q; omega
    rw [hrow, l1, bd, Xpower (by omega), bd]
    dsimp only
    rw [Xcommon (by omega) h8 h100, bd]
    dsimp only
    rw [gc_p hnz, gc_p hnz, show nI w / nI (Nat.gcd (100 ^ l) w) = nI (w / Nat.gcd (100 ^ l) w) from pk_div (by omega) (by omega) (by omega), show nI (100 ^ l) / nI (Nat.gcd (100 ^ l) w) = nI (100 ^ l / Nat.gcd (100 ^ l) w) from pk_div (by omega) (by omega) (by omega)]
    refine ⟨_, rfl, (l2.tr (FXw_wi (by unfold scrX; omega))).tr (FXw_wi (by unfold scrX; omega)), ?_, fun j hj => ?_, ?_, ?_⟩
    · rw [wi_1, if_neg (by omega), wi_1, if_neg (by omega)]; exact l3
    · rw [wi_ne (by decide), wi_ne (by decide)]; exact l4 j hj
    · rw [wi_1, if_neg (by omega), wi_1, if_pos ⟨rfl, rfl⟩]
    · rw [wi_1, if_pos ⟨rfl, rfl⟩]
theorem s_surest (a1 a2 a3 : Int32) : sOK Inv (fX10_surest a1 a2 a3) (fX11_surest a1 a2 a3) := by
  intro x0 y0 h0
  unfold fX10_surest fX11_surest fX9_clear
  rw [bd]
  have h := Inv_clear h0
  have h7 : (wi x0 150 7 0).1 150 7 = nI 0 := by rw [wi_1, if_pos ⟨rfl, rfl⟩]; rfl
  have h62 : (wi y0 0 62 0).1 0 62 = nI 0 := by rw [wi_1, if_pos ⟨rfl, rfl⟩]; rfl
  generalize wi x0 150 7 0 = x at h h7 ⊢
  generalize wi y0 0 62 0 = y at h h62 ⊢
  have hw := h.wf
  have hF := nF9 hw
  rcases other_cases h a1 with ⟨e1, e2⟩ | ⟨o, b, ho, hb, rfl, hy, hx3, e1, e2⟩
  · rw [e1, e2, bd, bd]; exact ⟨_, _, _, rfl, rfl, h⟩
  rw [e1, e2, bd, bd]
  dsimp only
  rw [if_neg one0, if_neg one0, gc_p h.told8]
  rcases inR_dec a2 (y.1 0 48) with q | q
  rotate_left
  · rw [(isFig hw a2).2 q, (hasFig x _ a2).2 (by rw [h.xt.1.1]; exact q), bd, bd]
    exact ⟨_, _, _, rfl, rfl, h⟩
  rw [(isFig hw a2).1 q, (hasFig x _ a2).1 (by rw [h.xt.1.1]; exact q), bd, bd]
  dsimp only
  obtain ⟨g, hg, rfl⟩ := inF hw q
  rw [if_neg one0, if_neg one0, isIn_c, bd]
  dsimp only
  have hi : 1 < a3 ↔ ¬ a3 ≤ 1 := by
    rw [Int32.lt_iff_toInt_lt, Int32.le_iff_toInt_le]; omega
  by_cases h1 : a3 < 0
  · rw [if_pos h1, if_neg (show ¬ (¬ a3 < 0 ∧ ¬ 1 < a3) from fun q => q.1 h1)]
    exact ⟨_, _, _, rfl, rfl, h⟩
  rw [if_neg h1]
  by_cases h2 : a3 ≤ 1
  rotate_left
  · rw [if_neg h2, if_neg (show ¬ (¬ a3 < 0 ∧ ¬ 1 < a3) from fun q => q.2 (hi.mpr h2))]
    exact ⟨_, _, _, rfl, rfl, h⟩
  rw [if_pos h2, if_pos (show (¬ a3 < 0 ∧ ¬ 1 < a3) from ⟨h1, fun z => hi.mp z h2⟩), if_neg one0, gc_p h.told8]
  obtain ⟨f, hf, f1, f2⟩ := now_fig h (by omega)
  obtain ⟨X1, X2⟩ := Xlikeliest h h7 ho hb hf hg hx3 f2
  obtain ⟨mo, mn, y1, g1, g2, g6, g3⟩ := Ysurest h ho hb hy f1 hf hg a3
  rw [g1]
  rcases g3 with ⟨p1, rfl⟩ | ⟨l, q, w, r, p1, rfl, rfl, p4, p5, p6⟩
  · obtain ⟨x', u1, u2⟩ := X1 p1
    rw [u1, bd, if_neg (show ¬ (0 : Int32) ≤ -1 by decide)]
    refine ⟨_, _, _, rfl, rfl, Inv_lie h u2.1 u2.w.2 g2 ⟨?_, ?_, fun i hi => ?_⟩⟩
    · rw [g6, h62]; exact isN.of (j := 0) (by decide) (by decide)
    · rw [g6, h62, u2.2 150 7 (by unfold scrX; omega), h7]
    · rw [g6, h62] at hi
      exact absurd hi (by show ¬ i < 0; omega)
  · obtain ⟨x', u1, u2, u3, u4, u5, u6⟩ := X2 l q w r p1 p4 p5
    obtain ⟨q1, w', q2, q3⟩ := llV_s p1
    have hl5 : l < 5 := q1
    have q2 : bsg y o b g l 0 f = some w' := q2
    have q3 : q = w' * 100 ^ (4 - l) := q3
    rw [p4] at q2
    rw [← Option.some.inj q2] at q3
    have hq8 := llV_le p1 (by decide)
    have hq8 : q ≤ 100000000 := hq8
    have hwl := bsg_le p4
    have h8 := p100 (n := l) (by omega)
    have h100 : 0 < 100 ^ l := Nat.pow_pos (by decide)
    have hc0 : 0 < 100 ^ (4 - l) := Nat.pow_pos (by decide)
    have hg0 : 0 < Nat.gcd (100 ^ l) w := Nat.gcd_pos_of_pos_left _ h100
    have e108 : 100 ^ 4 = 100 ^ l * 100 ^ (4 - l) := by rw [← Nat.pow_add, show l + (4 - l) = 4 by omega]
    have hgc : Nat.gcd (100 ^ 4) q = Nat.gcd (100 ^ l) w * 100 ^ (4 - l) := by rw [e108, q3, Nat.gcd_mul_right]
    have d1 : q / Nat.gcd (100 ^ 4) q = w / Nat.gcd (100 ^ l) w := by rw [hgc, q3, Nat.mul_div_mul_right _ _ hc0]
    have d2 : 100 ^ 4 / Nat.gcd (100 ^ 4) q = 100 ^ l / Nat.gcd (100 ^ l) w := by rw [hgc, e108, Nat.mul_div_mul_right _ _ hc0]
    have hG0 : 0 < Nat.gcd (100 ^ 4) q := Nat.gcd_pos_of_pos_left _ (by decide)
    have hGl : Nat.gcd (100 ^ 4) q ≤ 100 ^ 4 := Nat.gcd_le_left _ (by decide)
    have e4 : (100 : Nat) ^ 4 = 100000000 := by decide
    have hnz : ¬ nI (Nat.gcd (100 ^ 4) q) = 0 := fun z => by have := (nI_eq0 (by omega)).mp z; omega
    have hpw : fX11_power 100 4 (wi y1 0 62 (nI l)) = some (nI (100 ^ 4), wi y1 0 62 (nI l)) := Ypower (m := 100) (n := 4) (by decide) _
    rw [u1, bd, if_pos (show (0 : Int32) ≤ nI q from (nI_le' (a := 0) (by decide) (by omega)).mpr (by omega)), hpw, bd]
    dsimp only
    rw [Ydiv hq8 (by omega), bd]
    dsimp only
    rw [if_neg one0, gc_p hnz, gc_p hnz, show nI q / nI (Nat.gcd (100 ^ 4) q) = nI (q / Nat.gcd (100 ^ 4) q) from pk_div (by omega) (by omega) (by omega), show nI (100 ^ 4) / nI (Nat.gcd (100 ^ 4) q) = nI (100 ^ 4 / Nat.gcd (100 ^ 4) q) from pk_div (by omega) (by omega) (by omega), d1, d2, u5, u6]
    have hI : Inv x' (wi y1 0 62 (nI l)) := by
      refine Inv_lie h u2.1 u2.2 (g2.tr (FYw_wi (by omega))) ⟨?_, ?_, fun i hi => ?_⟩
      · rw [wi_1, if_pos ⟨rfl, rfl⟩]; exact isN.of (by omega) (by decide)
      · rw [wi_1, if_pos ⟨rfl, rfl⟩]; exact u3
      · rw [wi_1, if_pos ⟨rfl, rfl⟩, vN_nI (by omega)] at hi
        rw [wi_ne (by decide), u4 i hi, p6 i hi]
    exact sp_if (fun _ => ⟨_, _, _, rfl, rfl, hI⟩) (fun _ => ⟨_, _, _, rfl, rfl, hI⟩)
