/-! ===== take ===== -/
theorem rows_ok {x y x1 : gS} (h : Inv x y) {a F W WR DR S : Int32} (hF : isN F (nF y)) (ha : isN a (nT y)) {g : Nat → Int32} (hg : ∀ j, g j = if j = 0 then F else if j = 1 then a else if j = 2 then W else if j = 14 then WR else if j = 15 then DR else if j = 17 then S else y.1 28 j)
    (hx1 : ∀ j, x1.1 20 j = if j = 2 then F else if j = 3 then a else if j = 4 then W else if j = 6 then WR else if j = 7 then DR else if j = 9 then S else x.1 20 j) (h21 : ∀ j, x1.1 21 j = x.1 21 j) (h22 : ∀ j, x1.1 22 j = x.1 22 j) : rowOK y g ∧ stR x1 20 g := by
  obtain ⟨⟨o1, o2, o3, o4⟩, r0, r1, r2, r3, r4, r5, r6, r7, r8, r9⟩ := h.now
  refine ⟨⟨?_, ?_, ?_, ?_⟩, ?_, ?_, ?_, ?_, ?_, ?_, ?_, ?_, fun i hi => ?_, fun i hi => ?_⟩
  · rw [hg]; exact Or.inr hF
  · rw [hg]; exact Or.inr ha
  · rw [hg]; exact o3
  · rw [hg]; exact o4
  · rw [hg, hx1]; rfl
  · rw [hg, hx1]; rfl
  · rw [hg, hx1]; rfl
  · rw [hg, hx1]; exact r3
  · rw [hg, hx1]; rfl
  · rw [hg, hx1]; rfl
  · rw [hg, hx1]; exact r6
  · rw [hg, hx1]; rfl
  · rw [hg]
    show x1.1 21 i = _
    rw [h21, if_neg (by omega), if_neg (by omega), if_neg (by omega), if_neg (by omega), if_neg (by omega), if_neg (by omega)]
    exact r8 i hi
  · rw [hg]
    show x1.1 22 i = _
    rw [h22, if_neg (by omega), if_neg (by omega), if_neg (by omega), if_neg (by omega), if_neg (by omega), if_neg (by omega)]
    exact r9 i hi
def tkS (v : Int32) : Int32 := v * 137 + 71 - (v * 137 + 71) / 1000 * 1000
/-- figure, worn, wrongs, drops behind a taking -/
def tkV (y : gS) (k m : Nat) (S : Int32) : Int32 × Int32 × Int32 × Int32 :=
  if S - S / 100 * 100 < slI y k m then (if y.1 25 m = -1 then (0, 0, y.1 28 14, y.1 28 15 + 1) else (y.1 25 m, y.1 28 2, y.1 28 14 + 1, y.1 28 15)) else (y.1 22 m, y.1 28 2, y.1 28 14, y.1 28 15)
theorem tkV_N {y : gS} (hw : WFy y) {k m : Nat} (hm : m < nM y) (S : Int32) : isN (tkV y k m S).1 (nF y) := by
  have hF := nF9 hw
  have h0 := fr_lt hw hm
  unfold tkV
  split
  · split
    · exact isN.of (j := 0) (by omega) (by omega)
    · rcases (hw.2.1 m hm).2.2.2.2 with q | q
      · contradiction
      · exact q
  · exact (hw.2.1 m hm).2.1
theorem takeX {x y : gS} (h : Inv x y) {k m : Nat} (hk : k < nT y) (hm : m < nM y) : ∃ x1, fX5_takeOff 20 (x.2.2 0 9) (nI k) (nI m) x = some x1 ∧ x1.2.2 = x.2.2 ∧ (∀ k j, ¬ (scrX k j ∨ (20 ≤ k ∧ k ≤ 22)) → x1.1 k j = x.1 k j) ∧ (∀ j, x1.1 21 j = x.1 21 j) ∧ (∀ j, x1.1 22 j = x.1 22 j) ∧
    (∀ j, x1.1 20 j = if j = 2 then (tkV y k m (tkS (y.1 28 17))).1 else if j = 3 then nI k else if j = 4 then (tkV y k m (tkS (y.1 28 17))).2.1 else if j = 6 then (tkV y k m (tkS (y.1 28 17))).2.2.1 else if j = 7 then (tkV y k m (tkS (y.1 28 17))).2.2.2 else if j = 9 then tkS (y.1 28 17) else x.1 20 j) := by
  have hw := h.wf
  have hx := h.xt
  have hT := nT6 hw
  have hM := nM17 hw
  have hF := nF9 hw
  have ht := h.t4
  obtain ⟨ok, r0, r1, r2, r3, r4, r5, r6, r7, r8, r9⟩ := h.now
  obtain ⟨c1, c2, c3, c4, c5⟩ := hx.2.2.1 m hm
  unfold fX5_takeOff
  rw [Xmov hw hx.1 hm, bd]
  dsimp only
  rw [if_neg one0]
  obtain ⟨x0, s1, s2, s3⟩ := XslipOf ht hw hx h.xs r2 r3 r6 hk hm
  rw [s1, bd]
  dsimp only
  have s20 : ∀ j, x0.1 20 j = x.1 20 j := fun j => s3 20 j (by omega) (by omega)
  have s15 : x0.1 (x.2.2 0 9 + 1 + 10) m = y.1 25 m := (s3 _ m (by omega) (by omega)).trans c5
  have s12 : x0.1 (x.2.2 0 9 + 1 + 7) m = y.1 22 m := (s3 _ m (by omega) (by omega)).trans c2
  have sF : x0.1 (x.2.2 0 9) 12 = nI (nF y) := (s3 _ 12 (by omega) (by omega)).trans (xF hw hx)
  have seq : ∀ j, x0.1 21 j = x.1 21 j := fun j => s3 21 j (by omega) (by omega)
  have seq2 : ∀ j, x0.1 22 j = x.1 22 j := fun j => s3 22 j (by omega) (by omega)
  have hmF : 0 < nF y := by have := fr_lt hw hm; omega
  have hfr : ∀ k j, ¬ (scrX k j ∨ (20 ≤ k ∧ k ≤ 22)) → x0.1 k j = x.1 k j := fun k j hk => s3 k j (by unfold scrX at hk; omega) (by unfold scrX at hk; omega)
  have s22 : x0.2.2 = x.2.2 := by rw [s2]
  have e20 : x0.1 20 9 = y.1 28 17 := (s20 9).trans r7
  have w20 : ∀ v, (wi x0 20 9 v).1 20 9 = v := fun v => by rw [wi_1, if_pos ⟨rfl, rfl⟩]
  simp only [w20, e20]
  show ∃ x1, (if tkS (y.1 28 17) - tkS (y.1 28 17) / 100 * 100 < slI y k m then _ else _) = _ ∧ _
  have hS : y.1 28 17 * 137 + 71 - (y.1 28 17 * 137 + 71) / 1000 * 1000 = tkS (y.1 28 17) := rfl
  rw [hS]
  generalize tkS (y.1 28 17) = S
  have g16 : gI (nI m) 16 := gI_nI (by omega) (by decide)
  have cm : (nI m).toNatClampNeg = m := nI_clamp (by omega)
  rw [gc_p g16, gc_p g16, gc_p g16, cm]
  unfold tkV
  by_cases zs : S - S / 100 * 100 < slI y k m
  · rw [if_pos zs, if_pos zs, wi_ne (by omega), s15]
    by_cases zw : y.1 25 m = -1
    · rw [if_pos zw, if_pos zw]
      unfold fX5_drop
      rw [wi_ne (by omega), sF, if_neg (fun q => by have := (nI_le' (b := 0) (by omega) (by decide)).mp q; omega)]
      unfold fX5_drop_13 fX5_takeOff_100
      rw [bd]
      refine ⟨_, rfl, s22, fun k j hk => ?_, fun j => ?_, fun j => ?_, fun j => ?_⟩
      · rw [wi_1, if_neg (by omega), wi_1, if_neg (by omega), wi_1, if_neg (by omega), wi_1, if_neg (by omega), wi_1, if_neg (by omega)]; exact hfr k j hk
      · rw [wi_ne (by decide), wi_ne (by decide), wi_ne (by decide), wi_ne (by decide), wi_ne (by decide)]; exact seq j
      · rw [wi_ne (by decide), wi_ne (by decide), wi_ne (by decide), wi_ne (by decide), wi_ne (by decide)]; exact seq2 j
      · by_cases j3 : j = 3
        · subst j3; rw [wi_1, if_pos ⟨rfl, rfl⟩]; rfl
        by_cases j7 : j = 7
        · subst j7; rw [wi_1, if_neg (by omega), wi_1, if_pos ⟨rfl, rfl⟩, wi_1, if_neg (by omega), wi_1, if_neg (by omega), wi_1, if_neg (by omega), s20, r5]; rfl
        by_cases j4 : j = 4
        · subst j4; rw [wi_1, if_neg (by omega), wi_1, if_neg (by omega), wi_1, if_pos ⟨rfl, rfl⟩]; rfl
        by_cases j2 : j = 2
        · subst j2; rw [wi_1, if_neg (by omega), wi_1, if_neg (by omega), wi_1, if_neg (by omega), wi_1, if_pos ⟨rfl, rfl⟩]; rfl
        by_cases j9 : j = 9
        · subst j9; rw [wi_1, if_neg (by omega), wi_1, if_neg (by omega), wi_1, if_neg (by omega), wi_1, if_neg (by omega), wi_1, if_pos ⟨rfl, rfl⟩]; rfl
        rw [wi_1, if_neg (by omega), wi_1, if_neg (by omega), wi_1, if_neg (by omega), wi_1, if_neg (by omega), wi_1, if_neg (by omega), if_neg j2, if_neg j3, if_neg j4, s20]
        by_cases j6 : j = 6
        · subst j6; exact r4
        rw [if_neg j6, if_neg j7, if_neg j9]
    · rw [if_neg zw, if_neg zw]
      unfold fX5_takeOff_100
      refine ⟨_, rfl, s22, fun k j hk => ?_, fun j => ?_, fun j => ?_, fun j => ?_⟩
      · rw [wi_1, if_neg (by omega), wi_1, if_neg (by omega), wi_1, if_neg (by omega), wi_1, if_neg (by omega)]; exact hfr k j hk
      · rw [wi_ne (by decide), wi_ne (by decide), wi_ne (by decide), wi_ne (by decide)]; exact seq j
      · rw [wi_ne (by decide), wi_ne (by decide), wi_ne (by decide), wi_ne (by decide)]; exact seq2 j
      · by_cases j3 : j = 3
        · subst j3; rw [wi_1, if_pos ⟨rfl, rfl⟩]; rfl
        by_cases j6 : j = 6
        · subst j6; rw [wi_1, if_neg (by omega), wi_1, if_pos ⟨rfl, rfl⟩, wi_1, if_neg (by omega), wi_1, if_neg (by omega), s20, r4]; rfl
        by_cases j2 : j = 2
        · subst j2; rw [wi_1, if_neg (by omega), wi_1, if_neg (by omega), wi_1, if_pos ⟨rfl, rfl⟩]; rfl
        by_cases j9 : j = 9
        · subst j9; rw [wi_1, if_neg (by omega), wi_1, if_neg (by omega), wi_1, if_neg (by omega), wi_1, if_pos ⟨rfl, rfl⟩]; rfl
        rw [wi_1, if_neg (by omega), wi_1, if_neg (by omega), wi_1, if_neg (by omega), wi_1, if_neg (by omega), if_neg j2, if_neg j3, if_neg j6, if_neg j9, s20]
        by_cases j4 : j = 4
        · subst j4; exact r2
        rw [if_neg j4]
        by_cases j7 : j = 7
        · subst j7; exact r5
        rw [if_neg j7]
  · rw [if_neg zs, if_neg zs, wi_ne (by omega), s12]
    unfold fX5_takeOff_100
    refine ⟨_, rfl, s22, fun k j hk => ?_, fun j => ?_, fun j => ?_, fun j => ?_⟩
    · rw [wi_1, if_neg (by omega), wi_1, if_neg (by omega), wi_1, if_neg (by omega)]; exact hfr k j hk
    · rw [wi_ne (by decide), wi_ne (by decide), wi_ne (by decide)]; exact seq j
    · rw [wi_ne (by decide), wi_ne (by decide), wi_ne (by decide)]; exact seq2 j
    · by_cases j3 : j = 3
      · subst j3; rw [wi_1, if_pos ⟨rfl, rfl⟩]; rfl
      by_cases j2 : j = 2
      · subst j2; rw [wi_1, if_neg (by omega), wi_1, if_pos ⟨rfl, rfl⟩]; rfl
      by_cases j9 : j = 9
      · subst j9; rw [wi_1, if_neg (by omega), wi_1, if_neg (by omega), wi_1, if_pos ⟨rfl, rfl⟩]; rfl
      rw [wi_1, if_neg (by omega), wi_1, if_neg (by omega), wi_1, if_neg (by omega), if_neg j2, if_neg j3, if_neg j9, s20]
      by_cases j4 : j = 4
      · subst j4; exact r2
      rw [if_neg j4]
      by_cases j6 : j = 6
      · subst j6; exact r4
      rw [if_neg j6]
      by_cases j7 : j = 7
      · subst j7; exact r5
      rw [if_neg j7]
theorem t105 {y s : gS} (hw : WFy y) {k m : Nat} (hm : m < nM y) {S : Int32} (h28 : ∀ j, s.1 28 j = if j = 17 then S else y.1 28 j) (h22 : ∀ j, s.1 22 j = y.1 22 j) (h25 : ∀ j, s.1 25 j = y.1 25 j) :
    ∃ s', (if slI y k m ≤ S - S / 100 * 100 then fX11_take_105 (nI k) (nI m) 0 s else fX11_take_105 (nI k) (nI m) 1 s) = some ((tkV y k m S).1, s') ∧ (∀ a b, a ≠ 28 → s'.1 a b = s.1 a b) ∧
    (∀ j, s'.1 28 j = if j = 0 then (tkV y k m S).1 else if j = 1 then nI k else if j = 2 then (tkV y k m S).2.1 else if j = 14 then (tkV y k m S).2.2.1 else if j = 15 then (tkV y k m S).2.2.2 else if j = 17 then S else y.1 28 j) := by
  have hM := nM17 hw
  have hF := nF9 hw
  unfold fX11_take_105 fX11_take_185
  have g16 : gI (nI m) 16 := gI_nI (by omega) (by decide)
  have cm : (nI m).toNatClampNeg = m := nI_clamp (by omega)
  simp only [gc_p g16, cm, gc_p (show gI 0 18 by decide), gc_p (show gI 1 18 by decide), gc_p (show gI 2 18 by decide), gc_p (show gI 14 18 by decide), gc_p (show gI 15 18 by decide), show (0 : Int32).toNatClampNeg = 0 from rfl, show (1 : Int32).toNatClampNeg = 1 from rfl, show (2 : Int32).toNatClampNeg = 2 from rfl, show (14 : Int32).toNatClampNeg = 14 from rfl, show (15 : Int32).toNatClampNeg = 15 from rfl, h22, h25]
  unfold tkV
  by_cases zs : S - S / 100 * 100 < slI y k m
  · rw [if_neg (fun q => by rw [Int32.lt_iff_toInt_lt] at zs; rw [Int32.le_iff_toInt_le] at q; omega), if_pos zs, if_neg one0]
    by_cases zw : y.1 25 m = -1
    · rw [if_pos (by rw [zw]; decide), if_pos zw]
      refine ⟨_, by rw [wi_1, if_neg (by omega), wi_1, if_neg (by omega), wi_1, if_neg (by omega), wi_1, if_pos ⟨rfl, rfl⟩], fun a b hab => ?_, fun j => ?_⟩
      · rw [wi_ne hab, wi_ne hab, wi_ne hab, wi_ne hab]
      · by_cases j1 : j = 1
        · subst j1; rw [wi_1, if_pos ⟨rfl, rfl⟩]; rfl
        by_cases j15 : j = 15
        · subst j15; rw [wi_1, if_neg (by omega), wi_1, if_pos ⟨rfl, rfl⟩, wi_1, if_neg (by omega), wi_1, if_neg (by omega), h28]; rfl
        by_cases j2 : j = 2
        · subst j2; rw [wi_1, if_neg (by omega), wi_1, if_neg (by omega), wi_1, if_pos ⟨rfl, rfl⟩]; rfl
        by_cases j0 : j = 0
        · subst j0; rw [wi_1, if_neg (by omega), wi_1, if_neg (by omega), wi_1, if_neg (by omega), wi_1, if_pos ⟨rfl, rfl⟩]; rfl
        rw [wi_1, if_neg (by omega), wi_1, if_neg (by omega), wi_1, if_neg (by omega), wi_1, if_neg (by omega), h28, if_neg j0, if_neg j1, if_neg j2, if_neg j15]
        by_cases j14 : j = 14
        · subst j14; rfl
        rw [if_neg j14]
    · have hN : isN (y.1 25 m) (nF y) := by
        rcases (hw.2.1 m hm).2.2.2.2 with q | q
        · exact absurd q zw
        · exact q
      rw [if_neg (by have := hN.2; rw [hN.1]; exact nI_nn (by omega)), if_neg zw]
      refine ⟨_, by rw [wi_1, if_neg (by omega), wi_1, if_neg (by omega), wi_1, if_pos ⟨rfl, rfl⟩], fun a b hab => ?_, fun j => ?_⟩
      · rw [wi_ne hab, wi_ne hab, wi_ne hab]
      · by_cases j1 : j = 1
        · subst j1; rw [wi_1, if_pos ⟨rfl, rfl⟩]; rfl
        by_cases j14 : j = 14
        · subst j14; rw [wi_1, if_neg (by omega), wi_1, if_pos ⟨rfl, rfl⟩, wi_1, if_neg (by omega), h28]; rfl
        by_cases j0 : j = 0
        · subst j0; rw [wi_1, if_neg (by omega), wi_1, if_neg (by omega), wi_1, if_pos ⟨rfl, rfl⟩]; rfl
        rw [wi_1, if_neg (by omega), wi_1, if_neg (by omega), wi_1, if_neg (by omega), h28, if_neg j0, if_neg j1, if_neg j14]
        by_cases j2 : j = 2
        · subst j2; rfl
        rw [if_neg j2]
        by_cases j15 : j = 15
        · subst j15; rfl
        rw [if_neg j15]
  · rw [if_pos (by rw [Int32.lt_iff_toInt_lt] at zs; rw [Int32.le_iff_toInt_le]; omega), if_neg zs, if_pos trivial]
    refine ⟨_, by rw [wi_1, if_neg (by omega), wi_1, if_pos ⟨rfl, rfl⟩], fun a b hab => ?_, fun j => ?_⟩
    · rw [wi_ne hab, wi_ne hab]
    · by_cases j1 : j = 1
      · subst j1; rw [wi_1, if_pos ⟨rfl, rfl⟩]; rfl
      by_cases j0 : j = 0
      · subst j0; rw [wi_1, if_neg (by omega), wi_1, if_pos ⟨rfl, rfl⟩]; rfl
      rw [wi_1, if_neg (by omega), wi_1, if_neg (by omega), h28, if_neg j0, if_neg j1]
      by_cases j2 : j = 2
      · subst j2; rfl
      rw [if_neg j2]
      by_cases j14 : j = 14
      · subst j14; rfl
      rw [if_neg j14]
      by_cases j15 : j = 15
      · subst j15; rfl
      rw [if_neg j15]
theorem s_take (a1 a2 : Int32) : sOK Inv (fX10_take a1 a2) (fX11_take a1 a2) := by
  intro x y h
  have hw := h.wf
  have hx := h.xt
  have hT := nT6 hw
  have hM := nM17 hw
  have hF := nF9 hw
  have ht := h.t4
  obtain ⟨ok, r0, r1, -⟩ := h.now
  unfold fX10_take fX11_take fX10_canTake
  rw [gc_p h.told8]
  simp only [gc_p (show gI 0 18 by decide), gc_p (show gI 1 18 by decide), gc_p (show gI 17 18 by decide), show (0 : Int32).toNatClampNeg = 0 from rfl, show (1 : Int32).toNatClampNeg = 1 from rfl, show (17 : Int32).toNatClampNeg = 17 from rfl]
  rcases inR_dec a1 (y.1 0 49) with q | q
  rotate_left
  · rw [(isTri h.wf a1).2 q, (hasTri x _ a1).2 (by rw [h.xt.1.2.1]; exact q), bd, bd]
    exact ⟨_, _, _, rfl, rfl, h⟩
  rw [(isTri h.wf a1).1 q, (hasTri x _ a1).1 (by rw [h.xt.1.2.1]; exact q), bd, bd]
  dsimp only
  rw [if_neg one0, if_neg one0, gc_p h.told8]
  rcases inR_dec a2 (y.1 0 50) with q2 | q2
  rotate_left
  · rw [(isMov h.wf a2).2 q2, (hasMov x _ a2).2 (by rw [h.xt.1.2.2.1]; exact q2), bd, bd]
    dsimp only
    rw [if_pos rfl, if_pos rfl]
    by_cases z : a1 = y.1 28 1
    · rw [if_pos z]; exact ⟨_, _, _, rfl, rfl, h⟩
    · rw [if_neg z]; exact ⟨_, _, _, rfl, rfl, h⟩
  rw [(isMov h.wf a2).1 q2, (hasMov x _ a2).1 (by rw [h.xt.1.2.2.1]; exact q2), bd, bd]
  dsimp only
  rw [if_neg one0, if_neg one0, r1]
  by_cases z : a1 = y.1 28 1
  · rw [if_pos z, if_pos z]; exact ⟨_, _, _, rfl, rfl, h⟩
  rw [if_neg z, if_neg z, gc_p h.told8]
  obtain ⟨k, hk, rfl⟩ := inT h.wf q
  obtain ⟨m, hm, rfl⟩ := inM h.wf q2
  obtain ⟨c1, c2, c3, c4, c5⟩ := hx.2.2.1 m hm
  rw [gc_p (gI_nI (by omega) (by decide)), gc_p (gI_nI (by omega) (by decide)), nI_clamp (by omega), c1, r0, gc_p h.told8]
  by_cases z2 : y.1 21 m = y.1 28 0
  rotate_left
  · rw [if_neg z2, if_neg z2, bd]; exact ⟨_, _, _, rfl, rfl, h⟩
  rw [if_pos z2, if_pos z2, Xcan hw hx hk hm, Ycan hw hk hm, bd, bd]
  dsimp only
  cases hc : cnb y k m
  · rw [if_pos zero0', if_pos zero0', bd]; exact ⟨_, _, _, rfl, rfl, h⟩
  rw [if_neg one0', if_neg one0', bd]
  dsimp only
  rw [if_neg one0, gc_p h.told8]
  obtain ⟨x1, f1, f2, f3, f4, f5, f6⟩ := takeX h hk hm
  obtain ⟨x2, y1, e1, e2, e3, e4, e5⟩ := keep_act (x1 := x1) h f2 f3
  rw [f1, bd, e1, bd, e2, bd]
  have f17 : y1.1 28 17 = y.1 28 17 := e4 28 17 (by omega)
  rw [wi_1, if_pos ⟨rfl, rfl⟩, f17, show y.1 28 17 * 137 + 71 - (y.1 28 17 * 137 + 71) / 1000 * 1000 = tkS (y.1 28 17) from rfl]
  generalize tkS (y.1 28 17) = S at f6 ⊢
  have d1 : ∀ k j, ¬ ((k = 0 ∧ (j = 58 ∨ j = 59)) ∨ k = 30 ∨ (k = 28 ∧ j = 17)) → (wi y1 28 17 S).1 k j = y.1 k j := fun k j hk => by
    rw [wi_1, if_neg (by omega)]; exact e4 k j (by omega)
  have w1 : WFy (wi y1 28 17 S) := fr_wf (x := x) (x' := x) (CX := fun _ _ => False) (fun _ _ _ => rfl) d1 (fun _ _ h => h.elim) (by intros; omega) hw
  have xs1 : XS x (x.2.2 0 9) (wi y1 28 17 S) := fr_xs (x := x) (x' := x) (CX := fun _ _ => False) (fun _ _ _ => rfl) d1 (fun _ _ _ h => h) (by intros; omega) ht h.xs
  have nT1 : nT (wi y1 28 17 S) = nT y := by show vN _ = vN _; rw [d1 0 49 (by omega)]
  have nM1 : nM (wi y1 28 17 S) = nM y := by show vN _ = vN _; rw [d1 0 50 (by omega)]
  obtain ⟨y3, g1, g2, g3⟩ := YslipOf w1 xs1 (k := k) (m := m) (by rw [nT1]; exact hk) (by rw [nM1]; exact hm)
  have sleq : slI (wi y1 28 17 S) k m = slI y k m := slI_eq (fun j => d1 5 j (by omega)) (fun j => d1 6 j (by omega)) (fun j => d1 12 j (by omega)) (fun j => d1 24 j (by omega)) (d1 0 18 (by omega)) (d1 28 2 (by omega)) (d1 28 3 (by omega)) (d1 28 16 (by omega)) k m
  rw [g1, bd]
  dsimp only
  rw [sleq]
  obtain ⟨y4, t1, t2, t3⟩ := t105 hw (k := k) hm (s := y3) (S := S) (fun j => by
      rw [g3 28 j (by decide) (by decide), wi_1]
      by_cases zz : j = 17
      · rw [if_pos ⟨rfl, zz⟩, if_pos zz]
      · rw [if_neg (fun q => zz q.2), if_neg zz]; exact e4 28 j (by omega)) (fun j => by rw [g3 22 j (by decide) (by decide)]; exact d1 22 j (by omega)) (fun j => by rw [g3 25 j (by decide) (by decide)]; exact d1 25 j (by omega))
  obtain ⟨ro, rs⟩ := rows_ok h (tkV_N hw hm S) (isN.of hk (by omega)) t3 f6 f4 f5
  have hI := e5 y4 (fun k j hk => by
      rw [t2 k j (by omega), g3 k j (by unfold scrY at hk; omega) (by unfold scrY at hk; omega), wi_1, if_neg (by omega)]) ro rs
  rw [t1]
  refine ⟨_, _, _, rfl, ?_, hI⟩
  rw [e3 20 2 (by omega), f6]; rfl
