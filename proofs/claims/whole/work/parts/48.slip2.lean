def askV (y : gS) (k m : Nat) : Nat → Int32 := fun i => if i = 0 then y.1 24 m else if i = 1 then y.1 12 k else if i = 2 then y.1 28 2 else if i = 3 then y.1 28 3 else y.1 28 16
def clp (v : Int32) : Int32 := if 0 < (if v < 100 then v else 100) then (if v < 100 then v else 100) else 0
def slI (y : gS) (k m : Nat) : Int32 := clp (if vN (y.1 0 18) = 0 then 10 * y.1 24 m - 5 * y.1 12 k else ev y (askV y k m) (vN (y.1 0 18)) 0)
theorem clp_N (v : Int32) : isN (clp v) 101 := by
  unfold clp
  by_cases h : v < 100
  · rw [if_pos h]
    by_cases h0 : 0 < v
    · rw [if_pos h0]
      refine rng (u := 100) (by decide) (fun z => ?_) (fun z => ?_)
      · rw [Int32.lt_iff_toInt_lt] at *; omega
      · rw [show nI 100 = 100 from rfl] at z
        rw [Int32.lt_iff_toInt_lt] at *; omega
    · rw [if_neg h0]; exact isN.of (j := 0) (by decide) (by decide)
  · rw [if_neg h, if_pos (by decide)]
    exact isN.of (j := 100) (by decide) (by decide)
theorem clp_y (v : Int32) : clp v = if 0 ≤ v then (if v ≤ 100 then v else 100) else 0 := by
  unfold clp
  have e0 : (0 : Int32).toInt = 0 := rfl
  have e100 : (100 : Int32).toInt = 100 := rfl
  by_cases h : v < 100
  · rw [if_pos h]
    have h1 : v ≤ 100 := by rw [Int32.lt_iff_toInt_lt] at h; rw [Int32.le_iff_toInt_le]; omega
    by_cases h0 : 0 < v
    · rw [if_pos h0, if_pos (by rw [Int32.lt_iff_toInt_lt] at h0; rw [Int32.le_iff_toInt_le]; omega), if_pos h1]
    · rw [if_neg h0]
      by_cases h2 : 0 ≤ v
      · rw [if_pos h2, if_pos h1]
        have : v.toInt = 0 := by rw [Int32.le_iff_toInt_le] at h2; rw [Int32.lt_iff_toInt_lt] at h0; omega
        exact (Int32.toInt_inj.mp (this.trans e0.symm)).symm
      · rw [if_neg h2]
  · rw [if_neg h, if_pos (by decide), if_pos (by rw [Int32.lt_iff_toInt_lt] at h; rw [Int32.le_iff_toInt_le]; omega)]
    by_cases h1 : v ≤ 100
    · rw [if_pos h1]
      have : v.toInt = 100 := by rw [Int32.le_iff_toInt_le] at h1; rw [Int32.lt_iff_toInt_lt] at h; omega
      exact (Int32.toInt_inj.mp (this.trans e100.symm)).symm
    · rw [if_neg h1]
theorem slI_N (y : gS) (k m : Nat) : isN (slI y k m) 101 := clp_N _
section SL
variable {x y : gS} {t : Nat}
theorem Xvalue (ht : t = 4 ∨ t = 194) (h : XS x t y) (h0 : vN (y.1 0 18) ≠ 0) {A : Nat → Int32} {a1 a2 : Int32} (e0 : A 0 = a1) (e1 : A 1 = a2) (e2 : A 2 = x.1 20 4) (e3 : A 3 = x.1 20 5) (e4 : A 4 = x.1 20 8) :
    ∃ x', fX0_value (t + 1 + 11) a1 a2 20 x = some (ev y A (vN (y.1 0 18)) 0, x') ∧ x'.2 = x.2 ∧ ∀ k j, ¬ (k = t + 12 ∧ j = 4) → k ≠ t + 14 → x'.1 k j = x.1 k j := by
  obtain ⟨h1, h2, h3, h4, h5, h6, h7, h8⟩ := h
  have hl := h1.2
  have hc : x.1 (t + 12) 2 = nI (vN (y.1 0 18)) := h3.trans h1.1
  unfold fX0_value
  obtain ⟨s, m, e, hp⟩ := lp (fun n (s : Int32 × gS) => hX0_value_8 (t + 1 + 11) a1 a2 20 n s.1 s.2) (vN (y.1 0 18)) (fun i s => s.1 = nI i ∧ ∃ d, dpt y i = some d ∧ XV x (t + 12) (ev y A i) d s.2) (by
    intro n i s hi ⟨hs, d, hd, hv⟩
    obtain ⟨d', hd', hl'⟩ := h7 (i + 1) (by omega)
    obtain ⟨d2, hd2, hl2⟩ := h7 i (by omega)
    rw [hd] at hd2
    have : d = d2 := Option.some.inj hd2
    obtain ⟨st', p1, p2⟩ := XVstep (u := t + 12) (by omega) hv hi (by omega) hc (by omega) (h6 i hi) hd hd' (by omega) hl' e0 e1 e2 e3 e4
    refine ⟨(nI (i + 1), st'), ?_, rfl, d', hd', p1⟩
    show fX0_value_8 (t + 12) a1 a2 20 (hX0_value_8 (t + 12) a1 a2 20 n) s.1 s.2 = _
    rw [hs, p2]) 0 (0, wi x (t + 1 + 11) 4 0) FU (by omega) ⟨rfl, 0, rfl, rfl, fun k j hk _ => by rw [wi_1, if_neg hk], by rw [wi_1, if_pos ⟨rfl, rfl⟩]; rfl, fun j hj => absurd hj (by omega)⟩ (FU_gt (by omega))
  obtain ⟨hs, d, hd, hv⟩ := hp
  rw [h8 h0] at hd
  have : 1 = d := Option.some.inj hd
  subst this
  obtain ⟨st', p1, p2⟩ := XVpop hv (by decide)
  refine ⟨st', e.trans ?_, p2.1, fun k j h1 h2 => p2.2.1 k j h1 h2⟩
  show fX0_value_8 (t + 12) _ _ _ _ s.1 s.2 = _
  unfold fX0_value_8 fX0_value_221
  rw [hv.2.1 (t + 12) 2 (by omega) (by omega), hc, hs, if_pos (yle _), p1, bd]
theorem XslipOf (ht : t = 4 ∨ t = 194) (hw : WFy y) (hx : XT x t y) (h : XS x t y) (n4 : x.1 20 4 = y.1 28 2) (n5 : x.1 20 5 = y.1 28 3) (n8 : x.1 20 8 = y.1 28 16) {k m : Nat} (hk : k < nT y) (hm : m < nM y) :
    ∃ x', fX8_slipOf t (nI k) (nI m) 20 x = some (slI y k m, x') ∧ x'.2 = x.2 ∧ ∀ k j, ¬ (k = t + 12 ∧ j = 4) → k ≠ t + 14 → x'.1 k j = x.1 k j := by
  have hT := nT6 hw
  have hM := nM17 hw
  have e1 := (hx.2.2.1 m hm).2.2.2.1
  have e2 := (hx.2.2.2 k hk).1
  obtain ⟨h1, h2, h3, h4, h5, -⟩ := id h
  have u31 := h2.2
  unfold fX8_slipOf fX8_slipOf_69 fX0_isTold
  rw [Xtri hw hx.1 hk, bd]
  dsimp only
  rw [if_neg one0, Xmov hw hx.1 hm, bd]
  dsimp only
  have eu : x.1 (t + 1 + 11) 3 = nI (vN (y.1 0 21)) := h4.trans h2.1
  rw [if_neg one0, eu]
  unfold slI
  by_cases z : vN (y.1 0 18) = 0
  · have z2 := h5.mpr z
    rw [z2, if_pos (by decide), bd]
    dsimp only
    rw [if_pos rfl, gc_p (gI_nI (by omega) (by decide)), gc_p (gI_nI (by omega) (by decide)), nI_clamp (by omega), nI_clamp (by omega), e1, e2, if_pos z]
    exact ⟨x, rfl, rfl, fun _ _ _ _ => rfl⟩
  · have z2 : vN (y.1 0 21) ≠ 0 := fun q => z (h5.mp q)
    rw [if_neg (fun q => by have := (nI_le' (b := 0) (by omega) (by decide)).mp q; omega), bd]
    dsimp only
    rw [if_neg one0, gc_p (gI_nI (by omega) (by decide)), gc_p (gI_nI (by omega) (by decide)), nI_clamp (by omega), nI_clamp (by omega), e1, e2, if_neg z]
    obtain ⟨x', p1, p2, p3⟩ := Xvalue ht h z (A := askV y k m) (a1 := y.1 24 m) (a2 := y.1 12 k) rfl rfl n4.symm n5.symm n8.symm
    rw [p1, bd]
    exact ⟨x', rfl, p2, p3⟩
theorem YslipOf (hw : WFy y) (h : XS x t y) {k m : Nat} (hk : k < nT y) (hm : m < nM y) :
    ∃ y', fX11_slipOf (nI k) (nI m) y = some (slI y k m, y') ∧ y'.2 = y.2 ∧ ∀ k j, k ≠ 8 → k ≠ 9 → y'.1 k j = y.1 k j := by
  have hT := nT6 hw
  have hM := nM17 hw
  obtain ⟨h1, h2, h3, h4, h5, h6, h7, h8⟩ := id h
  have hl := h1.2
  unfold fX11_slipOf
  have ne : ∀ (st : gS) j k b v, k ≠ 9 → (wi st 9 j v).1 k b = st.1 k b := fun st j k b v hk => wi_ne hk
  simp only [ne _ _ 12 _ _ (by decide), ne _ _ 24 _ _ (by decide), ne _ _ 28 _ _ (by decide), gc_p (gI_nI (show m < 16 by omega) (by decide)), gc_p (gI_nI (show k < 5 by omega) (by decide)), nI_clamp (show m < 2 ^ 31 by omega), nI_clamp (show k < 2 ^ 31 by omega), gc_p (show gI 0 5 by decide), gc_p (show gI 1 5 by decide), gc_p (show gI 2 5 by decide), gc_p (show gI 3 5 by decide), gc_p (show gI 4 5 by decide), gc_p (show gI 2 18 by decide), gc_p (show gI 3 18 by decide), gc_p (show gI 16 18 by decide), show (0 : Int32).toNatClampNeg = 0 from rfl, show (1 : Int32).toNatClampNeg = 1 from rfl, show (2 : Int32).toNatClampNeg = 2 from rfl, show (3 : Int32).toNatClampNeg = 3 from rfl, show (4 : Int32).toNatClampNeg = 4 from rfl, show (16 : Int32).toNatClampNeg = 16 from rfl]
  unfold fX11_slipped
  rw [gc_p (by decide)]
  generalize hy1 : wi (wi (wi (wi (wi y 9 0 (y.1 24 m)) 9 1 (y.1 12 k)) 9 2 (y.1 28 2)) 9 3 (y.1 28 3)) 9 4 (y.1 28 16) = y1
  generalize ho : 10 * y.1 24 m - 5 * y.1 12 k = o
  have y1a : ∀ i, i < 5 → y1.1 9 i = askV y k m i := by
    intro i hi
    rw [← hy1]
    match i, hi with
    | 0, _ => rfl
    | 1, _ => rfl
    | 2, _ => rfl
    | 3, _ => rfl
    | 4, _ => rfl
    | n + 5, h => exact absurd h (by omega)
  have y1n : ∀ k j, k ≠ 9 → y1.1 k j = y.1 k j := fun k j hk => by rw [← hy1, wi_ne hk, wi_ne hk, wi_ne hk, wi_ne hk, wi_ne hk]
  have y12 : y1.2 = y.2 := by rw [← hy1]; rfl
  obtain ⟨s, mm, e, hp⟩ := lp (fun n (s : Int32 × Int32 × gS) => hX11_slipped_11 o n s.1 s.2.1 s.2.2) (vN (y.1 0 18)) (fun i s => s.2.1 = nI i ∧ ∃ d, dpt y i = some d ∧ s.1 = nI d ∧ s.2.2.2 = y.2 ∧ (∀ k j, k ≠ 8 → s.2.2.1 k j = y1.1 k j) ∧ (i = 0 → s.2.2.1 8 0 = o) ∧ ∀ j, j < d → s.2.2.1 8 j = ev y (askV y k m) i j) (by
    intro n i ⟨l2, l3, st⟩ hi ⟨q1, d, q2, q3, q4, q5, _, q7⟩
    dsimp only at q1 q3 q4 q5 q7
    subst q1 q3
    obtain ⟨d', hd', hl'⟩ := h7 (i + 1) (by omega)
    obtain ⟨d2, hd2, hl2⟩ := h7 i (by omega)
    rw [q2] at hd2
    have hdd : d = d2 := Option.some.inj hd2
    subst hdd
    have hb : dpt y (i + 1) = (dpt y i).bind fun d => if y.1 5 i = 0 ∨ y.1 5 i = 1 then some (d + 1) else if y.1 5 i = 2 then (if 1 ≤ d then some d else none) else (if 2 ≤ d then some (d - 1) else none) := rfl
    rw [q2, hd', bd] at hb
    have hev : ev y (askV y k m) (i + 1) = if y.1 5 i = 0 then upd (ev y (askV y k m) i) d (y.1 6 i) else if y.1 5 i = 1 then upd (ev y (askV y k m) i) d ((askV y k m) (vN (y.1 6 i))) else if y.1 5 i = 2 then upd (ev y (askV y k m) i) (d - 1) (b2 (decide (ev y (askV y k m) i (d - 1) = 0))) else upd (ev y (askV y k m) i) (d - 2) (dn (y.1 6 i) (ev y (askV y k m) i (d - 2)) (ev y (askV y k m) i (d - 1))) := by
      rw [ev, q2]; rfl
    have s5 : st.1 5 i = y.1 5 i := (q5 5 i (by decide)).trans (y1n 5 i (by decide))
    have s6 : st.1 6 i = y.1 6 i := (q5 6 i (by decide)).trans (y1n 6 i (by decide))
    have s18 : st.1 0 18 = nI (vN (y.1 0 18)) := ((q5 0 18 (by decide)).trans (y1n 0 18 (by decide))).trans h1.1
    have s9 : ∀ j, j < 5 → st.1 9 j = askV y k m j := fun j hj => (q5 9 j (by decide)).trans (y1a j hj)
    -- one write behind which all is as told
    have wr1 : ∀ (p d2 : Nat) (v : Int32), dpt y (i + 1) = some d2 → ev y (askV y k m) (i + 1) = upd (ev y (askV y k m) i) p v → d2 ≤ d + 1 → (d2 = d + 1 → p = d) → (nI d2, nI (i + 1), wi st 8 p v).2.1 = nI (i + 1) ∧ ∃ d, dpt y (i + 1) = some d ∧ (nI d2, nI (i + 1), wi st 8 p v).1 = nI d ∧ (nI d2, nI (i + 1), wi st 8 p v).2.2.2 = y.2 ∧ (∀ k j, k ≠ 8 → (nI d2, nI (i + 1), wi st 8 p v).2.2.1 k j = y1.1 k j) ∧ (i + 1 = 0 → (nI d2, nI (i + 1), wi st 8 p v).2.2.1 8 0 = o) ∧ ∀ j, j < d → (nI d2, nI (i + 1), wi st 8 p v).2.2.1 8 j = ev y (askV y k m) (i + 1) j := by
      intro p d2 v r1 r2 r3 r4
      refine ⟨rfl, d2, r1, rfl, q4, fun k j hk => ?_, fun z => absurd z (by omega), fun j hj => ?_⟩
      · show (wi st 8 p v).1 k j = _
        rw [wi_ne hk]; exact q5 k j hk
      · show (wi st 8 p v).1 8 j = _
        rw [wi_1, r2, upd_1]
        by_cases z : j = p
        · rw [if_pos ⟨rfl, z⟩, if_pos z]
        · rw [if_neg (fun q => z q.2), if_neg z]
          exact q7 j (by omega)
    show ∃ s', fX11_slipped_11 o (hX11_slipped_11 o n) (nI d) (nI i) st = _ ∧ _
    unfold fX11_slipped_11 fX11_slipped_38 fX11_slipped_72 fX11_slipped_112
    simp only [gc_p (gI_nI (show i < 320 by omega) (by decide)), nI_clamp (show i < 2 ^ 31 by omega), s5, s6, s18, gc_p (gI_nI (show d < 64 by omega) (by decide)), nI_clamp (show d < 2 ^ 31 by omega), nI_s]
    rw [if_neg (nle hi (by omega))]
    rcases h6 i hi with ⟨c1, c2, c3⟩ | ⟨c1, c2⟩ | ⟨c1, c2, c3⟩ | ⟨c1, c2⟩
    · rw [if_pos (Or.inl c1)] at hb
      rw [if_pos c1, if_pos c1]
      rw [if_pos c1] at hev
      exact ⟨_, rfl, wr1 d (d + 1) (y.1 6 i) (by rw [hd', hb]) hev (by omega) (fun _ => rfl)⟩
    · rw [if_pos (Or.inr c1)] at hb
      have hc5 : ∃ c, c < 5 ∧ y.1 6 i = nI c := by
        rcases c2 with z | z | z | z | z
        · exact ⟨0, by decide, z.1⟩
        · exact ⟨1, by decide, z.1⟩
        · exact ⟨2, by decide, z.1⟩
        · exact ⟨3, by decide, z.1⟩
        · exact ⟨4, by decide, z.1⟩
      obtain ⟨c, hc, ec⟩ := hc5
      rw [if_neg (by rw [c1]; decide), if_pos c1, if_neg (by rw [c1]; decide), ec, gc_p (gI_nI hc (by decide)), nI_clamp (by omega), s9 c hc]
      rw [if_neg (by rw [c1]; decide), if_pos c1, ec, vN_nI (by omega)] at hev
      exact ⟨_, rfl, wr1 d (d + 1) _ (by rw [hd', hb]) hev (by omega) (fun _ => rfl)⟩
    · rw [if_neg (by rw [c1]; decide), if_pos c1] at hb
      rw [if_neg (by rw [c1]; decide), if_neg (by rw [c1]; decide), if_pos c1] at hev
      by_cases hd1 : 1 ≤ d
      · rw [if_pos hd1] at hb
        rw [if_neg (by rw [c1]; decide), if_neg (by rw [c1]; decide), if_pos c1, show nI d - 1 = nI (d - 1) from pk_sub (b := 1) hd1, gc_p (gI_nI (by omega) (by decide)), Yt0, Yt1, bd, bd]
        dsimp only
        rw [gc_p (gI_nI (by omega) (by decide)), gc_p (gI_nI (by omega) (by decide)), nI_clamp (by omega), q7 (d - 1) (by omega)]
        have w := wr1 (d - 1) d _ (by rw [hd', hb]) hev (by omega) (fun z => absurd z (by omega))
        by_cases z : ev y (askV y k m) i (d - 1) = 0
        · rw [if_pos z]
          rw [decide_eq_true z] at w
          exact ⟨_, rfl, w⟩
        · rw [if_neg z]
          rw [decide_eq_false z] at w
          exact ⟨_, rfl, w⟩
      · rw [if_neg hd1] at hb; cases hb
    · rw [if_neg (by rw [c1]; decide), if_neg (by rw [c1]; decide)] at hb
      rw [if_neg (by rw [c1]; decide), if_neg (by rw [c1]; decide), if_neg (by rw [c1]; decide)] at hev
      by_cases hd2 : 2 ≤ d
      · rw [if_pos hd2] at hb
        have em1 : nI d + (-1) = nI (d - 1) := by
          obtain ⟨z, rfl⟩ : ∃ z, d = z + 1 := ⟨d - 1, by omega⟩
          exact pk_m1 z
        have em2 : nI (d - 1) - 1 = nI (d - 2) := pk_sub (a := d - 1) (b := 1) (by omega)
        rw [if_neg (by rw [c1]; decide), if_neg (by rw [c1]; decide), if_neg (by rw [c1]; decide), em1, em2, gc_p (gI_nI (by omega) (by decide)), gc_p (gI_nI (by omega) (by decide)), nI_clamp (by omega), nI_clamp (by omega), q7 (d - 2) (by omega), q7 (d - 1) (by omega), done_dn, bd]
        dsimp only
        rw [gc_p (gI_nI (by omega) (by decide))]
        exact ⟨_, rfl, wr1 (d - 2) (d - 1) _ (by rw [hd', hb]) hev (by omega) (fun z => absurd z (by omega))⟩
      · rw [if_neg hd2] at hb; cases hb) 0 (0, 0, wi y1 8 (0 : Int32).toNatClampNeg o) FU (by omega) ⟨rfl, 0, rfl, rfl, y12, fun k j hk => wi_ne hk, fun _ => by show (wi y1 8 0 o).1 8 0 = o; rw [wi_1, if_pos ⟨rfl, rfl⟩], fun j hj => absurd hj (by omega)⟩ (FU_gt (by omega))
  obtain ⟨l2, l3, st⟩ := s
  obtain ⟨q1, d, q2, q3, q4, q5, q6, q7⟩ := hp
  dsimp only at q1 q3 q4 q5 q6 q7
  subst q1 q3
  have s18 : st.1 0 18 = nI (vN (y.1 0 18)) := ((q5 0 18 (by decide)).trans (y1n 0 18 (by decide))).trans h1.1
  have hv : st.1 8 0 = if vN (y.1 0 18) = 0 then o else ev y (askV y k m) (vN (y.1 0 18)) 0 := by
    by_cases z : vN (y.1 0 18) = 0
    · rw [if_pos z]; exact q6 z
    · rw [if_neg z]
      rw [h8 z] at q2
      have : 1 = d := Option.some.inj q2
      exact q7 0 (by omega)
  have e2 : hX11_slipped_11 o (mm + 1) (nI d) (nI (vN (y.1 0 18))) st = some (slI y k m, st) := by
    show fX11_slipped_11 _ _ _ _ st = _
    unfold fX11_slipped_11
    rw [s18, if_pos (yle _), show (0 : Int32).toNatClampNeg = 0 from rfl, hv]
    simp only [gc_p (show gI 0 64 by decide)]
    unfold slI
    rw [clp_y, ho]
    by_cases g1 : 0 ≤ (if vN (y.1 0 18) = 0 then o else ev y (askV y k m) (vN (y.1 0 18)) 0)
    · rw [if_pos g1, if_pos g1]
      by_cases g2 : (if vN (y.1 0 18) = 0 then o else ev y (askV y k m) (vN (y.1 0 18)) 0) ≤ 100
      · rw [if_pos g2, if_pos g2]
      · rw [if_neg g2, if_neg g2]
    · rw [if_neg g1, if_neg g1]
  refine ⟨st, ?_, q4, fun k j h8 h9 => (q5 k j h8).trans (y1n k j h9)⟩
  have e3 : hX11_slipped_11 o FU 0 0 (wi y1 8 (0 : Int32).toNatClampNeg o) = some (slI y k m, st) := e.trans e2
  rw [e3, bd]
end SL
theorem Inv.sl {x y : gS} (h : Inv x y) {k m : Nat} (hk : k < nT y) (hm : m < nM y) : ∃ x' y', fX8_slipOf (x.2.2 0 9) (nI k) (nI m) 20 x = some (slI y k m, x') ∧ fX11_slipOf (nI k) (nI m) y = some (slI y k m, y') ∧ FX x x' ∧ FY y y' := by
  obtain ⟨r0, r1, r2, r3, -, -, r16, -⟩ := h.now.2
  have ht := h.t4
  obtain ⟨x', p1, p2, p3⟩ := XslipOf ht h.wf h.xt h.xs r2 r3 r16 hk hm
  obtain ⟨y', g1, g2, g3⟩ := YslipOf h.wf h.xs hk hm
  refine ⟨x', y', p1, g1, ⟨by rw [p2], fun a b hs => p3 a b ?_ ?_⟩, fun a b hs => g3 a b ?_ ?_⟩
  · unfold scrX at hs; omega
  · unfold scrX at hs; omega
  · unfold scrY at hs; omega
  · unfold scrY at hs; omega
theorem s_slip (a1 a2 : Int32) : sOK Inv (fX10_slip a1 a2) (fX11_slip a1 a2) := by
  intro x y h
  unfold fX10_slip fX11_slip
  rw [gc_p h.told8]
  rcases inR_dec a1 (y.1 0 49) with q | q
  · rw [(isTri h.wf a1).1 q, (hasTri x _ a1).1 (by rw [h.xt.1.2.1]; exact q), bd, bd]
    dsimp only
    rw [if_neg one0, if_neg one0, gc_p h.told8]
    rcases inR_dec a2 (y.1 0 50) with q2 | q2
    · rw [(isMov h.wf a2).1 q2, (hasMov x _ a2).1 (by rw [h.xt.1.2.2.1]; exact q2), bd, bd]
      dsimp only
      obtain ⟨k, hk, rfl⟩ := inT h.wf q
      obtain ⟨m, hm, rfl⟩ := inM h.wf q2
      obtain ⟨x', y', e1, e2, e3, e4⟩ := h.sl hk hm
      rw [if_neg one0, if_neg one0, gc_p h.told8, e1, e2, bd, bd]
      exact ⟨_, _, _, rfl, rfl, Inv_fr h e3 e4⟩
    · rw [(isMov h.wf a2).2 q2, (hasMov x _ a2).2 (by rw [h.xt.1.2.2.1]; exact q2), bd, bd]
      exact ⟨_, _, _, rfl, rfl, h⟩
  · rw [(isTri h.wf a1).2 q, (hasTri x _ a1).2 (by rw [h.xt.1.2.1]; exact q), bd, bd]
    exact ⟨_, _, _, rfl, rfl, h⟩
