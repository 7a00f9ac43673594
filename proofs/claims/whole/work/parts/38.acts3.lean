theorem s_back (a : Int32) : sOK Inv (fX10_back a) (fX11_back a) := by
  intro x y h
  unfold fX10_back fX11_back fX11_isBox
  rcases box3 a with q | q | ⟨q, hq, rfl⟩
  · rw [if_pos q, if_pos q]
    exact ⟨_, _, _, rfl, rfl, h⟩
  · have q0 : ¬ a < 0 := fun z => by
      have h2 : (3 : Int) ≤ a.toInt := Int32.le_iff_toInt_le.mp q
      have h3 : a.toInt < 0 := Int32.lt_iff_toInt_lt.mp z
      omega
    rw [if_neg q0, if_neg q0, if_pos q, if_pos q]
    exact ⟨_, _, _, rfl, rfl, h⟩
  · have q0 : ¬ nI q < 0 := nI_pos (by omega)
    have q3 : ¬ (3 : Int32) ≤ nI q := nI_ge (b := 3) (by omega) (by decide)
    rw [if_neg q0, if_neg q0, if_neg q3, if_neg q3, bd]
    dsimp only
    have eb := h.refs.2.1 q hq
    obtain ⟨c1, c2, c3⟩ := h.box q hq
    rw [if_neg one0, gc_p (gI_nI (by omega) (by decide)), gc_p (gI_nI (by omega) (by decide)), gc_p (gI_nI (by omega) (by decide)), nI_clamp (by omega), c2]
    rcases c1 with w | w
    · rw [if_pos w, if_pos w]
      exact ⟨_, _, _, rfl, rfl, h⟩
    · obtain ⟨c4, c5⟩ := c3 w
      rw [w, if_neg one0, if_neg one0, eb, gc_p (gk_boxes q hq)]
      obtain ⟨x2, f1, f2, f3⟩ := copy_spec (t := 20) (r := 209 + 3 * q) (st := x) (by omega)
      rw [f1, bd]
      unfold fX1_forget
      have hR := h.refs
      obtain ⟨j, hj, ej⟩ := hR.2.2.1 0 (by omega)
      have ek : (wi (wi x2 23 1 0) 23 2 0).2.2 24 (0 : Int32).toNatClampNeg = 25 + 3 * j := by
        show x2.2.2 24 0 = _
        rw [f2]
        exact ej
      obtain ⟨x3, g1, g2, g3⟩ := copy_spec (t := 25 + 3 * j) (r := 20) (st := wi (wi x2 23 1 0) 23 2 0) (by omega)
      rw [gc_p (by decide), ek, gc_p (gk_kept j hj), g1, bd, bd]
      obtain ⟨y2, k1, k2⟩ := bak20 hq 18 0 FU y (by decide) (FU_gt (by decide))
      rw [nI0] at k1
      rw [k1]
      have st2 : stR x2 20 (rw y 46 q) := stR_cp f3 c5
      have st3 : stR (wi (wi x2 23 1 0) 23 2 0) 20 (rw y 46 q) := fr_st (CX := fun k jj => k = 23) (fun k jj hk => by rw [wi_1, wi_1, if_neg (by omega), if_neg (by omega)]) (fun c jj hc => by omega) st2
      have sk : stR x3 (25 + 3 * j) (rw y 46 q) := stR_cp g3 st3
      have sn : stR x3 20 (rw y 46 q) := fr_st (CX := fun k jj => ¬ (20 ≤ k ∧ k ≤ 22)) (fun k jj hk => by
        have hk : 20 ≤ k ∧ k ≤ 22 := Classical.byContradiction hk
        rw [g3, if_neg (by omega), if_neg (by omega), if_neg (by omega)]) (fun c jj hc z => z hc) st3
      have r28 : rwE (rw y 46 q) (y2.1 28) := fun jj hjj => by
        unfold rw
        rw [k2, if_pos (by omega)]
      have y48 : y2.1 0 48 = y.1 0 48 := by rw [k2, if_neg (by omega), if_neg (by omega)]
      have y49 : y2.1 0 49 = y.1 0 49 := by rw [k2, if_neg (by omega), if_neg (by omega)]
      have s58 : y2.1 0 58 = 0 := by rw [k2, if_neg (by omega), if_pos (by omega)]
      have s59 : y2.1 0 59 = 0 := by rw [k2, if_neg (by omega), if_pos (by omega)]
      have n58 : vN (y2.1 0 58) = 0 := by rw [s58]; rfl
      have n59 : vN (y2.1 0 59) = 0 := by rw [s59]; rfl
      have r2 : x3.2.2 = x.2.2 := by rw [g2]; show x2.2.2 = _; rw [f2]
      have e8 : x3.1 20 8 = y2.1 28 16 := (stR_E r28 sn).2.2.2.2.2.2.1
      rw [e8]
      refine ⟨_, _, _, rfl, rfl, Inv_hist h (fun k _ => by rw [r2]) (fun k jj hk => ?_) (fun k jj hk => ?_) (fun i hi => by rw [r2]; exact hR.2.2.1 i hi) (fun i q hi hq => by rw [r2]; exact hR.2.2.2 i q hi hq) ⟨rowOK_y y48 y49 (rowOK_E r28 c4), stR_E r28 sn⟩ ⟨?_, ?_, ?_, ?_, ?_, fun i hi => ?_, ?_, fun i h1 h2 => ?_⟩⟩
      · unfold scrX at hk
        rw [g3, if_neg (by omega), if_neg (by omega), if_neg (by omega), wi_1, if_neg (by omega), wi_1, if_neg (by omega), f3, if_neg (by omega), if_neg (by omega), if_neg (by omega)]
      · unfold scrY at hk
        rw [k2, if_neg (by omega), if_neg (by omega)]
      · rw [s58]; exact isN.of (j := 0) (by omega) (by decide)
      · rw [s59]; exact isN.of (j := 0) (by omega) (by decide)
      · omega
      · rw [g3, if_neg (by omega), if_neg (by omega), if_neg (by omega), wi_1, if_neg (by omega), wi_1, if_pos (by omega), s58]
      · rw [g3, if_neg (by omega), if_neg (by omega), if_neg (by omega), wi_1, if_pos (by omega), s58, s59]; rfl
      · rw [n58] at hi; omega
      · rw [n58, r2, ej]; exact stR_E r28 sk
      · rw [n58, n59] at h2; omega
theorem s_later (a : Int32) : sOK Inv (fX10_later a) (fX11_later a) := by
  intro x y h
  unfold fX10_later fX11_later fX2_goOn
  obtain ⟨b1, b2, b3, b4, b5⟩ := h.past
  rw [b4]
  by_cases h0 : a < 0
  · rw [if_pos h0, if_pos h0]
    exact ⟨_, _, _, rfl, rfl, h⟩
  · rw [if_neg h0, if_neg h0]
    by_cases h1 : 1000 < a
    · rw [if_pos h1, if_pos h1]
      exact ⟨_, _, _, rfl, rfl, h⟩
    · rw [if_neg h1, if_neg h1]
      obtain ⟨j, hj, rfl⟩ : ∃ j, j ≤ 1000 ∧ a = nI j := nI_of2 (M := 1000) rfl h0 (Int32.not_lt.mp h1)
      have hl := b2.2
      have e1 : (100000 - y.1 0 74).toInt = 100000 - (vN (y.1 0 74) : Int) := by
        rw [b2.1, vN_nI (by omega)]
        exact pk_sub_toInt (a := 100000) (b := vN (y.1 0 74)) (by decide) (by omega)
      have e2 : y.1 0 74 + nI j = nI (vN (y.1 0 74) + j) := by
        have := nI_add (vN (y.1 0 74)) j
        rw [← b2.1] at this
        exact this
      have c : nI j ≤ 100000 - y.1 0 74 ↔ y.1 0 74 + nI j ≤ 100000 := by
        rw [e2, Int32.le_iff_toInt_le, Int32.le_iff_toInt_le, e1, nI_toInt (by omega), nI_toInt (by omega)]
        show (j : Int) ≤ _ ↔ _ ≤ (100000 : Int)
        omega
      by_cases h2 : y.1 0 74 + nI j ≤ 100000
      · rw [if_pos (c.mpr h2), if_pos h2, bd]
        dsimp only
        rw [if_neg one0, wi_1, if_pos ⟨rfl, rfl⟩, wi_1, if_pos ⟨rfl, rfl⟩]
        have h3 : vN (y.1 0 74) + j ≤ 100000 := by
          rw [e2, Int32.le_iff_toInt_le, nI_toInt (by omega)] at h2
          have h2 : ((vN (y.1 0 74) + j : Nat) : Int) ≤ 100000 := h2
          omega
        refine ⟨_, _, _, rfl, rfl, Inv_past h rfl (fun k jj hk => by rw [wi_1, if_neg (by omega)]) (fun k jj hk => by rw [wi_1, if_neg (by omega)]) ⟨?_, ?_, ?_, ?_, fun i hi => ?_⟩⟩
        · rw [wi_1, if_neg (by omega)]; exact b1
        · rw [wi_1, if_pos ⟨rfl, rfl⟩, e2]; exact isN.of (by omega) (by decide)
        · rw [wi_1, if_neg (by omega), wi_1, if_neg (by omega)]; exact b3
        · rw [wi_1, if_pos ⟨rfl, rfl⟩, wi_1, if_pos ⟨rfl, rfl⟩]
        · rw [wi_1, if_neg (by omega)] at hi
          have := b5 i hi
          simp only [wi_1, nF]
          simpa using this
      · rw [if_neg (fun z => h2 (c.mp z)), if_neg h2]
        exact ⟨_, _, _, rfl, rfl, h⟩
