theorem i8_255 (v : Int32) : (v &&& 255).toInt8 = v.toInt8 := by
  apply Int8.toBitVec_inj.mp
  show (v &&& 255).toBitVec.signExtend 8 = v.toBitVec.signExtend 8
  rw [Int32.toBitVec_and, BitVec.signExtend_eq_setWidth_of_le _ (by decide), BitVec.signExtend_eq_setWidth_of_le _ (by decide), BitVec.setWidth_and]
  show v.toBitVec.setWidth 8 &&& (BitVec.allOnes 8) = _
  exact BitVec.and_allOnes
theorem feed1 {x y : gS} (h : Inv x y) {n : Nat} (hn : y.1 0 1 = nI n) (hl : n < 1600) (v : Int32) : Inv (wi (wi x 2 n v.toInt8.toInt32) 1 1 (nI (n + 1))) (wi (wi y 1 n (v &&& 255)) 0 1 (nI (n + 1))) := by
  obtain ⟨h1, h2, h3⟩ := h.tape
  refine Inv_tape h rfl (fun k j hk => ?_) (fun k j hk => ?_) ⟨?_, ?_, fun i hi => ?_⟩
  · rw [wi_1, if_neg (by omega), wi_1, if_neg (by omega)]
  · rw [wi_1, if_neg (by omega), wi_1, if_neg (by omega)]
  · rw [wi_1, if_pos ⟨rfl, rfl⟩]
    exact isN.of (by omega) (by decide)
  · rw [wi_1, if_pos ⟨rfl, rfl⟩, wi_1, if_pos ⟨rfl, rfl⟩]
  · rw [wi_1, if_pos ⟨rfl, rfl⟩, vN_nI (by omega)] at hi
    rw [wi_ne (show (1 : Nat) ≠ 0 by decide), wi_ne (show (2 : Nat) ≠ 1 by decide), wi_1, wi_1]
    by_cases e : i = n
    · rw [if_pos ⟨rfl, e⟩, if_pos ⟨rfl, e⟩, i8_255]
      refine ⟨?_, rfl⟩
      obtain ⟨j, hj, ej⟩ := pk_andE v (m := 255) 8 (by decide)
      rw [ej]
      exact isN.of hj (by decide)
    · rw [if_neg (fun z => e z.2), if_neg (fun z => e z.2)]
      rw [hn, vN_nI (by omega)] at h3
      exact h3 i (by omega)
theorem put1 {x y : gS} (h : Inv x y) {n : Nat} (hn : y.1 0 1 = nI n) (hl : n < 1600) (a l : Int32) (hl2 : ¬ l < 0) : ∃ x' y', Inv x' y' ∧ y'.1 0 1 = nI (n + 1) ∧ (∀ k, fX6_put_3 a k l x = k (l + (-8)) x') ∧ ∀ k, fX11_four_3 a k l y = k (l + (-8)) y' := by
  have hx : x.1 1 1 = nI n := h.tape.2.1.trans hn
  refine ⟨_, _, feed1 h hn hl (a >>> (l &&& 31)), by rw [wi_1, if_pos ⟨rfl, rfl⟩], fun k => ?_, fun k => ?_⟩
  · unfold fX6_put_3
    rw [if_neg hl2, hx, if_neg (show ¬ 1600 ≤ nI n from nI_ge (b := 1600) (by omega) (by omega)), gc_p (gI_nI hl (by decide)), nI_clamp (by omega), pk_vb, wi_ne (by decide), hx, nI_s]
  · unfold fX11_four_3
    rw [if_neg hl2, hn, gc_p (gI_nI hl (by decide)), nI_clamp (by omega), wi_ne (by decide), hn, nI_s]
theorem put4 {x y : gS} (h : Inv x y) {n : Nat} (hn : y.1 0 1 = nI n) (hl : n + 4 ≤ 1600) (a : Int32) : ∃ x' y', Inv x' y' ∧ y'.1 0 1 = nI (n + 4) ∧ fX6_put a x = some x' ∧ fX11_four a y = some y' := by
  unfold fX6_put fX11_four
  obtain ⟨m, hm⟩ : ∃ m, FU = m + 5 := ⟨69995, rfl⟩
  rw [hm]
  obtain ⟨x1, y1, i1, n1, f1, g1⟩ := put1 h hn (by omega) a 24 (by decide)
  obtain ⟨x2, y2, i2, n2, f2, g2⟩ := put1 i1 n1 (by omega) a 16 (by decide)
  obtain ⟨x3, y3, i3, n3, f3, g3⟩ := put1 i2 n2 (by omega) a 8 (by decide)
  obtain ⟨x4, y4, i4, n4, f4, g4⟩ := put1 i3 n3 (by omega) a 0 (by decide)
  refine ⟨x4, y4, i4, n4, ?_, ?_⟩
  · refine (f1 _).trans ((f2 _).trans ((f3 _).trans ((f4 _).trans ?_)))
    show fX6_put_3 a (hX6_put_3 a m) (-8) x4 = _
    unfold fX6_put_3
    rw [if_pos (by decide)]
  · refine (g1 _).trans ((g2 _).trans ((g3 _).trans ((g4 _).trans ?_)))
    show fX11_four_3 a (hX11_four_3 a m) (-8) y4 = _
    unfold fX11_four_3
    rw [if_pos (by decide)]
theorem s_feed (a1 a2 a3 a4 a5 : Int32) : sOK Inv (fX10_feed a1 a2 a3 a4 a5) (fX11_feed a1 a2 a3 a4 a5) := by
  intro x y h
  obtain ⟨h1, h2, h3⟩ := h.tape
  have hl := h1.2
  have he : y.1 0 1 = nI (vN (y.1 0 1)) := h1.1
  generalize hn : vN (y.1 0 1) = n at *
  unfold fX10_feed fX11_feed fX6_hasRoomFor
  rw [h2, he, show (1600 : Int32) - nI n = nI (1600 - n) from pk_sub (a := 1600) (by omega), show nI n + 20 = nI (n + 20) from nI_ad n 20]
  by_cases hq : n + 20 ≤ 1600
  · rw [if_neg (show ¬ nI (1600 - n) < 20 from fun q => by have := (nI_lt' (b := 20) (by omega) (by decide)).mp q; omega), if_pos (show nI (n + 20) ≤ 1600 from (nI_le' (b := 1600) (by omega) (by decide)).mpr hq), bd]
    dsimp only
    rw [if_neg one0]
    obtain ⟨x1, y1, i1, n1, f1, g1⟩ := put4 h he (by omega) a1
    obtain ⟨x2, y2, i2, n2, f2, g2⟩ := put4 i1 n1 (by omega) a2
    obtain ⟨x3, y3, i3, n3, f3, g3⟩ := put4 i2 n2 (by omega) a3
    obtain ⟨x4, y4, i4, n4, f4, g4⟩ := put4 i3 n3 (by omega) a4
    obtain ⟨x5, y5, i5, n5, f5, g5⟩ := put4 i4 n4 (by omega) a5
    rw [f1, g1, bd, bd, f2, g2, bd, bd, f3, g3, bd, bd, f4, g4, bd, bd, f5, g5, bd, bd]
    unfold fX6_length
    rw [bd]
    exact ⟨_, _, _, rfl, by rw [i5.tape.2.1], i5⟩
  · rw [if_pos (show nI (1600 - n) < 20 from (nI_lt' (b := 20) (by omega) (by decide)).mpr (by omega)), if_neg (show ¬ nI (n + 20) ≤ 1600 from fun q => hq ((nI_le' (b := 1600) (by omega) (by decide)).mp q)), bd]
    exact ⟨_, _, _, rfl, rfl, h⟩
