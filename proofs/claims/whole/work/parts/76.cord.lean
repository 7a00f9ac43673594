section LI
variable {x0 y0 x y x' y' : gS} {t L c : Nat}
theorem RD_mk (h : RD x0 y0 t L c x y) (fx : FXr t x x') (fy : FYr y y') (tx : ∀ k j, k = 19 ∨ k = 1 ∨ k = 2 → x'.1 k j = x.1 k j) (txl : ∀ j, x'.2.1 19 j = x.2.1 19 j) (ty : ∀ k j, (k = 0 ∧ 4 ≤ j ∧ j ≤ 8) ∨ k = 1 → y'.1 k j = y.1 k j) (tyl : y'.2.1 0 9 = y.2.1 0 9) (d : DR t x' y') : RD x0 y0 t L c x' y' := by
  obtain ⟨a1, a2, a3, a4, a5, a6⟩ := h
  exact ⟨a1.tr fx, a2.tr fy, TK_c a3 tx txl ty tyl, d, by rw [fx.1]; exact a5, a6⟩
theorem RD_cd (h : RD x0 y0 t L c x y) (hr : x'.2.2 = x.2.2) (hx : ∀ k j, ¬ ((k = 3 ∧ (j = 2 ∨ j = 3)) ∨ (k = t ∧ (j = 16 ∨ j = 17))) → x'.1 k j = x.1 k j) (hxl : x'.2.1 = x.2.1) (hy : ∀ k j, ¬ (k = 0 ∧ (j = 46 ∨ j = 47 ∨ j = 53 ∨ j = 54)) → y'.1 k j = y.1 k j) (hyl : y'.2.1 = y.2.1) (hc : DRc t x' y') : RD x0 y0 t L c x' y' := by
  have ht := h.2.2.2.2.2
  obtain ⟨m1, m2, m3, m4, m5, m6, m7⟩ := h.dr
  refine RD_mk h ⟨hr, fun k j q => hx k j (by omega)⟩ (fun k j q => hy k j (by unfold rdY scrY at q; omega)) (fun k j q => hx k j (by omega)) (fun j => by rw [hxl]) (fun k j q => hy k j (by omega)) (by rw [hyl]) ⟨?_, ?_, ?_, ?_, hc, ?_, ?_⟩
  · exact DRf_ext m1 (hy 0 43 (by omega)) (hx t 12 (by omega)) (fun i _ => by rw [hxl]) (fun i _ => by rw [hyl])
  · exact DRt_ext m2 (hy 0 44 (by omega)) (hx t 13 (by omega)) (hx t 15 (by omega)) (fun k _ => ⟨by rw [hxl], by rw [hyl], hx _ k (by omega), hx _ k (by omega), hy _ k (by omega), hy _ k (by omega), hy _ k (by omega)⟩)
  · exact DRw_ext m3 (hy 0 44 (by omega)) (fun j => hx _ j (by omega)) (fun k f _ _ => hy _ _ (by omega))
  · exact DRm_ext m4 (by show vN (y.1 0 43) ≤ vN (y'.1 0 43); rw [hy 0 43 (by omega)]; exact Nat.le_refl _) (hy 0 45 (by omega)) (hx t 14 (by omega)) (fun m _ k k1 k2 => ⟨hx _ m (by omega), hy _ m (by omega)⟩)
  · exact DRs_ext m6 (hy 0 52 (by omega)) (hy 0 20 (by omega)) (hy 0 17 (by omega)) (fun j => ⟨hy 3 j (by omega), hy 4 j (by omega)⟩) (fun j => hx _ j (by omega)) (fun j => hx _ j (by omega))
  · exact DRz_ext m7 (fun j q => hy 0 j (by omega)) (fun j j1 j2 => hx 3 j (by omega))
theorem l_cord (h : RD x0 y0 t L c x y) (hk : x.1 19 2 = 11) (hn : y.1 0 53 = 0) : LN x0 y0 t L c (fX4_readCord x) ((fX11_told 1668248164 1 99 (wi y 0 53 1)).bind fun q => fX11_readLine_207 (wi q.2 0 46 q.1)) := by
  have ht := h.2.2.2.2.2
  obtain ⟨c1, c2, c3, c4, c5⟩ := h.dr.2.2.2.2.1
  have r1 : RD x0 y0 t L c (wi x 3 2 1) (wi y 0 53 1) := by
    refine RD_cd h rfl (fun k j q => by rw [wi_1, if_neg (by omega)]) rfl (fun k j q => by rw [wi_1, if_neg (by omega)]) rfl ⟨?_, ?_, ?_, ?_, ?_⟩
    · rw [wi_1, if_neg (by omega), wi_1, if_neg (by omega)]; exact c1
    · rw [wi_1, if_neg (by omega)]; exact c2
    · rw [wi_1, if_neg (by omega), wi_1, if_neg (by omega)]; exact c3
    · rw [wi_1, if_pos ⟨rfl, rfl⟩, wi_1, if_pos ⟨rfl, rfl⟩]
    · rw [wi_1, if_neg (by omega), wi_1, if_neg (by omega)]; exact c5
  have hk1 : (wi x 3 2 1).1 19 2 = 11 := by rw [wi_1, if_neg (by omega), hk]
  obtain ⟨x1, y1, d1, b1, b2, b3, b4, b5, b6⟩ := step_sp r1 (by rw [hk1]; decide) (by rw [hk1]; decide)
  unfold fX4_readCord fX11_told fX11_want
  rw [c4, hn, if_pos rfl, b1, bd, r1.f0, if_pos le0, (isW r1.kd (k := 11) (w := 1668248164) (by decide) rfl).1 hk1, bd]
  dsimp only
  rw [if_neg one0, b2, bd, bd]
  rcases passN_sp b3 (u := 1) (v := 99) (a := 1) (b := 99) rfl rfl (by decide) (by decide) with ⟨x2, y2, r, f1, f2, f3⟩ | ⟨x2, y2, d2, n, f1, f2, f3, f4, -, -, -, f5, f6, f7, f8⟩
  · rw [f1, f2, bd, bd, bd]
    dsimp only
    rw [if_pos rfl]
    have f4 := FL_wi (k := 0) (j := 46) (v := r) f3 (.inl (by unfold scrY; omega)) (by omega)
    rw [end_F f4]
    exact .inl ⟨x2, _, rfl, rfl, f4⟩
  · rw [f1, f2, bd, bd, bd]
    dsimp only
    rw [if_neg (show ¬ nI n = -1 from nI_m1 (by omega)), gc_p f5.k8, f5.2.2.2.2.1]
    obtain ⟨c1, c2, c3, c4, c5⟩ := f5.dr.2.2.2.2.1
    have r2 : RD x0 y0 t L d2 (wi x2 t 16 (nI n)) (wi y2 0 46 (nI n)) := by
      refine RD_cd f5 rfl (fun k j q => by rw [wi_1, if_neg (by omega)]) rfl (fun k j q => by rw [wi_1, if_neg (by omega)]) rfl ⟨?_, ?_, ?_, ?_, ?_⟩
      · rw [wi_1, if_pos ⟨rfl, rfl⟩, wi_1, if_pos ⟨rfl, rfl⟩]
      · rw [wi_1, if_pos ⟨rfl, rfl⟩]; exact isN.of (by omega) (by decide)
      · rw [wi_1, if_neg (by omega), wi_1, if_neg (by omega)]; exact c3
      · rw [wi_1, if_neg (by omega), wi_1, if_neg (by omega)]; exact c4
      · rw [wi_1, if_neg (by omega), wi_1, if_neg (by omega)]; exact c5
    exact (LN_gB (end_sp r2)).up (by omega)
theorem l_draw (h : RD x0 y0 t L c x y) (hk : x.1 19 2 = 12) (hn : y.1 0 54 = 0) : LN x0 y0 t L c (fX4_readDraw x) ((fX11_told 1685217655 0 999 (wi y 0 54 1)).bind fun q => fX11_readLine_207 (wi q.2 0 47 q.1)) := by
  have ht := h.2.2.2.2.2
  obtain ⟨c1, c2, c3, c4, c5⟩ := h.dr.2.2.2.2.1
  have r1 : RD x0 y0 t L c (wi x 3 3 1) (wi y 0 54 1) := by
    refine RD_cd h rfl (fun k j q => by rw [wi_1, if_neg (by omega)]) rfl (fun k j q => by rw [wi_1, if_neg (by omega)]) rfl ⟨?_, ?_, ?_, ?_, ?_⟩
    · rw [wi_1, if_neg (by omega), wi_1, if_neg (by omega)]; exact c1
    · rw [wi_1, if_neg (by omega)]; exact c2
    · rw [wi_1, if_neg (by omega), wi_1, if_neg (by omega)]; exact c3
    · rw [wi_1, if_neg (by omega), wi_1, if_neg (by omega)]; exact c4
    · rw [wi_1, if_pos ⟨rfl, rfl⟩, wi_1, if_pos ⟨rfl, rfl⟩]
  have hk1 : (wi x 3 3 1).1 19 2 = 12 := by rw [wi_1, if_neg (by omega), hk]
  obtain ⟨x1, y1, d1, b1, b2, b3, b4, b5, b6⟩ := step_sp r1 (by rw [hk1]; decide) (by rw [hk1]; decide)
  unfold fX4_readDraw fX11_told fX11_want
  rw [c5, hn, if_pos rfl, b1, bd, r1.f0, if_pos le0, (isW r1.kd (k := 12) (w := 1685217655) (by decide) rfl).1 hk1, bd]
  dsimp only
  rw [if_neg one0, b2, bd, bd]
  rcases passN_sp b3 (u := 0) (v := 999) (a := 0) (b := 999) rfl rfl (by decide) (by decide) with ⟨x2, y2, r, f1, f2, f3⟩ | ⟨x2, y2, d2, n, f1, f2, f3, f4, -, -, -, f5, f6, f7, f8⟩
  · rw [f1, f2, bd, bd, bd]
    dsimp only
    rw [if_pos rfl]
    have f4 := FL_wi (k := 0) (j := 47) (v := r) f3 (.inl (by unfold scrY; omega)) (by omega)
    rw [end_F f4]
    exact .inl ⟨x2, _, rfl, rfl, f4⟩
  · rw [f1, f2, bd, bd, bd]
    dsimp only
    rw [if_neg (show ¬ nI n = -1 from nI_m1 (by omega)), gc_p f5.k8, f5.2.2.2.2.1]
    obtain ⟨c1, c2, c3, c4, c5⟩ := f5.dr.2.2.2.2.1
    have r2 : RD x0 y0 t L d2 (wi x2 t 17 (nI n)) (wi y2 0 47 (nI n)) := by
      refine RD_cd f5 rfl (fun k j q => by rw [wi_1, if_neg (by omega)]) rfl (fun k j q => by rw [wi_1, if_neg (by omega)]) rfl ⟨?_, ?_, ?_, ?_, ?_⟩
      · rw [wi_1, if_neg (by omega), wi_1, if_neg (by omega)]; exact c1
      · rw [wi_1, if_neg (by omega)]; exact c2
      · rw [wi_1, if_pos ⟨rfl, rfl⟩, wi_1, if_pos ⟨rfl, rfl⟩]
      · rw [wi_1, if_neg (by omega), wi_1, if_neg (by omega)]; exact c4
      · rw [wi_1, if_neg (by omega), wi_1, if_neg (by omega)]; exact c5
    exact (LN_gB (end_sp r2)).up (by omega)
/-- a figure, and behind it -/
theorem passF_sp (h : RD x0 y0 t L c x y) : (∃ x' y' r, fX4_passFigure x = some (-1, x') ∧ fX11_figure y = some (r, y') ∧ FL x0 y0 t x' y') ∨ ∃ x' y' c' i, fX4_passFigure x = some (nI i, x') ∧ fX11_figure y = some (nI i, y') ∧ i < qF y ∧ RD x0 y0 t L c' x' y' ∧ c < c' ∧ TX x x' ∧ TY y y' := by
  have hd := h.dr.1
  have h9 : qF y < 9 := hd.1.2
  unfold fX4_passFigure fX4_namedFigure fX11_figure fX11_oldName
  rw [h.f0, if_pos le0]
  by_cases z : x.1 19 2 = 19
  · rw [if_pos z, gc_p h.k8, h.2.2.2.2.1, (isNm h.kd).1 z, bd]
    dsimp only
    rw [if_neg one0]
    rcases fig_sp h z with ⟨i, i1, i2, i3⟩ | ⟨i1, i2, i3⟩
    · obtain ⟨x', y', c', b1, b2, b3, b4, b5, b6⟩ := step_sp h (by rw [z]; decide) (by rw [z]; decide)
      rw [i2, i3, bd, bd]
      dsimp only
      rw [if_neg (show ¬ nI i = -1 from nI_m1 (by omega)), if_pos (show 0 ≤ nI i from (nI_le' (a := 0) (by decide) (by omega)).mpr (by omega)), bd]
      dsimp only
      unfold fX11_oldName_38
      rw [if_neg (show ¬ nI i = -1 from nI_m1 (by omega)), b1, bd, h.f0, if_pos le0, i3, bd, bd]
      dsimp only
      rw [h.f0, if_pos rfl, b2, bd]
      exact .inr ⟨x', y', c', i, rfl, rfl, i1, b3, b4, b5, b6⟩
    · obtain ⟨x', y', r1, r2, r3⟩ := refuse_sp h (v := 5) (a := 5) rfl (by decide)
      rw [i2, i3, bd, bd]
      dsimp only
      rw [if_pos rfl, if_neg (show ¬ (0 : Int32) ≤ -1 by decide), r1, r2, bd, bd, bd]
      dsimp only
      unfold fX11_oldName_38
      rw [if_pos rfl, if_neg r3.n0, bd]
      dsimp only
      rw [if_neg r3.n1]
      exact .inl ⟨x', y', _, rfl, rfl, r3⟩
  · obtain ⟨x', y', r1, r2, r3⟩ := refuse_sp h (v := 2) (a := 2) rfl (by decide)
    rw [if_neg z, r1, (isNm h.kd).2 z, bd, bd, bd]
    dsimp only
    rw [if_pos rfl, if_pos rfl, r2, bd]
    unfold fX11_oldName_38
    rw [if_neg r3.n0, bd]
    dsimp only
    rw [if_neg r3.n1]
    exact .inl ⟨x', y', _, rfl, rfl, r3⟩
end LI
