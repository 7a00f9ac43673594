/-! ===== names; the lines of figures, cord, draw ===== -/
theorem TK_c {x y x' y' : gS} {c L : Nat} (h : TK x y c L) (hx : ∀ k j, k = 19 ∨ k = 1 ∨ k = 2 → x'.1 k j = x.1 k j) (hxl : ∀ j, x'.2.1 19 j = x.2.1 19 j) (hy : ∀ k j, (k = 0 ∧ 4 ≤ j ∧ j ≤ 8) ∨ k = 1 → y'.1 k j = y.1 k j) (hyl : y'.2.1 0 9 = y.2.1 0 9) : TK x' y' c L := by
  obtain ⟨p1, p2, p3, p4, p5, p6⟩ := h
  refine ⟨⟨p1.1, (hx 1 1 (by omega)).trans p1.2.1, (hy 0 5 (by omega)).trans p1.2.2.1, fun i hi => by rw [hy 1 i (by omega), hx 2 i (by omega)]; exact p1.2.2.2 i hi⟩, p2, (hx 19 3 (by omega)).trans p3, (hy 0 7 (by omega)).trans p4, ?_, ?_⟩
  · unfold KD at p5 ⊢
    rw [hy 0 6 (by omega), hy 0 8 (by omega), hyl, hx 19 2 (by omega), hx 19 4 (by omega), hxl]
    exact p5
  · rw [hy 0 4 (by omega), hx 19 1 (by omega), hx 19 2 (by omega)]
    exact p6
theorem wrong_wy {v : Int32} {y y' : gS} (h : fX11_wrong v y = some y') : y'.1 0 44 = y.1 0 44 := by
  unfold fX11_wrong fX11_wrong_22 at h
  split at h
  · split at h
    · cases h; rw [wi_1, if_neg (by decide), wi_1, if_neg (by decide)]
    · cases h; rw [wi_1, if_neg (by decide), wi_1, if_neg (by decide)]
  · cases h; rfl
theorem Xfig_n {t n : Nat} {x : gS} (w : Int64) (e : x.1 t 12 = nI n) (hn : n ≤ 8) : (∃ i, i < n ∧ x.2.1 (t + 1 + 0) i = w ∧ fX8_figureNamed t w x = some (nI i, x)) ∨ ((∀ i, i < n → x.2.1 (t + 1 + 0) i ≠ w) ∧ fX8_figureNamed t w x = some (-1, x)) := by
  unfold fX8_figureNamed
  refine lpx (fun k (s : Int32) => hX8_figureNamed_2 t w k s x) n (fun i s => s = nI i ∧ ∀ j, j < i → x.2.1 (t + 1 + 0) j ≠ w) (fun r => (∃ i, i < n ∧ x.2.1 (t + 1 + 0) i = w ∧ r = some (nI i, x)) ∨ ((∀ i, i < n → x.2.1 (t + 1 + 0) i ≠ w) ∧ r = some (-1, x))) ?_ ?_ 0 0 FU (by omega) ⟨rfl, fun j hj => absurd hj (by omega)⟩ (FU_gt (by omega))
  · intro m i s hi ⟨es, hj⟩
    subst es
    have e2 : hX8_figureNamed_2 t w (m + 1) (nI i) x = if lg_cmp (x.2.1 (t + 1 + 0) i) w = 0 then some (nI i, x) else hX8_figureNamed_2 t w m (nI (i + 1)) x := by
      show fX8_figureNamed_2 t w (hX8_figureNamed_2 t w m) (nI i) x = _
      unfold fX8_figureNamed_2
      rw [e, if_neg (show ¬ nI n ≤ nI i from fun z => by have := (nI_le' (by omega) (by omega)).mp z; omega), gc_p (gI_nI (by omega) (by decide)), nI_clamp (by omega), nI_s]
    rw [e2]
    by_cases q : x.2.1 (t + 1 + 0) i = w
    · rw [if_pos ((lg_cmp_eq _ _).mpr q)]
      exact .inl (.inl ⟨i, hi, q, rfl⟩)
    · rw [if_neg (fun z => q ((lg_cmp_eq _ _).mp z))]
      refine .inr ⟨_, rfl, rfl, fun j hj' => ?_⟩
      by_cases e2 : j = i
      · rw [e2]; exact q
      · exact hj j (by omega)
  · intro m s ⟨es, hj⟩
    subst es
    refine .inr ⟨hj, ?_⟩
    show fX8_figureNamed_2 t w (hX8_figureNamed_2 t w m) (nI n) x = _
    unfold fX8_figureNamed_2
    rw [e, if_pos ((nI_le' (by omega) (by omega)).mpr (Nat.le_refl _))]
theorem Xtri_n {t n : Nat} {x : gS} (w : Int64) (e : x.1 t 13 = nI n) (hn : n ≤ 5) : (∃ i, i < n ∧ x.2.1 (t + 1 + 1) i = w ∧ fX8_tribeNamed t w x = some (nI i, x)) ∨ ((∀ i, i < n → x.2.1 (t + 1 + 1) i ≠ w) ∧ fX8_tribeNamed t w x = some (-1, x)) := by
  unfold fX8_tribeNamed
  refine lpx (fun k (s : Int32) => hX8_tribeNamed_2 t w k s x) n (fun i s => s = nI i ∧ ∀ j, j < i → x.2.1 (t + 1 + 1) j ≠ w) (fun r => (∃ i, i < n ∧ x.2.1 (t + 1 + 1) i = w ∧ r = some (nI i, x)) ∨ ((∀ i, i < n → x.2.1 (t + 1 + 1) i ≠ w) ∧ r = some (-1, x))) ?_ ?_ 0 0 FU (by omega) ⟨rfl, fun j hj => absurd hj (by omega)⟩ (FU_gt (by omega))
  · intro m i s hi ⟨es, hj⟩
    subst es
    have e2 : hX8_tribeNamed_2 t w (m + 1) (nI i) x = if lg_cmp (x.2.1 (t + 1 + 1) i) w = 0 then some (nI i, x) else hX8_tribeNamed_2 t w m (nI (i + 1)) x := by
      show fX8_tribeNamed_2 t w (hX8_tribeNamed_2 t w m) (nI i) x = _
      unfold fX8_tribeNamed_2
      rw [e, if_neg (show ¬ nI n ≤ nI i from fun z => by have := (nI_le' (by omega) (by omega)).mp z; omega), gc_p (gI_nI (by omega) (by decide)), nI_clamp (by omega), nI_s]
    rw [e2]
    by_cases q : x.2.1 (t + 1 + 1) i = w
    · rw [if_pos ((lg_cmp_eq _ _).mpr q)]
      exact .inl (.inl ⟨i, hi, q, rfl⟩)
    · rw [if_neg (fun z => q ((lg_cmp_eq _ _).mp z))]
      refine .inr ⟨_, rfl, rfl, fun j hj' => ?_⟩
      by_cases e2 : j = i
      · rw [e2]; exact q
      · exact hj j (by omega)
  · intro m s ⟨es, hj⟩
    subst es
    refine .inr ⟨hj, ?_⟩
    show fX8_tribeNamed_2 t w (hX8_tribeNamed_2 t w m) (nI n) x = _
    unfold fX8_tribeNamed_2
    rw [e, if_pos ((nI_le' (by omega) (by omega)).mpr (Nat.le_refl _))]
theorem Yfind {o n : Nat} {y : gS} {a b : Int32} (ha : a = nI o) (hb : b = nI n) (h : o + n ≤ 13) : (∃ i, i < n ∧ y.2.1 2 (o + i) = y.2.1 0 9 ∧ fX11_find a b y = some (nI i, y)) ∨ ((∀ i, i < n → y.2.1 2 (o + i) ≠ y.2.1 0 9) ∧ fX11_find a b y = some (-1, y)) := by
  subst ha hb
  unfold fX11_find
  obtain ⟨s, m, e, hp⟩ := lp (fun k (s : Int32 × Int32) => hX11_find_5 (nI o) (nI n) k s.1 s.2 y) n (fun i s => s.2 = nI i ∧ (((∀ j, j < i → y.2.1 2 (o + j) ≠ y.2.1 0 9) ∧ s.1 = -1) ∨ ∃ j, j < i ∧ y.2.1 2 (o + j) = y.2.1 0 9 ∧ s.1 = nI j)) (by
    intro k i ⟨l3, l4⟩ hi ⟨e1, e2⟩
    dsimp only at e1 e2
    subst e1
    have f : hX11_find_5 (nI o) (nI n) (k + 1) l3 (nI i) y = if lg_cmp (y.2.1 2 (o + i)) (y.2.1 0 9) = 0 then hX11_find_5 (nI o) (nI n) k (nI i) (nI (i + 1)) y else hX11_find_5 (nI o) (nI n) k l3 (nI (i + 1)) y := by
      show fX11_find_5 (nI o) (nI n) (hX11_find_5 (nI o) (nI n) k) l3 (nI i) y = _
      unfold fX11_find_5
      rw [if_neg (show ¬ nI n ≤ nI i from fun z => by have := (nI_le' (by omega) (by omega)).mp z; omega), nI_ad, gc_p (gI_nI (by omega) (by decide)), nI_clamp (by omega), nI_s]
    dsimp only
    rw [f]
    by_cases q : y.2.1 2 (o + i) = y.2.1 0 9
    · rw [if_pos ((lg_cmp_eq _ _).mpr q)]
      exact ⟨(_, _), rfl, rfl, .inr ⟨i, by omega, q, rfl⟩⟩
    · rw [if_neg (fun z => q ((lg_cmp_eq _ _).mp z))]
      refine ⟨(_, _), rfl, rfl, ?_⟩
      rcases e2 with ⟨g1, g2⟩ | ⟨j, g1, g2, g3⟩
      · refine .inl ⟨fun j hj => ?_, g2⟩
        by_cases e3 : j = i
        · rw [e3]; exact q
        · exact g1 j (by omega)
      · exact .inr ⟨j, by omega, g2, g3⟩) 0 (-1, 0) FU (by omega) ⟨rfl, .inl ⟨fun j hj => absurd hj (by omega), rfl⟩⟩ (FU_gt (by omega))
  obtain ⟨l3, l4⟩ := s
  obtain ⟨p1, p2⟩ := hp
  dsimp only at e p1 p2
  subst p1
  rw [e]
  have f : hX11_find_5 (nI o) (nI n) (m + 1) l3 (nI n) y = some (l3, y) := by
    show fX11_find_5 (nI o) (nI n) (hX11_find_5 (nI o) (nI n) m) l3 (nI n) y = _
    unfold fX11_find_5
    rw [if_pos ((nI_le' (by omega) (by omega)).mpr (Nat.le_refl _))]
  rw [f]
  rcases p2 with ⟨g1, g2⟩ | ⟨j, g1, g2, g3⟩
  · exact .inr ⟨g1, by rw [g2]⟩
  · exact .inl ⟨j, g1, g2, by rw [g3]⟩
section LI
variable {x0 y0 x y : gS} {t L c : Nat}
theorem RD.dr (h : RD x0 y0 t L c x y) : DR t x y := h.2.2.2.1
theorem RD.wq (h : RD x0 y0 t L c x y) (hk : x.1 19 2 = 19) : x.2.1 19 5 = y.2.1 0 9 := (h.kd.wd (h.kd.wdk (k := 19) (by omega) hk)).2.1
/-- the figure that is named by the token -/
theorem fig_sp (h : RD x0 y0 t L c x y) (hk : x.1 19 2 = 19) : (∃ i, i < qF y ∧ fX8_figureNamed t (x.2.1 19 5) x = some (nI i, x) ∧ fX11_find 0 (y.1 0 43) y = some (nI i, y)) ∨ ((∀ i, i < qF y → y.2.1 2 i ≠ y.2.1 0 9) ∧ fX8_figureNamed t (x.2.1 19 5) x = some (-1, x) ∧ fX11_find 0 (y.1 0 43) y = some (-1, y)) := by
  obtain ⟨d1, d2, d3, d4⟩ := h.dr.1
  have hn := d1.2
  have hw := h.wq hk
  have hf : qF y < 9 := hn
  rcases Xfig_n (t := t) (n := qF y) (x.2.1 19 5) (d2.trans d1.1) (by omega) with ⟨i, i1, i2, i3⟩ | ⟨i1, i2⟩
  · rcases Yfind (o := 0) (n := qF y) (y := y) rfl d1.1 (by omega) with ⟨j, j1, j2, j3⟩ | ⟨j1, j2⟩
    · rw [Nat.zero_add] at j2
      have : i = j := d4 i j i1 j1 (by rw [← d3 i i1, i2, hw, j2])
      subst this
      exact .inl ⟨i, i1, i3, j3⟩
    · exact absurd (by rw [Nat.zero_add, ← d3 i i1, i2, hw]) (j1 i i1)
  · rcases Yfind (o := 0) (n := qF y) (y := y) rfl d1.1 (by omega) with ⟨j, j1, j2, j3⟩ | ⟨j1, j2⟩
    · rw [Nat.zero_add] at j2
      exact absurd (by rw [d3 j j1, j2, hw]) (i1 j j1)
    · exact .inr ⟨fun i hi => by have := j1 i hi; rwa [Nat.zero_add] at this, i2, j2⟩
theorem tri_sp (h : RD x0 y0 t L c x y) (hk : x.1 19 2 = 19) : (∃ i, i < qT y ∧ fX8_tribeNamed t (x.2.1 19 5) x = some (nI i, x) ∧ fX11_find 8 (y.1 0 44) y = some (nI i, y)) ∨ ((∀ i, i < qT y → y.2.1 2 (8 + i) ≠ y.2.1 0 9) ∧ fX8_tribeNamed t (x.2.1 19 5) x = some (-1, x) ∧ fX11_find 8 (y.1 0 44) y = some (-1, y)) := by
  obtain ⟨d1, d2, -, d4, d5⟩ := h.dr.2.1
  have hn := d1.2
  have hw := h.wq hk
  have hf : qT y < 6 := hn
  rcases Xtri_n (t := t) (n := qT y) (x.2.1 19 5) (d2.trans d1.1) (by omega) with ⟨i, i1, i2, i3⟩ | ⟨i1, i2⟩
  · rcases Yfind (o := 8) (n := qT y) (y := y) rfl d1.1 (by omega) with ⟨j, j1, j2, j3⟩ | ⟨j1, j2⟩
    · have : i = j := d4 i j i1 j1 (by rw [← (d5 i i1).1, i2, hw, j2])
      subst this
      exact .inl ⟨i, i1, i3, j3⟩
    · exact absurd (by rw [← (d5 i i1).1, i2, hw]) (j1 i i1)
  · rcases Yfind (o := 8) (n := qT y) (y := y) rfl d1.1 (by omega) with ⟨j, j1, j2, j3⟩ | ⟨j1, j2⟩
    · exact absurd (by rw [(d5 j j1).1, j2, hw]) (i1 j j1)
    · exact .inr ⟨j1, i2, j2⟩
/-- how a line ends, or is refused -/
def LN (x0 y0 : gS) (t L c : Nat) (A : Option (Int32 × gS)) (B : Option gS) : Prop := (∃ x' y', A = some (0, x') ∧ B = some y' ∧ FL x0 y0 t x' y') ∨ ∃ x' y' c', A = some (1, x') ∧ B = some y' ∧ RD x0 y0 t L c' x' y' ∧ c < c'
theorem LN.up {c2 : Nat} {A : Option (Int32 × gS)} {B : Option gS} (h : LN x0 y0 t L c A B) (hc : c2 ≤ c) : LN x0 y0 t L c2 A B := by
  rcases h with h | ⟨x', y', c', h1, h2, h3, h4⟩
  · exact .inl h
  · exact .inr ⟨x', y', c', h1, h2, h3, by omega⟩
theorem end_F (h : FL x0 y0 t x y) : fX11_readLine_207 y = some y := by
  unfold fX11_readLine_207 fX11_readLine_228
  rw [if_neg h.n1, if_neg h.n1]
theorem end_sp (h : RD x0 y0 t L c x y) : LN x0 y0 t L c (fX4_pass 59 x) (fX11_readLine_207 y) := by
  have hk : y.1 0 6 = 59 ↔ x.1 19 2 = 59 := h.kd.iff (a := 59) (b := 59) (by decide) (by omega)
  unfold fX4_pass fX11_readLine_207 fX11_readLine_228
  rw [h.f0, if_pos rfl]
  by_cases z : x.1 19 2 = 59
  · obtain ⟨x', y', c', b1, b2, b3, b4, b5, b6⟩ := step_sp h (by rw [z]; decide) (by rw [z]; decide)
    rw [if_pos z, if_pos (hk.mpr z), if_pos rfl, b1, b2, bd, bd]
    exact .inr ⟨x', y', c', rfl, rfl, b3, b4⟩
  · obtain ⟨x', y', r1, r2, r3⟩ := refuse_sp h (v := 2) (a := 2) rfl (by decide)
    rw [if_neg z, if_neg (fun q => z (hk.mp q)), r1, r2, bd, bd, if_neg r3.n1, gc_p (show gB 0 by decide)]
    exact .inl ⟨x', y', rfl, rfl, r3⟩
/-- what pass says is a truth -/
theorem LN_gB {A : Option (Int32 × gS)} {B : Option gS} (h : LN x0 y0 t L c A B) : LN x0 y0 t L c (A.bind fun q => gc (gB q.1) (some (q.1, q.2))) B := by
  rcases h with ⟨x', y', h1, h2, h3⟩ | ⟨x', y', c', h1, h2, h3, h4⟩
  · rw [h1, bd, gc_p (show gB 0 by decide)]
    exact .inl ⟨x', y', rfl, h2, h3⟩
  · rw [h1, bd, gc_p (show gB 1 by decide)]
    exact .inr ⟨x', y', c', rfl, h2, h3, h4⟩
theorem l_refuse {v : Int32} {a : Nat} (h : RD x0 y0 t L c x y) (hv : v = nI a) (ha : 1 ≤ a ∧ a ≤ 5) : ∃ x' y', ((fX4_refuse v x).bind fun q => gc (gB q.1) (some (q.1, q.2))) = some (0, x') ∧ fX11_wrong v y = some y' ∧ FL x0 y0 t x' y' := by
  obtain ⟨x', y', r1, r2, r3⟩ := refuse_sp h hv ha
  rw [r1, bd, gc_p (show gB 0 by decide)]
  exact ⟨x', y', rfl, r2, r3⟩
theorem l_figure (h : RD x0 y0 t L c x y) (hk : x.1 19 2 = 0) (hn : qF y < 8) : LN x0 y0 t L c (fX4_readFigure x) ((fX11_readFigure y).bind fun q => fX11_readLine_207 q) := by
  obtain ⟨x1, y1, c1, b1, b2, b3, b4, b5, b6⟩ := step_sp h (by rw [hk]; decide) (by rw [hk]; decide)
  obtain ⟨d1, d2, d3, d4⟩ := h.dr.1
  have en : y.1 0 43 = nI (qF y) := d1.1
  have e1 : y1.1 0 43 = y.1 0 43 := b6.1 0 43 (by omega)
  have e2 : x1.2.2 3 1 = t := b3.2.2.2.2.1
  have ht := h.2.2.2.2.2
  unfold fX4_readFigure fX11_readFigure fX11_newName
  rw [gc_p h.k8, h.2.2.2.2.1, d2, en, if_pos (show nI (qF y) < 8 from (nI_lt' (b := 8) (by omega) (by decide)).mpr hn), b1, b2, bd, bd]
  by_cases z : x1.1 19 2 = 19
  · rw [if_pos z, gc_p b3.k8, (isNm b3.kd).1 z, bd, e2]
    dsimp only
    rw [if_neg one0]
    have eF : qF y1 = qF y := by show vN (y1.1 0 43) = _; rw [e1]
    rcases fig_sp b3 z with ⟨i, i1, i2, i3⟩ | ⟨i1, i2, i3⟩
    · rw [e1, en] at i3
      obtain ⟨x', y', r1, r2, r3⟩ := l_refuse b3 (v := 3) (a := 3) rfl (by decide)
      rw [i2, bd]
      dsimp only
      rw [if_neg (show ¬ nI i = -1 from nI_m1 (by omega)), r1, i3, bd]
      dsimp only
      rw [if_neg (nI_nn (show i < 2 ^ 31 by omega)), r2, bd]
      unfold fX11_newName_33
      rw [if_neg r3.n0, bd, if_neg r3.n1, bd, end_F r3]
      exact .inl ⟨x', y', rfl, rfl, r3⟩
    · rw [e1, en] at i3
      rw [i2, bd]
      dsimp only
      rw [if_pos rfl, gc_p b3.k8, e2, i3, bd]
      dsimp only
      rw [if_pos (show (-1 : Int32) < 0 by decide)]
      unfold fX8_addFigure fX11_newName_33
      have ex : x1.1 t 12 = nI (qF y) := by rw [b5.2.1 t 12 (by omega), d2, en]
      have hw := b3.wq z
      rw [ex, if_neg (show ¬ 8 ≤ nI (qF y) from fun q => by have := (nI_le' (a := 8) (by decide) (by omega)).mp q; omega), gc_p (gI_nI hn (by decide)), nI_clamp (by omega), bd, b3.f0, if_pos le0, show (0 : Int32) + nI (qF y) = nI (qF y) by have := nI_ad 0 (qF y); rwa [Nat.zero_add] at this, gc_p (gI_nI (by omega) (by decide)), nI_clamp (by omega), wl_1, ex, nI_s]
      -- on to the next token
      have tk2 : TK (wi (wl x1 (t + 1 + 0) (qF y) (x1.2.1 19 5)) t 12 (nI (qF y + 1))) (wl y1 2 (qF y) (y1.2.1 0 9)) c1 L := TK_c b3.2.2.1 (fun k j q => by rw [wi_1, if_neg (by omega), wl_1]) (fun j => by rw [wi_2, wl_3, if_neg (by omega)]) (fun k j q => by rw [wl_1]) (by rw [wl_3, if_neg (by omega)])
      obtain ⟨x3, y3, c3, f1, f2, f3, f4, f5, f6⟩ := tok_step tk2 (by rw [wi_1, if_neg (by omega), wl_1, z]; decide) (by rw [wi_1, if_neg (by omega), wl_1, z]; decide)
      have g1 : ∀ k j, k ≠ 19 → x3.1 k j = if k = t ∧ j = 12 then nI (qF y + 1) else x1.1 k j := fun k j q => by rw [f5.2.1 k j q, wi_1, wl_1]
      have g2 : ∀ k j, k ≠ 19 → x3.2.1 k j = if k = t + 1 + 0 ∧ j = qF y then x1.2.1 19 5 else x1.2.1 k j := fun k j q => by rw [f5.2.2 k j q, wi_2, wl_3]
      have g3 : ∀ k j, ¬ (k = 0 ∧ (j = 4 ∨ j = 6 ∨ j = 7 ∨ j = 8)) → y3.1 k j = y1.1 k j := fun k j q => by rw [f6.1 k j q, wl_1]
      have g4 : ∀ k j, ¬ (k = 0 ∧ j = 9) → y3.2.1 k j = if k = 2 ∧ j = qF y then y1.2.1 0 9 else y1.2.1 k j := fun k j q => by rw [f6.2 k j q, wl_3]
      rw [f1, f2, bd, bd, bd, if_pos (show y3.1 0 2 = 0 by rw [g3 0 2 (by omega)]; exact b3.f0), bd, g3 0 43 (by omega), e1, en, nI_s]
      obtain ⟨m1, m2, m3, m4, m5, m6, m7⟩ := b3.dr
      have hy4 : ∀ k j, ¬ (k = 0 ∧ j = 43) → (wi y3 0 43 (nI (qF y + 1))).1 k j = y3.1 k j := fun k j q => by rw [wi_1, if_neg q]
      have e43 : (wi y3 0 43 (nI (qF y + 1))).1 0 43 = nI (qF y + 1) := by rw [wi_1, if_pos ⟨rfl, rfl⟩]
      have eQ : qF (wi y3 0 43 (nI (qF y + 1))) = qF y + 1 := by show vN ((wi y3 0 43 (nI (qF y + 1))).1 0 43) = _; rw [e43, vN_nI (by omega)]
      have rd4 : RD x0 y0 t L c3 x3 (wi y3 0 43 (nI (qF y + 1))) := by
        refine ⟨b3.1.tr ((FXr_wl.tr (FXr_wi (by omega))).tr f5.fr), b3.2.1.tr ((FYr_wl.tr f6.fr).tr (FYr_wi (.inl (by unfold scrY; omega)))), TK_c f3 (fun _ _ _ => rfl) (fun _ => rfl) (fun k j q => hy4 k j (by omega)) rfl, ⟨?_, ?_, ?_, ?_, ?_, ?_, ?_⟩, ?_, ht⟩
        · unfold DRf
          rw [eQ, e43, g1 t 12 (by omega), if_pos ⟨rfl, rfl⟩]
          obtain ⟨-, -, n3, n4⟩ := m1
          rw [eF] at n3 n4
          refine ⟨isN.of (by omega) (by decide), rfl, fun i hi => ?_, fun i j hi hj => ?_⟩
          · rw [g2 _ i (by omega), wi_2, g4 2 i (by omega)]
            by_cases e : i = qF y
            · rw [if_pos ⟨rfl, e⟩, if_pos ⟨rfl, e⟩, hw]
            · rw [if_neg (fun q => e q.2), if_neg (fun q => e q.2), n3 i (by omega)]
          · rw [wi_2, g4 2 i (by omega), g4 2 j (by omega)]
            by_cases e : i = qF y
            · by_cases e' : j = qF y
              · exact fun _ => e.trans e'.symm
              · rw [if_pos ⟨rfl, e⟩, if_neg (fun q => e' q.2)]
                exact fun q => absurd q.symm (i1 j (by omega))
            · by_cases e' : j = qF y
              · rw [if_neg (show ¬ (2 = 2 ∧ i = qF y) from fun q => e q.2), if_pos (show 2 = 2 ∧ j = qF y from ⟨rfl, e'⟩)]
                exact fun q => absurd q (i1 i (by omega))
              · rw [if_neg (show ¬ (2 = 2 ∧ i = qF y) from fun q => e q.2), if_neg (show ¬ (2 = 2 ∧ j = qF y) from fun q => e' q.2)]
                exact n4 i j (by omega) (by omega)
        · have q6 : qT y1 < 6 := m2.1.2
          refine DRt_ext m2 (by rw [hy4 0 44 (by omega), g3 0 44 (by omega)]) (by rw [g1 t 13 (by omega), if_neg (by omega)]) (by rw [g1 t 15 (by omega), if_neg (by omega)]) (fun k hk => ⟨?_, ?_, ?_, ?_, ?_, ?_, ?_⟩)
          · rw [g2 _ k (by omega), if_neg (by omega)]
          · rw [wi_2, g4 2 _ (by omega), if_neg (by omega)]
          · rw [g1 _ k (by omega), if_neg (by omega)]
          · rw [g1 _ k (by omega), if_neg (by omega)]
          · rw [hy4 _ k (by omega), g3 _ k (by omega)]
          · rw [hy4 _ k (by omega), g3 _ k (by omega)]
          · rw [hy4 _ k (by omega), g3 _ k (by omega)]
        · refine DRw_ext m3 (by rw [hy4 0 44 (by omega), g3 0 44 (by omega)]) (fun j => by rw [g1 _ j (by omega), if_neg (by omega)]) (fun k f _ _ => by rw [hy4 _ _ (by omega), g3 _ _ (by omega)])
        · refine DRm_ext m4 (by rw [eQ, eF]; omega) (by rw [hy4 0 45 (by omega), g3 0 45 (by omega)]) (by rw [g1 t 14 (by omega), if_neg (by omega)]) (fun m _ k k1 k2 => ⟨by rw [g1 _ m (by omega), if_neg (by omega)], by rw [hy4 _ m (by omega), g3 _ m (by omega)]⟩)
        · exact DRc_ext m5 (fun j j1 j2 => by rw [hy4 0 j (by omega), g3 0 j (by omega)]) (fun j j1 j2 => by rw [g1 t j (by omega), if_neg (by omega)]) (fun j j1 j2 => by rw [g1 3 j (by omega), if_neg (by omega)])
        · exact DRs_ext m6 (by rw [hy4 0 52 (by omega), g3 0 52 (by omega)]) (by rw [hy4 0 20 (by omega), g3 0 20 (by omega)]) (by rw [hy4 0 17 (by omega), g3 0 17 (by omega)]) (fun j => ⟨by rw [hy4 3 j (by omega), g3 3 j (by omega)], by rw [hy4 4 j (by omega), g3 4 j (by omega)]⟩) (fun j => by rw [g1 _ j (by omega), if_neg (by omega)]) (fun j => by rw [g1 _ j (by omega), if_neg (by omega)])
        · exact DRz_ext m7 (fun j q => by rw [hy4 0 j (by omega), g3 0 j (by omega)]) (fun j j1 j2 => by rw [g1 3 j (by omega), if_neg (by omega)])
        · rw [f5.1]; exact e2
      exact (LN_gB (end_sp rd4)).up (by omega)
  · obtain ⟨x', y', r1, r2, r3⟩ := l_refuse b3 (v := 2) (a := 2) rfl (by decide)
    rw [if_neg z, r1, (isNm b3.kd).2 z, bd]
    dsimp only
    rw [if_pos rfl, r2, bd]
    unfold fX11_newName_33
    rw [if_neg r3.n0, bd, if_neg r3.n1, bd, end_F r3]
    exact .inl ⟨x', y', rfl, rfl, r3⟩
end LI
