/-! ===== way ===== -/
def YLw (y : gS) (L : Nat → Nat → Nat) (ms : Nat → Nat) (i : Nat) (st : gS) : Prop := FYw y st ∧ (∀ t f, L t f ≤ 1000000) ∧ (∀ t f, t < 2 → f < 8 → st.1 31 (8 * t + f) = nI (L t f)) ∧ ∀ j, j < i → st.1 32 j = nI (ms j)
theorem Yway61 {y st : gS} (hw : WFy y) {o b g f : Nat} (ho : o < nT y) (hbT : b < nT y) (hb : y.1 28 1 = nI b) (hg : g < nF y) (hf : f < nF y) {A L : Nat → Nat → Nat} (hA : Ex y o b g 99 A) (hL : Ex y o b g 1000000 L) (hn : A 0 f < 99) (hl : YLw y L (mvs y o b A (A 0 f) f) 0 st) : ∃ st', hX11_way_61 (nI o) (nI g) FU (nI (A 0 f)) (nI f) 0 st = some (nI (A 0 f), wi st' 0 62 (nI (A 0 f))) ∧ YLw y L (mvs y o b A (A 0 f) f) (A 0 f) st' := by
  have hM := nM17 hw
  have hF := nF9 hw
  have h16 := (Ex_eq hw hg hA hA (by decide) (t := 0) (by decide) (by omega) hn).2
  obtain ⟨s, _, e, hp⟩ := lp (fun n (s : Int32 × Int32 × gS) => hX11_way_61 (nI o) (nI g) n (nI (A 0 f)) s.1 s.2.1 s.2.2) (A 0 f) (fun i s => s.1 = nI (fgs y o b A (A 0 f) f i) ∧ s.2.1 = nI i ∧ YLw y L (mvs y o b A (A 0 f) f) i s.2.2) (by
    intro n i ⟨l4, l5, st⟩ hi ⟨q1, q2, q3⟩
    dsimp only at q1 q2 q3
    subst q1 q2
    obtain ⟨p1, p2⟩ := pth hw hA hf hn i (by omega)
    obtain ⟨m1, m2⟩ := pthm hw hA hf hn hi
    obtain ⟨w1, w3, w4, w6⟩ := q3
    have hmM := m1.1
    have ht : i % 2 < 2 := Nat.mod_lt _ (by decide)
    have hw2 := w1.wf hw
    show ∃ s', fX11_way_61 (nI o) (nI g) (hX11_way_61 (nI o) (nI g) n) (nI (A 0 f)) (nI (fgs y o b A (A 0 f) f i)) (nI i) st = _ ∧ _
    unfold fX11_way_61 gl
    dsimp only
    rw [if_neg (nle hi (by omega)), show nI i - nI i / 2 * 2 = nI (i % 2) from pk_rem (d := 2) (by omega) (by decide) (by decide)]
    have hLf : L (i % 2) (fgs y o b A (A 0 f) f i) = A 0 f - i := by
      rw [(Ex_eq hw hg hA hL (by decide) ht (by omega) (by omega)).1, p2]
    have ev : ∀ j k76, j < nM y → fX11_way_76 (nI o) (nI g) (hX11_way_61 (nI o) (nI g) n) k76 (nI (A 0 f)) (nI (fgs y o b A (A 0 f) f i)) (nI i) (nI (i % 2)) (nI j) st = if fr y j = fgs y o b A (A 0 f) f i then (if cnb y (pr o b (i % 2)) j = true then (if L (1 - i % 2) (tO y j) + 1 = A 0 f - i then hX11_way_61 (nI o) (nI g) n (nI (A 0 f)) (nI (tO y j)) (nI (i + 1)) (wi st 32 i (nI j)) else k76 (nI (A 0 f)) (nI (fgs y o b A (A 0 f) f i)) (nI i) (nI (i % 2)) (nI (j + 1)) st) else k76 (nI (A 0 f)) (nI (fgs y o b A (A 0 f) f i)) (nI i) (nI (i % 2)) (nI (j + 1)) st) else k76 (nI (A 0 f)) (nI (fgs y o b A (A 0 f) f i)) (nI i) (nI (i % 2)) (nI (j + 1)) st := by
      intro j k76 hj
      have f1 := fr_lt hw hj
      have f2 := tO_lt hw hj
      have a1 := w3 (1 - i % 2) (tO y j)
      have e8 : 8 * (1 - nI (i % 2)) + nI (tO y j) = nI (8 * (1 - i % 2) + tO y j) := by
        rw [e1t ht, show 8 * nI (1 - i % 2) = nI (8 * (1 - i % 2)) from pk_mul 8 (1 - i % 2), nI_ad]
      have e9 : 8 * nI (i % 2) + nI (fgs y o b A (A 0 f) f i) = nI (8 * (i % 2) + fgs y o b A (A 0 f) f i) := by
        rw [show 8 * nI (i % 2) = nI (8 * (i % 2)) from pk_mul 8 (i % 2), nI_ad]
      unfold fX11_way_76 gl
      dsimp only
      rw [YtakerAt ht ((w1.now 1).trans hb), bd]
      dsimp only
      rw [Ycan hw2 (by rw [w1.nT]; exact pr_lt ho hbT) (by rw [w1.nM]; exact hj), bd]
      dsimp only
      rw [nI_clamp (show j < 2 ^ 31 by omega), nI_clamp (show i < 2 ^ 31 by omega), wi_ne (show (22 : Nat) ≠ 32 by decide), tO_e hw2 (by rw [w1.nM]; exact hj), fr_e hw2 (by rw [w1.nM]; exact hj), w1.tO, w1.fr, w1.cnb, e8, e9, nI_clamp (show 8 * (1 - i % 2) + tO y j < 2 ^ 31 by omega), nI_clamp (show 8 * (i % 2) + fgs y o b A (A 0 f) f i < 2 ^ 31 by omega), w4 (1 - i % 2) _ (by omega) (by omega), w4 (i % 2) _ ht (by omega), hLf, nI_s i, nI_s j, nI_s (L (1 - i % 2) (tO y j))]
      simp only [gc_p (gI_nI (show j < 16 by omega) (by decide)), gc_p (gI_nI (show i < 16 by omega) (by decide)), gc_p (gI_nI (show 8 * (1 - i % 2) + tO y j < 16 by omega) (by decide)), gc_p (gI_nI (show 8 * (i % 2) + fgs y o b A (A 0 f) f i < 16 by omega) (by decide))]
      by_cases z1 : fr y j = fgs y o b A (A 0 f) f i
      · rw [if_pos (by rw [z1]), if_pos z1]
        cases cnb y (pr o b (i % 2)) j
        · rw [if_pos zero0', if_neg (by decide)]
        · rw [if_neg one0', if_pos rfl]
          by_cases z2 : L (1 - i % 2) (tO y j) + 1 = A 0 f - i
          · rw [if_pos (by rw [z2]), if_pos z2]
          · rw [if_neg (fun q => z2 ((nI_inj (by omega) (by omega)).mp q)), if_neg z2]
      · rw [if_neg (fun q => z1 ((nI_inj (by omega) (by omega)).mp q)), if_neg z1]
    -- near by A, near by L
    have nr : ∀ j, j < nM y → (L (1 - i % 2) (tO y j) + 1 = A 0 f - i ↔ A (1 - i % 2) (tO y j) = A 0 f - i - 1) := fun j hj => by
      have f2 := tO_lt hw hj
      constructor
      · intro q
        have := (Ex_eq hw hg hL hA (by decide) (t := 1 - i % 2) (f := tO y j) (by omega) (by omega) (by omega)).1
        omega
      · intro q
        have := (Ex_eq hw hg hA hL (by decide) (t := 1 - i % 2) (f := tO y j) (by omega) (by omega) (by omega)).1
        omega
    obtain ⟨s, k, e, hq⟩ := lp (fun n2 (s : Int32 × gS) => hX11_way_76 (nI o) (nI g) (hX11_way_61 (nI o) (nI g) n) n2 (nI (A 0 f)) (nI (fgs y o b A (A 0 f) f i)) (nI i) (nI (i % 2)) s.1 s.2) (mvs y o b A (A 0 f) f i) (fun j s => s = (nI j, st)) (by
      intro n2 j s hj hs
      subst hs
      refine ⟨(nI (j + 1), st), ?_, rfl⟩
      show fX11_way_76 (nI o) (nI g) (hX11_way_61 (nI o) (nI g) n) (hX11_way_76 (nI o) (nI g) (hX11_way_61 (nI o) (nI g) n) n2) (nI (A 0 f)) (nI (fgs y o b A (A 0 f) f i)) (nI i) (nI (i % 2)) (nI j) st = _
      rw [ev j _ (by omega)]
      have hnn := m2 j hj
      by_cases z1 : fr y j = fgs y o b A (A 0 f) f i
      · rw [if_pos z1]
        by_cases z3 : cnb y (pr o b (i % 2)) j = true
        · rw [if_pos z3]
          by_cases z2 : L (1 - i % 2) (tO y j) + 1 = A 0 f - i
          · exact absurd ⟨by omega, z1, z3, (nr j (by omega)).mp z2⟩ hnn
          · rw [if_neg z2]
        · rw [if_neg z3]
      · rw [if_neg z1]) 0 (0, st) FU (by omega) rfl (FU_gt (by omega))
    subst hq
    refine ⟨(nI (fgs y o b A (A 0 f) f (i + 1)), nI (i + 1), wi st 32 i (nI (mvs y o b A (A 0 f) f i))), e.trans ?_, rfl, rfl, w1.tr (FYw_wi (by omega)), w3, fun t f ht hf8 => ?_, fun j hj => ?_⟩
    · show fX11_way_76 (nI o) (nI g) (hX11_way_61 (nI o) (nI g) n) (hX11_way_76 (nI o) (nI g) (hX11_way_61 (nI o) (nI g) n) k) (nI (A 0 f)) (nI (fgs y o b A (A 0 f) f i)) (nI i) (nI (i % 2)) (nI (mvs y o b A (A 0 f) f i)) st = _
      rw [ev _ _ hmM, if_pos m1.2.1, if_pos m1.2.2.1, if_pos ((nr _ hmM).mpr m1.2.2.2)]
      rfl
    · show (wi st 32 i _).1 31 _ = _
      rw [wi_ne (by decide)]; exact w4 t f ht hf8
    · show (wi st 32 i _).1 32 j = _
      rw [wi_1]
      by_cases z : j = i
      · rw [if_pos ⟨rfl, z⟩, z]
      · rw [if_neg (fun q => z q.2)]; exact w6 j (by omega)) 0 (nI f, 0, st) FU (by omega) ⟨rfl, rfl, hl⟩ (FU_gt (by omega))
  obtain ⟨l4, l5, s2⟩ := s
  obtain ⟨q1, q2, q3⟩ := hp
  dsimp only at q1 q2 q3
  subst q1 q2
  refine ⟨s2, e.trans ?_, q3⟩
  show fX11_way_61 (nI o) (nI g) _ (nI (A 0 f)) _ (nI (A 0 f)) s2 = _
  unfold fX11_way_61
  rw [if_pos (yle _)]
/-- nothing lies there -/
theorem Inv_clear {x y : gS} (h : Inv x y) : Inv (wi x 150 7 0) (wi y 0 62 0) := by
  refine Inv_lie h rfl (FXw_wi (x := x) (by omega)).2 (FYw_wi (x := y) (by omega)) ⟨?_, ?_, fun i hi => ?_⟩
  · rw [wi_1, if_pos ⟨rfl, rfl⟩]; exact isN.of (j := 0) (by decide) (by decide)
  · rw [wi_1, if_pos ⟨rfl, rfl⟩, wi_1, if_pos ⟨rfl, rfl⟩]
  · rw [wi_1, if_pos ⟨rfl, rfl⟩] at hi
    exact absurd hi (by show ¬ i < 0; omega)
theorem s_way (a1 a2 : Int32) : sOK Inv (fX10_way a1 a2) (fX11_way a1 a2) := by
  intro x0 y0 h0
  unfold fX10_way fX11_way fX9_clear
  rw [bd]
  have h := Inv_clear h0
  have h7 : (wi x0 150 7 0).1 150 7 = nI 0 := by rw [wi_1, if_pos ⟨rfl, rfl⟩]; rfl
  have h62 : (wi y0 0 62 0).1 0 62 = nI 0 := by rw [wi_1, if_pos ⟨rfl, rfl⟩]; rfl
  generalize wi x0 150 7 0 = x at h h7 ⊢
  generalize wi y0 0 62 0 = y at h h62 ⊢
  have hw := h.wf
  have hF := nF9 hw
  rcases other_cases h a1 with ⟨e1, e2⟩ | ⟨o, b, ho, hb, rfl, hy, hx3, e1, e2⟩
  · rw [e1, e2, bd, bd]; exact ⟨_, _, _, rfl, rfl, h⟩
  rw [e1, e2, bd, bd]
  dsimp only
  rw [if_neg one0, if_neg one0, gc_p h.told8]
  rcases inR_dec a2 (y.1 0 48) with q | q
  rotate_left
  · rw [(isFig hw a2).2 q, (hasFig x _ a2).2 (by rw [h.xt.1.1]; exact q), bd, bd]
    exact ⟨_, _, _, rfl, rfl, h⟩
  rw [(isFig hw a2).1 q, (hasFig x _ a2).1 (by rw [h.xt.1.1]; exact q), bd, bd]
  dsimp only
  obtain ⟨g, hg, rfl⟩ := inF hw q
  rw [if_neg one0, if_neg one0, gc_p h.told8]
  obtain ⟨f, hf, f1, f2⟩ := now_fig h (by omega)
  obtain ⟨A, hA, hX⟩ := Xfewest h h7 ho hb hf hg hx3 f2
  obtain ⟨L, y1, l1, l2, hL⟩ := YlayLeft hw ho hb hy hg (FY.rf y)
  have e28 : y1.1 28 0 = nI f := (l2.1.now 0).trans f1
  have hLb := l2.2.1 0 f
  rw [l1, bd, gc_p (show gI 0 18 by decide), show (0 : Int32).toNatClampNeg = 0 from rfl, e28, gc_p (gI_nI (show f < 16 by omega) (by decide)), nI_clamp (show f < 2 ^ 31 by omega)]
  have hrow : y1.1 31 f = nI (L 0 f) := by
    have := l2.2.2 0 f (by decide) (by omega)
    rwa [show 8 * 0 + f = f by omega] at this
  rw [hrow]
  unfold gl
  dsimp only
  rw [gc_p (show gI 0 18 by decide)]
  rcases hX with ⟨z, x', g1, g2⟩ | ⟨z, x', g1, g2⟩
  · have hz : ¬ L 0 f < 1000000 := fun q => by
      have := Ex_eq hw hg hL hA (by decide) (t := 0) (by decide) (by omega) q
      omega
    rw [g1, bd, if_neg (show ¬ nI (L 0 f) < 1000000 from fun q => hz ((nI_lt' (b := 1000000) (by omega) (by decide)).mp q))]
    exact ⟨_, _, _, rfl, rfl, Inv_fr h g2 l2.1⟩
  · obtain ⟨u1, u2⟩ := Ex_eq hw hg hA hL (by decide) (t := 0) (by decide) (by omega) z
    obtain ⟨y2, p1, p2⟩ := Yway61 hw ho hb hy hg hf hA hL z ⟨l2.1.w, l2.2.1, l2.2.2, fun j hj => absurd hj (by omega)⟩
    rw [g1, bd, u1, if_pos (show nI (A 0 f) < 1000000 from (nI_lt' (b := 1000000) (by omega) (by decide)).mpr (by omega)), p1]
    have fy : FYw y (wi y2 0 62 (nI (A 0 f))) := p2.1.tr (FYw_wi (by omega))
    refine ⟨_, _, _, rfl, rfl, Inv_lie h g2.1.1 g2.1.2 fy ⟨?_, ?_, fun i hi => ?_⟩⟩
    · rw [wi_1, if_pos ⟨rfl, rfl⟩]; exact isN.of (by omega) (by decide)
    · rw [wi_1, if_pos ⟨rfl, rfl⟩]; exact g2.2.2.2.2.1
    · rw [wi_1, if_pos ⟨rfl, rfl⟩, vN_nI (by omega)] at hi
      rw [wi_ne (by decide), g2.2.2.2.2.2 i hi, p2.2.2.2 i hi]
