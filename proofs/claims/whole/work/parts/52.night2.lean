theorem ntR_a {y : gS} {g : Nat → Int32} {i : Nat} (hi : i < 5) : ntR y g (4 + i) = if i < nT y then g (4 + i) + Wv y i (g 0) else g (4 + i) := by
  unfold ntR
  rw [if_neg (by omega), if_neg (by omega), if_neg (by omega), if_neg (by omega), if_neg (by omega)]
  by_cases z : i < nT y
  · rw [if_pos (by omega), show 4 + i - 4 = i by omega, if_pos z]
  · rw [if_neg (by omega), if_neg (by omega), if_neg z]
theorem ntR_b {y : gS} {g : Nat → Int32} {i : Nat} (hi : i < 5) (hT : nT y < 6) : ntR y g (9 + i) = if g 1 = nI i then g (9 + i) + 1 else g (9 + i) := by
  unfold ntR
  rw [if_neg (by omega), if_neg (by omega), if_neg (by omega), if_neg (by omega), if_neg (by omega), if_neg (by omega), show 9 + i - 9 = i by omega]
  by_cases z : g 1 = nI i
  · rw [if_pos ⟨by omega, by omega, z⟩, if_pos z]
  · rw [if_neg (fun q => z q.2.2), if_neg z]
theorem Xsleep {x y : gS} (h : Inv x y) : ∃ x1, fX5_sleep 20 (x.2.2 0 9) x = some x1 ∧ x1.2.2 = x.2.2 ∧ (∀ k j, ¬ (20 ≤ k ∧ k ≤ 22) → x1.1 k j = x.1 k j) ∧ stR x1 20 (ntR y (y.1 28)) := by
  have hw := h.wf
  have hx := h.xt
  have hT := nT6 hw
  have hF := nF9 hw
  have ht := h.t4
  obtain ⟨ok, r0, r1, r2, r3, r4, r5, r6, r7, r8, r9⟩ := h.now
  generalize hg : y.1 28 = g at *
  have hv : (nF y = 0 ∧ g 0 = -1) ∨ isN (g 0) (nF y) := ok.1
  unfold fX5_sleep
  obtain ⟨s, _, e, hp⟩ := lp (fun n (s : Int32 × gS) => hX5_sleep_2 20 (x.2.2 0 9) n s.1 s.2) (nT y) (fun i s => s.1 = nI i ∧ s.2.2 = x.2 ∧ (∀ k j, k ≠ 21 → s.2.1 k j = x.1 k j) ∧ ∀ j, j < 5 → s.2.1 21 j = if j < i then g (4 + j) + Wv y j (g 0) else g (4 + j)) (by
    intro n i ⟨l2, st⟩ hi ⟨q1, q2, q3, q4⟩
    dsimp only at q1 q2 q3 q4
    subst q1
    have hxs : XT st (x.2.2 0 9) y := fr_xt (y := y) (y' := y) (CX := fun k _ => k = 21) (CY := fun _ _ => False) q3 (fun _ _ _ => rfl) (by intros; omega) (fun _ _ _ h => h) ht hx
    show ∃ s', fX5_sleep_2 20 _ (hX5_sleep_2 20 _ n) (nI i) st = _ ∧ _
    unfold fX5_sleep_2
    rw [xT hw hxs, if_neg (nle hi (by omega)), gc_p (gI_nI (by omega) (by decide)), q3 20 2 (by decide), r0, XworthV hw hxs hi hv, bd]
    dsimp only
    rw [gc_p (gI_nI (by omega) (by decide)), nI_clamp (by omega), nI_s]
    refine ⟨(_, _), rfl, rfl, q2, fun k j hk => ?_, fun j hj => ?_⟩
    · show (wi st 21 i _).1 k j = _
      rw [wi_ne hk]; exact q3 k j hk
    · show (wi st 21 i (st.1 21 i + Wv y i (g 0))).1 21 j = _
      rw [q4 i (by omega), if_neg (show ¬ i < i by omega), wi_1]
      by_cases z : j = i
      · rw [if_pos ⟨rfl, z⟩, if_pos (by omega), z]
      · rw [if_neg (fun q => z q.2), q4 j hj]
        by_cases z2 : j < i
        · rw [if_pos z2, if_pos (by omega)]
        · rw [if_neg z2, if_neg (by omega)]) 0 (0, x) FU (by omega) ⟨rfl, rfl, fun _ _ _ => rfl, fun j hj => by rw [if_neg (by omega)]; exact r8 j hj⟩ (FU_gt (by omega))
  obtain ⟨l2, st⟩ := s
  obtain ⟨q1, q2, q3, q4⟩ := hp
  dsimp only at q1 q2 q3 q4
  subst q1
  have hxs : XT st (x.2.2 0 9) y := fr_xt (y := y) (y' := y) (CX := fun k _ => k = 21) (CY := fun _ _ => False) q3 (fun _ _ _ => rfl) (by intros; omega) (fun _ _ _ h => h) ht hx
  -- behind the sleeper
  have key : ∀ s2 : gS, s2.2 = x.2 → (∀ k j, ¬ (k = 21 ∨ k = 22) → s2.1 k j = x.1 k j) → (∀ j, j < 5 → s2.1 21 j = if j < nT y then g (4 + j) + Wv y j (g 0) else g (4 + j)) → (∀ j, j < 5 → s2.1 22 j = if g 1 = nI j then g (9 + j) + 1 else g (9 + j)) → ∃ x1, fX5_sleep_58 20 (x.2.2 0 9) s2 = some x1 ∧ x1.2.2 = x.2.2 ∧ (∀ k j, ¬ (20 ≤ k ∧ k ≤ 22) → x1.1 k j = x.1 k j) ∧ stR x1 20 (ntR y g) := by
    intro s2 p1 p2 p3 p4
    have a16 : s2.1 (x.2.2 0 9) 16 = y.1 0 51 := (p2 _ 16 (by omega)).trans hx.1.2.2.2
    have a12 : s2.1 (x.2.2 0 9) 12 = nI (nF y) := (p2 _ 12 (by omega)).trans (xF hw hx)
    have b20 : ∀ j, s2.1 20 j = x.1 20 j := fun j => p2 20 j (by omega)
    have row : ∀ (x1 : gS), (∀ k j, k ≠ 20 → x1.1 k j = s2.1 k j) → (∀ j, x1.1 20 j = if j = 2 then (if g 2 + 1 < y.1 0 51 then g 0 else if nF y = 0 then -1 else 0) else if j = 4 then (if g 2 + 1 < y.1 0 51 then g 2 + 1 else 0) else if j = 5 then 0 else if j = 7 then (if g 2 + 1 < y.1 0 51 then g 15 else g 15 + 1) else if j = 8 then g 16 + 1 else x.1 20 j) → stR x1 20 (ntR y g) := by
      intro x1 o1 o2
      have nn : ∀ j, ¬ (4 ≤ j ∧ j < 4 + nT y) → ¬ (9 ≤ j ∧ j < 14) → j ≠ 0 → j ≠ 2 → j ≠ 3 → j ≠ 15 → j ≠ 16 → ntR y g j = g j := fun j c1 c2 c3 c4 c5 c6 c7 => by
        unfold ntR
        rw [if_neg c3, if_neg c4, if_neg c5, if_neg c6, if_neg c7, if_neg c1, if_neg (fun q => c2 ⟨q.1, q.2.1⟩)]
      refine ⟨?_, ?_, ?_, ?_, ?_, ?_, ?_, ?_, fun i hi => ?_, fun i hi => ?_⟩
      · rw [o2]; rfl
      · rw [o2, nn 1 (by omega) (by omega) (by omega) (by omega) (by omega) (by omega) (by omega)]; exact r1
      · rw [o2]; rfl
      · rw [o2]; rfl
      · rw [o2, nn 14 (by omega) (by omega) (by omega) (by omega) (by omega) (by omega) (by omega)]; exact r4
      · rw [o2]; rfl
      · rw [o2]; rfl
      · rw [o2, nn 17 (by omega) (by omega) (by omega) (by omega) (by omega) (by omega) (by omega)]; exact r7
      · show x1.1 21 i = _
        rw [o1 21 i (by decide), p3 i hi, ntR_a hi]
      · show x1.1 22 i = _
        rw [o1 22 i (by decide), p4 i hi, ntR_b hi hT]
    have fr1 : ∀ (x1 : gS), (∀ k j, k ≠ 20 → x1.1 k j = s2.1 k j) → ∀ k j, ¬ (20 ≤ k ∧ k ≤ 22) → x1.1 k j = x.1 k j := fun x1 o1 k j hk => (o1 k j (by omega)).trans (p2 k j (by omega))
    unfold fX5_sleep_58 fX5_sleep_84
    have a1 : ∀ v, (wi s2 20 4 v).1 20 4 = v := fun v => by rw [wi_1, if_pos ⟨rfl, rfl⟩]
    have a2 : ∀ v b, (wi s2 20 4 v).1 (x.2.2 0 9) b = s2.1 (x.2.2 0 9) b := fun v b => wi_ne (by omega)
    rw [a1, a2, a16, b20 4, r2]
    by_cases z : g 2 + 1 < y.1 0 51
    · rw [if_pos z]
      refine ⟨_, rfl, by show s2.2.2 = _; rw [p1], fr1 _ (fun k j hk => by rw [wi_ne hk, wi_ne hk, wi_ne hk]), row _ (fun k j hk => by rw [wi_ne hk, wi_ne hk, wi_ne hk]) (fun j => ?_)⟩
      simp only [if_pos z]
      by_cases j8 : j = 8
      · subst j8; rw [wi_1, if_pos ⟨rfl, rfl⟩, wi_1, if_neg (by omega), wi_1, if_neg (by omega), b20, r6]; rfl
      by_cases j5 : j = 5
      · subst j5; rw [wi_1, if_neg (by omega), wi_1, if_pos ⟨rfl, rfl⟩]; rfl
      by_cases j4 : j = 4
      · subst j4; rw [wi_1, if_neg (by omega), wi_1, if_neg (by omega), wi_1, if_pos ⟨rfl, rfl⟩]; rfl
      rw [wi_1, if_neg (by omega), wi_1, if_neg (by omega), wi_1, if_neg (by omega), b20, if_neg j4, if_neg j5, if_neg j8]
      by_cases j2 : j = 2
      · subst j2; exact r0
      rw [if_neg j2]
      by_cases j7 : j = 7
      · subst j7; exact r5
      rw [if_neg j7]
    · rw [if_neg z]
      unfold fX5_drop fX5_drop_13
      rw [a2, a12]
      have fin : ∀ v, v = (if nF y = 0 then (-1 : Int32) else 0) → ∃ x1, ((some (wi (wi (wi (wi s2 20 4 (g 2 + 1)) 20 2 v) 20 4 0) 20 7 ((wi (wi (wi s2 20 4 (g 2 + 1)) 20 2 v) 20 4 0).1 20 7 + 1))).bind fun q => some (wi (wi q 20 5 0) 20 8 ((wi q 20 5 0).1 20 8 + 1))) = some x1 ∧ x1.2.2 = x.2.2 ∧ (∀ k j, ¬ (20 ≤ k ∧ k ≤ 22) → x1.1 k j = x.1 k j) ∧ stR x1 20 (ntR y g) := by
        intro v hv2
        rw [bd]
        refine ⟨_, rfl, by show s2.2.2 = _; rw [p1], fr1 _ (fun k j hk => by rw [wi_ne hk, wi_ne hk, wi_ne hk, wi_ne hk, wi_ne hk, wi_ne hk]), row _ (fun k j hk => by rw [wi_ne hk, wi_ne hk, wi_ne hk, wi_ne hk, wi_ne hk, wi_ne hk]) (fun j => ?_)⟩
        simp only [if_neg z]
        by_cases j8 : j = 8
        · subst j8; rw [wi_1, if_pos ⟨rfl, rfl⟩, wi_1, if_neg (by omega), wi_1, if_neg (by omega), wi_1, if_neg (by omega), wi_1, if_neg (by omega), wi_1, if_neg (by omega), b20, r6]; rfl
        by_cases j5 : j = 5
        · subst j5; rw [wi_1, if_neg (by omega), wi_1, if_pos ⟨rfl, rfl⟩]; rfl
        by_cases j7 : j = 7
        · subst j7; rw [wi_1, if_neg (by omega), wi_1, if_neg (by omega), wi_1, if_pos ⟨rfl, rfl⟩, wi_1, if_neg (by omega), wi_1, if_neg (by omega), wi_1, if_neg (by omega), b20, r5]; rfl
        by_cases j4 : j = 4
        · subst j4; rw [wi_1, if_neg (by omega), wi_1, if_neg (by omega), wi_1, if_neg (by omega), wi_1, if_pos ⟨rfl, rfl⟩]; rfl
        by_cases j2 : j = 2
        · subst j2; rw [wi_1, if_neg (by omega), wi_1, if_neg (by omega), wi_1, if_neg (by omega), wi_1, if_neg (by omega), wi_1, if_pos ⟨rfl, rfl⟩]; exact hv2
        rw [wi_1, if_neg (by omega), wi_1, if_neg (by omega), wi_1, if_neg (by omega), wi_1, if_neg (by omega), wi_1, if_neg (by omega), wi_1, if_neg (by omega), b20, if_neg j2, if_neg j4, if_neg j5, if_neg j7, if_neg j8]
      by_cases z0 : nF y = 0
      · rw [if_pos (by rw [z0]; decide)]
        exact fin _ (by rw [if_pos z0])
      · rw [if_neg (fun q => by have := (nI_le' (b := 0) (by omega) (by decide)).mp q; omega)]
        exact fin _ (by rw [if_neg z0])
  have v1 : st.1 20 3 = g 1 := (q3 20 3 (by decide)).trans r1
  have s22 : ∀ j, j < 5 → st.1 22 j = g (9 + j) := fun j hj => (q3 22 j (by decide)).trans (r9 j hj)
  have fin : ∀ k, fX5_sleep_2 20 (x.2.2 0 9) k (nI (nT y)) st = ((fX8_hasTribe (x.2.2 0 9) (g 1) st).bind fun q2_1 => (if q2_1.1 = 0 then (fX5_sleep_58 20 (x.2.2 0 9) q2_1.2) else (gc (gI (q2_1.2.1 20 3) 5) (gc (gI (q2_1.2.1 20 3) 5) (fX5_sleep_58 20 (x.2.2 0 9) (wi q2_1.2 (20 + 1 + 1) (q2_1.2.1 20 3).toNatClampNeg ((q2_1.2.1 (20 + 1 + 1) (q2_1.2.1 20 3).toNatClampNeg) + 1))))))) := fun k => by
    unfold fX5_sleep_2
    rw [xT hw hxs, if_pos (yle _), v1]
  rcases ok.2.1 with z | z
  · obtain ⟨x1, p1, p2⟩ := key st q2 (fun k j hk => q3 k j (by omega)) q4 (fun j hj => by
      rw [s22 j hj, if_neg (fun q => by rw [z.2] at q; exact nI_m1 (a := j) (by omega) q.symm)])
    refine ⟨x1, e.trans ((fin _).trans ?_), p2⟩
    rw [(hasTri st _ _).2 (fun q => q.1 (by rw [z.2]; decide)), bd, if_pos rfl, p1]
  · have z1 := z.1
    have z2 := z.2
    generalize vN (g 1) = b at z1 z2
    obtain ⟨x1, p1, p2⟩ := key (wi st 22 b (st.1 22 b + 1)) q2 (fun k j hk => by rw [wi_ne (by omega)]; exact q3 k j (by omega)) (fun j hj => by rw [wi_ne (by decide)]; exact q4 j hj) (fun j hj => by
      rw [s22 b (by omega), wi_1]
      by_cases zj : j = b
      · rw [if_pos ⟨rfl, zj⟩, if_pos (by rw [z1, zj]), zj]
      · rw [if_neg (fun q => zj q.2), s22 j hj, if_neg (fun q => by
            rw [z1] at q
            exact zj ((nI_inj (by omega) (by omega)).mp q).symm)])
    refine ⟨x1, e.trans ((fin _).trans ?_), p2⟩
    rw [z1, Xtri hw hxs.1 z2, bd]
    dsimp only
    rw [if_neg one0, v1, z1, gc_p (gI_nI (by omega) (by decide)), gc_p (gI_nI (by omega) (by decide)), nI_clamp (by omega)]
    exact p1
theorem s_night : sOK Inv fX10_night fX11_night := by
  intro x y h
  have hw := h.wf
  have hx := h.xt
  have hT := nT6 hw
  have hF := nF9 hw
  obtain ⟨ok, r0, r1, r2, r3, r4, r5, r6, r7, r8, r9⟩ := id h.now
  unfold fX10_night fX11_night
  rw [gc_p (show gI 16 18 by decide), show (16 : Int32).toNatClampNeg = 16 from rfl, r6]
  have d1 := ok.2.2.2.1
  have d2 := ok.2.2.2.2
  generalize hd : vN (y.1 28 16) = d at d1 d2
  by_cases z : d = 999
  · rw [d1, z, if_neg (by decide), if_pos (show nI 999 = 999 from rfl)]
    exact ⟨_, _, _, rfl, rfl, h⟩
  · rw [d1, if_pos (show nI d < 999 from (nI_lt' (b := 999) (by omega) (by decide)).mpr (by omega)), if_neg (show ¬ nI d = 999 from fun q => z ((nI_inj (by omega) (by decide)).mp (show nI d = nI 999 from q)))]
    rw [gc_p h.told8, r0, XallV hw hx ok.1, bd]
    dsimp only
    rw [gc_p h.told8]
    obtain ⟨x1, f1, f2, f3, f4⟩ := Xsleep h
    obtain ⟨x2, y1, e1, e2, e3, e4, e5⟩ := keep_act (x1 := x1) h f2 (fun k j hk => f3 k j (by omega))
    rw [f1, bd, e1, bd, e2, bd]
    obtain ⟨y2, l1, l2, l3⟩ := Yload y1
    have hw1 : WFy y1 := fr_wf (x := x) (x' := x) (CX := fun _ _ => False) (fun _ _ _ => rfl) e4 (fun _ _ h => h.elim) (by intros; omega) hw
    have hw2 := l2.wf hw1
    have a28 : ∀ j, y1.1 28 j = y.1 28 j := fun j => e4 28 j (by omega)
    have nFe : nF y2 = nF y := by rw [l2.nF]; show vN (y1.1 0 48) = vN (y.1 0 48); rw [e4 0 48 (by omega)]
    have nTe : nT y2 = nT y := by rw [l2.nT]; show vN (y1.1 0 49) = vN (y.1 0 49); rw [e4 0 49 (by omega)]
    have hr : rowF y2 (y.1 28) := by unfold rowF; rw [nFe, nTe]; exact ⟨ok.1, ok.2.1⟩
    obtain ⟨y3, g1, g2, g3⟩ := YgoNight hw2 (g := y.1 28) (fun j hj => (l3 j hj).trans (a28 j)) hr
    have woe : ∀ k f, wo y2 k f = wo y k f := fun k f => by rw [l2.wo]; show vN (y1.1 15 _) = vN (y.1 15 _); rw [e4 15 _ (by omega)]
    have Wve : ∀ k v, Wv y2 k v = Wv y k v := fun k v => by unfold Wv; rw [woe]
    have SWe : ∀ n v, SW y2 v n = SW y v n := fun n v => by
      induction n with
      | zero => rfl
      | succ n ih => rw [SW, SW, ih, Wve]
    have ce : y2.1 0 51 = y.1 0 51 := (l2 0 51 (by unfold scrY; omega)).trans (e4 0 51 (by omega))
    have ntE : ntR y2 (y.1 28) = ntR y (y.1 28) := by funext j; unfold ntR; rw [ce, nFe, nTe, Wve]
    rw [l1, bd, g1, bd]
    dsimp only
    rw [SWe, nTe]
    have g4 := l2.tr g2
    obtain ⟨s, _, e, hp⟩ := lp (fun n (s : Int32 × gS) => hX11_night_30 n (SW y (y.1 28 0) (nT y)) s.1 s.2) 18 (fun i s => s.1 = nI i ∧ (∀ k j, k ≠ 28 → s.2.1 k j = y3.1 k j) ∧ ∀ j, j < i → s.2.1 28 j = y3.1 29 j) (by
      intro n i ⟨l1, st⟩ hi ⟨q1, q2, q3⟩
      dsimp only at q1 q2 q3
      subst q1
      show ∃ s', fX11_night_30 (hX11_night_30 n) _ (nI i) st = _ ∧ _
      unfold fX11_night_30
      rw [if_neg (show ¬ 18 ≤ nI i from nI_ge (b := 18) (by omega) (by omega)), gc_p (gI_nI (by omega) (by decide)), gc_p (gI_nI (by omega) (by decide)), nI_clamp (by omega), nI_s]
      refine ⟨(_, _), rfl, rfl, fun k j hk => ?_, fun j hj => ?_⟩
      · show (wi st 28 i _).1 k j = _
        rw [wi_ne hk]; exact q2 k j hk
      · show (wi st 28 i (st.1 29 i)).1 28 j = _
        rw [wi_1]
        by_cases z : j = i
        · rw [if_pos ⟨rfl, z⟩, z]; exact q2 29 i (by decide)
        · rw [if_neg (fun q => z q.2)]; exact q3 j (by omega)) 0 (0, y3) FU (by omega) ⟨rfl, fun _ _ _ => rfl, fun j hj => absurd hj (by omega)⟩ (FU_gt (by omega))
    obtain ⟨l1, st⟩ := s
    obtain ⟨q1, q2, q3⟩ := hp
    dsimp only at q1 q2 q3
    subst q1
    have e6 : hX11_night_30 FU (SW y (y.1 28 0) (nT y)) 0 y3 = some (SW y (y.1 28 0) (nT y), st) := e.trans (by
      show fX11_night_30 _ _ _ st = _
      unfold fX11_night_30
      rw [if_pos (show (18 : Int32) ≤ nI 18 by decide)])
    rw [e6]
    have row : ∀ j, j < 18 → st.1 28 j = ntR y (y.1 28) j := fun j hj => by rw [q3 j hj, g3 j hj, ntE]
    have rE : rwE (ntR y (y.1 28)) (st.1 28) := fun j hj => (row j hj).symm
    have hI := e5 st (fun k j hk => by
      rw [q2 k j (by omega)]; exact g4 k j (fun z => hk (Or.inl z))) (rowOK_E rE (by
        obtain ⟨o1, o2, o3, o4⟩ := ok
        have := ntR_F hw (g := y.1 28) ⟨o1, o2⟩
        refine ⟨this.1, this.2, Or.inl rfl, ?_⟩
        show isN (y.1 28 16 + 1) 1000
        rw [d1, nI_s]
        exact isN.of (by omega) (by decide))) (stR_E rE f4)
    exact ⟨_, _, _, rfl, rfl, hI⟩
/-- so many nights on -/
def ntN (y : gS) (g : Nat → Int32) : Nat → Nat → Int32
  | 0 => g
  | n + 1 => ntR y (ntN y g n)
theorem ntN_F {y : gS} {g : Nat → Int32} (hw : WFy y) (h : rowF y g) (n : Nat) : rowF y (ntN y g n) := by
  induction n with
  | zero => exact h
  | succ n ih => exact ntR_F hw ih
theorem s_will (a1 a2 : Int32) : sOK Inv (fX10_will a1 a2) (fX11_will a1 a2) := by
  intro x y h
  have hw := h.wf
  have hx := h.xt
  have hT := nT6 hw
  have hF := nF9 hw
  obtain ⟨ok, r0, r1, r2, r3, r4, r5, r6, r7, r8, r9⟩ := id h.now
  unfold fX10_will fX11_will
  rw [gc_p h.told8]
  rcases inR_dec a1 (y.1 0 49) with q | q
  rotate_left
  · rw [(isTri h.wf a1).2 q, (hasTri x _ a1).2 (by rw [h.xt.1.2.1]; exact q), bd, bd]
    exact ⟨_, _, _, rfl, rfl, h⟩
  rw [(isTri h.wf a1).1 q, (hasTri x _ a1).1 (by rw [h.xt.1.2.1]; exact q), bd, bd]
  dsimp only
  rw [if_neg one0, if_neg one0, isIn_c, bd]
  dsimp only
  have hi : 60 < a2 ↔ ¬ a2 ≤ 60 := by
    rw [Int32.lt_iff_toInt_lt, Int32.le_iff_toInt_le]; omega
  by_cases h1 : a2 < 0
  · rw [if_pos h1, if_neg (show ¬ (¬ a2 < 0 ∧ ¬ 60 < a2) from fun q => q.1 h1)]
    exact ⟨_, _, _, rfl, rfl, h⟩
  rw [if_neg h1]
  by_cases h2 : a2 ≤ 60
  rotate_left
  · rw [if_neg h2, if_neg (show ¬ (¬ a2 < 0 ∧ ¬ 60 < a2) from fun q => q.2 (hi.mpr h2))]
    exact ⟨_, _, _, rfl, rfl, h⟩
  have h3 : ¬ 60 < a2 := fun z => hi.mp z h2
  rw [if_pos h2, if_pos (show (¬ a2 < 0 ∧ ¬ 60 < a2) from ⟨h1, h3⟩), if_neg one0, gc_p h.told8]
  have hN := rng (u := 60) (by decide) h1 h3
  obtain ⟨N, hn, rfl⟩ : ∃ n, n < 61 ∧ a2 = nI n := ⟨_, hN.2, hN.1⟩
  obtain ⟨k, hk, rfl⟩ := inT h.wf q
  have hrow : rowF y (y.1 28) := ⟨ok.1, ok.2.1⟩
  have ceX : x.1 (x.2.2 0 9) 16 = y.1 0 51 := hx.1.2.2.2
  -- the class
  have hX : fX5_hasBehind 20 (x.2.2 0 9) (nI k) (nI N) x = some (ntN y (y.1 28) N (4 + k), x) := by
    unfold fX5_hasBehind
    rw [Xtri hw hx.1 hk, bd]
    dsimp only
    rw [if_neg one0, gc_p (gI_nI (by omega) (by decide)), nI_clamp (by omega)]
    unfold gl
    dsimp only
    obtain ⟨s, _, e, hp⟩ := lp (fun n (s : Int32 × Int32 × Int32 × Int32 × gS) => hX5_hasBehind_33 20 (x.2.2 0 9) (nI k) (nI N) n s.1 s.2.1 s.2.2.1 s.2.2.2.1 s.2.2.2.2) N (fun i s => s.1 = ntN y (y.1 28) i (4 + k) ∧ (s.2.1 = ntN y (y.1 28) i 0 ∨ (nF y = 0 ∧ s.2.1 = 0)) ∧ s.2.2.1 = ntN y (y.1 28) i 2 ∧ s.2.2.2.1 = nI i ∧ s.2.2.2.2 = x) (by
      intro n i ⟨l4, l5, l6, l7, st⟩ hi ⟨q1, q2, q3, q4, q5⟩
      dsimp only at q1 q2 q3 q4 q5
      subst q1 q3 q4 q5
      have hrF := ntN_F hw hrow i
      have hwo : fX8_worthOf (st.2.2 0 9) (nI k) l5 st = some (Wv y k (ntN y (y.1 28) i 0), st) := by
        rcases q2 with z | z
        · rw [z]; exact XworthV hw hx hk hrF.1
        · rw [z.2]
          have hz : fX8_hasFigure (st.2.2 0 9) 0 st = some (0, st) := (hasFig st _ 0).2 (fun q => q.2 (by rw [xF hw hx, z.1]; decide))
          have hv : ntN y (y.1 28) i 0 = -1 := by
            rcases hrF.1 with w | w
            · exact w.2
            · have := w.2; omega
          unfold fX8_worthOf fX8_isWorthTold Wv
          rw [Xtri hw hx.1 hk, bd]
          dsimp only
          rw [if_neg one0, hz, bd, if_pos rfl, bd, if_pos rfl, if_pos hv]
      show ∃ s', fX5_hasBehind_33 20 _ _ _ (hX5_hasBehind_33 20 _ _ _ n) _ _ _ (nI i) st = _ ∧ _
      unfold fX5_hasBehind_33
      rw [if_neg (nle hi (by omega)), hwo, bd]
      dsimp only
      rw [ceX, nI_s]
      have e4 : ntN y (y.1 28) (i + 1) (4 + k) = ntN y (y.1 28) i (4 + k) + Wv y k (ntN y (y.1 28) i 0) := by
        show ntR y (ntN y (y.1 28) i) (4 + k) = _
        unfold ntR
        rw [if_neg (by omega), if_neg (by omega), if_neg (by omega), if_neg (by omega), if_neg (by omega), if_pos (by omega), show 4 + k - 4 = k by omega]
      have e2 : ntN y (y.1 28) (i + 1) 2 = if ntN y (y.1 28) i 2 + 1 < y.1 0 51 then ntN y (y.1 28) i 2 + 1 else 0 := rfl
      have e0 : ntN y (y.1 28) (i + 1) 0 = if ntN y (y.1 28) i 2 + 1 < y.1 0 51 then ntN y (y.1 28) i 0 else if nF y = 0 then -1 else 0 := rfl
      by_cases z : ntN y (y.1 28) i 2 + 1 < y.1 0 51
      · rw [if_pos z]
        rw [if_pos z] at e2 e0
        exact ⟨(_, _, _, _, _), rfl, e4.symm, by rw [e0]; exact q2, e2.symm, rfl, rfl⟩
      · rw [if_neg z]
        rw [if_neg z] at e2 e0
        refine ⟨(_, _, _, _, _), rfl, e4.symm, ?_, e2.symm, rfl, rfl⟩
        dsimp only
        by_cases z0 : nF y = 0
        · exact Or.inr ⟨z0, rfl⟩
        · rw [e0, if_neg z0]; exact Or.inl rfl) 0 (x.1 (20 + 1 + 0) k, x.1 20 2, x.1 20 4, 0, x) FU (by omega) ⟨r8 k (by omega), Or.inl r0, r2, rfl, rfl⟩ (FU_gt (by omega))
    obtain ⟨l4, l5, l6, l7, st⟩ := s
    obtain ⟨q1, q2, q3, q4, q5⟩ := hp
    dsimp only at q1 q2 q3 q4 q5
    subst q1 q3 q4 q5
    refine e.trans ?_
    show fX5_hasBehind_33 20 (st.2.2 0 9) (nI k) (nI N) _ _ _ _ _ st = _
    unfold fX5_hasBehind_33
    rw [if_pos (yle _)]
  have hY : ∃ y', ((fX11_load y).bind fun q0_3 => (hX11_will_26 (nI k) (nI N) FU 0 q0_3)) = some (ntN y (y.1 28) N (4 + k), y') ∧ FY y y' := by
    obtain ⟨y1, l1, l2, l3⟩ := Yload y
    rw [l1, bd]
    obtain ⟨s, _, e, hp⟩ := lp (fun n (s : Int32 × gS) => hX11_will_26 (nI k) (nI N) n s.1 s.2) N (fun i s => s.1 = nI i ∧ FY y s.2 ∧ ∀ j, j < 18 → s.2.1 29 j = ntN y (y.1 28) i j) (by
      intro n i ⟨l3, st⟩ hi ⟨q1, q2, q3⟩
      dsimp only at q1 q2 q3
      subst q1
      show ∃ s', fX11_will_26 _ _ (hX11_will_26 _ _ n) (nI i) st = _ ∧ _
      unfold fX11_will_26
      have hrF := ntN_F hw hrow i
      have hrF2 : rowF st (ntN y (y.1 28) i) := by unfold rowF; rw [q2.nF, q2.nT]; exact hrF
      obtain ⟨y3, g1, g2, g3⟩ := YgoNight (q2.wf hw) q3 hrF2
      rw [if_neg (nle hi (by omega)), g1, bd, nI_s]
      refine ⟨(_, _), rfl, rfl, q2.tr g2, fun j hj => ?_⟩
      have ce : st.1 0 51 = y.1 0 51 := q2 0 51 (by unfold scrY; omega)
      show y3.1 29 j = ntR y (ntN y (y.1 28) i) j
      rw [g3 j hj]
      unfold ntR
      rw [ce, q2.nF, q2.nT, q2.Wv]) 0 (0, y1) FU (by omega) ⟨rfl, l2, l3⟩ (FU_gt (by omega))
    obtain ⟨l3, st⟩ := s
    obtain ⟨q1, q2, q3⟩ := hp
    dsimp only at q1 q2 q3
    subst q1
    refine ⟨st, e.trans ?_, q2⟩
    show fX11_will_26 _ _ _ _ st = _
    unfold fX11_will_26
    rw [if_pos (yle _), show 4 + nI k = nI (4 + k) from nI_ad 4 k, gc_p (gI_nI (by omega) (by decide)), nI_clamp (by omega), q3 (4 + k) (by omega)]
  obtain ⟨y', hY1, hY2⟩ := hY
  rw [hX, bd]
  exact ⟨_, _, _, rfl, hY1, Inv_fr h (FX.rf x) hY2⟩
