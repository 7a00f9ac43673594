/-! ===== night, will ===== -/
/-- what a figure is worth; nothing, if there is none -/
def Wv (y : gS) (k : Nat) (v : Int32) : Int32 := if v = -1 then 0 else nI (wo y k (vN v))
def SW (y : gS) (v : Int32) : Nat → Int32
  | 0 => 0
  | n + 1 => SW y v n + Wv y n v
def rowF (y : gS) (g : Nat → Int32) : Prop := ((nF y = 0 ∧ g 0 = -1) ∨ isN (g 0) (nF y)) ∧ ((nT y = 0 ∧ g 1 = -1) ∨ isN (g 1) (nT y))
def ntR (y : gS) (g : Nat → Int32) : Nat → Int32 := fun j =>
  if j = 0 then (if g 2 + 1 < y.1 0 51 then g 0 else if nF y = 0 then -1 else 0)
  else if j = 2 then (if g 2 + 1 < y.1 0 51 then g 2 + 1 else 0) else if j = 3 then 0 else if j = 15 then (if g 2 + 1 < y.1 0 51 then g 15 else g 15 + 1) else if j = 16 then g 16 + 1
  else if 4 ≤ j ∧ j < 4 + nT y then g j + Wv y (j - 4) (g 0) else if 9 ≤ j ∧ j < 14 ∧ g 1 = nI (j - 9) then g j + 1 else g j
theorem ntR_F {y : gS} {g : Nat → Int32} (hw : WFy y) (h : rowF y g) : rowF y (ntR y g) := by
  have hF := nF9 hw
  refine ⟨?_, h.2⟩
  show (nF y = 0 ∧ (if g 2 + 1 < y.1 0 51 then g 0 else if nF y = 0 then -1 else 0) = -1) ∨ isN (if g 2 + 1 < y.1 0 51 then g 0 else if nF y = 0 then -1 else 0) (nF y)
  split
  · exact h.1
  · by_cases z : nF y = 0
    · rw [if_pos z]; exact Or.inl ⟨z, rfl⟩
    · rw [if_neg z]; exact Or.inr (isN.of (j := 0) (by omega) (by omega))
section NT
variable {x y : gS} {t : Nat}
theorem XworthV (hw : WFy y) (hx : XT x t y) {k : Nat} (hk : k < nT y) {v : Int32} (hv : (nF y = 0 ∧ v = -1) ∨ isN v (nF y)) : fX8_worthOf t (nI k) v x = some (Wv y k v, x) := by
  unfold Wv
  rcases hv with q | q
  · rw [q.2, if_pos rfl]; exact Xworth0 x t _ _ (by decide)
  · have h1 := q.1
    have h2 := q.2
    have hF := nF9 hw
    generalize vN v = f at h1 h2
    rw [h1, if_neg (nI_m1 (by omega)), Xworth hw hx hk h2]
theorem YworthV (hw : WFy y) {k : Nat} (hk : k < nT y) {v : Int32} (hv : (nF y = 0 ∧ v = -1) ∨ isN v (nF y)) : fX11_worthOf (nI k) v y = some (Wv y k v, y) := by
  unfold Wv
  rcases hv with q | q
  · rw [q.2, if_pos rfl]; exact Yworth0 y _
  · have h1 := q.1
    have h2 := q.2
    have hF := nF9 hw
    generalize vN v = f at h1 h2
    rw [h1, if_neg (nI_m1 (by omega)), Yworth hw hk h2]
theorem XallV (hw : WFy y) (hx : XT x t y) {v : Int32} (hv : (nF y = 0 ∧ v = -1) ∨ isN v (nF y)) : fX8_worthToAll t v x = some (SW y v (nT y), x) := by
  rcases hv with q | q
  · rw [XworthAll0 hw hx (a := v) (by rw [q.2]; decide)]
    have : ∀ n, SW y v n = 0 := fun n => by
      induction n with
      | zero => rfl
      | succ n ih => rw [SW, ih, Wv, if_pos q.2]; rfl
    rw [this]
  · have h1 := q.1
    have h2 := q.2
    have hF := nF9 hw
    have : ∀ n, SW y v n = nI (aW (wf y (vN v)) n) := fun n => by
      induction n with
      | zero => rfl
      | succ n ih => rw [SW, ih, Wv, if_neg (by rw [h1]; exact nI_m1 (by omega)), nI_ad]; rfl
    rw [this]
    have := XworthAll hw hx h2
    rw [← h1] at this
    exact this
theorem FY.wo (h : FY y x) (k f : Nat) : wo x k f = wo y k f := by show vN (x.1 15 _) = vN (y.1 15 _); rw [h 15 _ (by unfold scrY; omega)]
theorem Wv_u (y : gS) (k : Nat) (v : Int32) : Wv y k v = if v = -1 then 0 else nI (wo y k (vN v)) := rfl
theorem FY.Wv (h : FY y x) (k : Nat) (v : Int32) : Wv x k v = Wv y k v := by
  rw [Wv_u, Wv_u, h.wo]
theorem FY.wf (h : FY y x) (hw : WFy y) : WFy x := fr_wf (x := x) (x' := x) (CX := fun _ _ => False) (fun _ _ _ => rfl) h (fun _ _ h => h.elim) (by unfold scrY; intros; omega) hw
theorem Yload (y : gS) : ∃ y', fX11_load y = some y' ∧ FY y y' ∧ ∀ j, j < 18 → y'.1 29 j = y.1 28 j := by
  unfold fX11_load
  obtain ⟨s, _, e, hp⟩ := lp (fun n (s : Int32 × gS) => hX11_load_2 n s.1 s.2) 18 (fun i s => s.1 = nI i ∧ FY y s.2 ∧ ∀ j, j < i → s.2.1 29 j = y.1 28 j) (by
    intro n i ⟨l1, st⟩ hi ⟨q1, q2, q3⟩
    dsimp only at q1 q2 q3
    subst q1
    show ∃ s', fX11_load_2 (hX11_load_2 n) (nI i) st = _ ∧ _
    unfold fX11_load_2
    rw [if_neg (show ¬ 18 ≤ nI i from nI_ge (b := 18) (by omega) (by omega)), gc_p (gI_nI (by omega) (by decide)), gc_p (gI_nI (by omega) (by decide)), nI_clamp (by omega), nI_s]
    refine ⟨(_, _), rfl, rfl, q2.tr (FY_wi (by unfold scrY; omega)), fun j hj => ?_⟩
    show (wi st 29 i (st.1 28 i)).1 29 j = _
    rw [wi_1]
    by_cases z : j = i
    · rw [if_pos ⟨rfl, z⟩, q2.now, z]
    · rw [if_neg (fun q => z q.2)]; exact q3 j (by omega)) 0 (0, y) FU (by omega) ⟨rfl, FY.rf y, fun j hj => absurd hj (by omega)⟩ (FU_gt (by omega))
  obtain ⟨l1, st⟩ := s
  obtain ⟨q1, q2, q3⟩ := hp
  dsimp only at q1 q2 q3
  subst q1
  refine ⟨st, e.trans ?_, q2, q3⟩
  show fX11_load_2 _ _ st = _
  unfold fX11_load_2
  rw [if_pos (show (18 : Int32) ≤ nI 18 by decide)]
/-- one night of what is at hand -/
theorem YgoNight (hw : WFy y) {g : Nat → Int32} (hg : ∀ j, j < 18 → y.1 29 j = g j) (hr : rowF y g) : ∃ y', fX11_goNight y = some (SW y (g 0) (nT y), y') ∧ FY y y' ∧ ∀ j, j < 18 → y'.1 29 j = ntR y g j := by
  have hT := nT6 hw
  have hF := nF9 hw
  unfold fX11_goNight
  have g4 : ∀ i, i < 5 → gI (4 + nI i) 18 := fun i hi => by rw [show 4 + nI i = nI (4 + i) from nI_ad 4 i]; exact gI_nI (by omega) (by decide)
  have c4 : ∀ i, i < 5 → (4 + nI i).toNatClampNeg = 4 + i := fun i hi => by rw [show 4 + nI i = nI (4 + i) from nI_ad 4 i, nI_clamp (by omega)]
  obtain ⟨s, _, e, hp⟩ := lp (fun n (s : Int32 × Int32 × gS) => hX11_goNight_4 n s.1 s.2.1 s.2.2) (nT y) (fun i s => s.1 = SW y (g 0) i ∧ s.2.1 = nI i ∧ FY y s.2.2 ∧ ∀ j, j < 18 → s.2.2.1 29 j = if 4 ≤ j ∧ j < 4 + i then g j + Wv y (j - 4) (g 0) else g j) (by
    intro n i ⟨l1, l2, st⟩ hi ⟨q1, q2, q3, q4⟩
    dsimp only at q1 q2 q3 q4
    subst q1 q2
    show ∃ s', fX11_goNight_4 (hX11_goNight_4 n) _ (nI i) st = _ ∧ _
    unfold fX11_goNight_4
    have hw2 := q3.wf hw
    have v0 : st.1 29 0 = g 0 := (q4 0 (by omega)).trans (if_neg (by omega))
    have hv : (nF st = 0 ∧ g 0 = -1) ∨ isN (g 0) (nF st) := by rw [q3.nF]; exact hr.1
    rw [eT hw2, q3.nT, if_neg (nle hi (by omega)), gc_p (by decide), show (0 : Int32).toNatClampNeg = 0 from rfl, v0, YworthV hw2 (by rw [q3.nT]; exact hi) hv, bd]
    dsimp only
    rw [gc_p (g4 i (by omega)), gc_p (g4 i (by omega)), c4 i (by omega), nI_s, q3.Wv]
    refine ⟨(_, _, _), rfl, rfl, rfl, q3.tr (FY_wi (by unfold scrY; omega)), fun j hj => ?_⟩
    show (wi st 29 (4 + i) _).1 29 j = _
    rw [q4 (4 + i) (by omega), if_neg (show ¬ (4 ≤ 4 + i ∧ 4 + i < 4 + i) by omega), wi_1]
    by_cases z : j = 4 + i
    · rw [if_pos ⟨rfl, z⟩, if_pos (by omega), z, show 4 + i - 4 = i by omega]
    · rw [if_neg (fun q => z q.2), q4 j hj]
      by_cases z2 : 4 ≤ j ∧ j < 4 + i
      · rw [if_pos z2, if_pos (by omega)]
      · rw [if_neg z2, if_neg (by omega)]) 0 (0, 0, y) FU (by omega) ⟨rfl, rfl, FY.rf y, fun j hj => by rw [if_neg (by omega)]; exact hg j hj⟩ (FU_gt (by omega))
  obtain ⟨l1, l2, st⟩ := s
  obtain ⟨q1, q2, q3, q4⟩ := hp
  dsimp only at q1 q2 q3 q4
  subst q1 q2
  have hw2 := q3.wf hw
  -- behind the sleeper
  have key : ∀ s2 : gS, FY y s2 → (∀ j, j < 18 → s2.1 29 j = if 4 ≤ j ∧ j < 4 + nT y then g j + Wv y (j - 4) (g 0) else if 9 ≤ j ∧ j < 14 ∧ g 1 = nI (j - 9) then g j + 1 else g j) → ∃ y', fX11_goNight_73 (SW y (g 0) (nT y)) s2 = some (SW y (g 0) (nT y), y') ∧ FY y y' ∧ ∀ j, j < 18 → y'.1 29 j = ntR y g j := by
    intro s2 f2 h2
    have n51 : s2.1 0 51 = y.1 0 51 := f2 0 51 (by unfold scrY; omega)
    have n48 : s2.1 0 48 = nI (nF y) := (f2 0 48 (by unfold scrY; omega)).trans (eF hw)
    have v2 : s2.1 29 2 = g 2 := (h2 2 (by omega)).trans (by rw [if_neg (by omega), if_neg (by omega)])
    have v15 : s2.1 29 15 = g 15 := (h2 15 (by omega)).trans (by rw [if_neg (by omega), if_neg (by omega)])
    have v16 : s2.1 29 16 = g 16 := (h2 16 (by omega)).trans (by rw [if_neg (by omega), if_neg (by omega)])
    have v0 : s2.1 29 0 = g 0 := (h2 0 (by omega)).trans (by rw [if_neg (by omega), if_neg (by omega)])
    unfold fX11_goNight_73 fX11_goNight_113 fX11_goNight_132
    simp only [gc_p (show gI 0 18 by decide), gc_p (show gI 2 18 by decide), gc_p (show gI 3 18 by decide), gc_p (show gI 15 18 by decide), gc_p (show gI 16 18 by decide), show (0 : Int32).toNatClampNeg = 0 from rfl, show (2 : Int32).toNatClampNeg = 2 from rfl, show (3 : Int32).toNatClampNeg = 3 from rfl, show (15 : Int32).toNatClampNeg = 15 from rfl, show (16 : Int32).toNatClampNeg = 16 from rfl]
    have a1 : ∀ v, (wi s2 29 2 v).1 29 2 = v := fun v => by rw [wi_1, if_pos ⟨rfl, rfl⟩]
    have a2 : ∀ v b, (wi s2 29 2 v).1 0 b = s2.1 0 b := fun v b => wi_ne (by decide)
    rw [a1, a2, a2, n51, n48, v2]
    unfold ntR
    by_cases z : g 2 + 1 < y.1 0 51
    · rw [if_pos z]
      refine ⟨_, rfl, ((f2.tr (FY_wi (by unfold scrY; omega))).tr (FY_wi (by unfold scrY; omega))).tr (FY_wi (by unfold scrY; omega)), fun j hj => ?_⟩
      simp only [if_pos z]
      by_cases j16 : j = 16
      · subst j16; rw [wi_1, if_pos ⟨rfl, rfl⟩, wi_1, if_neg (by omega), wi_1, if_neg (by omega), v16]; rfl
      by_cases j3 : j = 3
      · subst j3; rw [wi_1, if_neg (by omega), wi_1, if_pos ⟨rfl, rfl⟩]; rfl
      by_cases j2 : j = 2
      · subst j2; rw [wi_1, if_neg (by omega), wi_1, if_neg (by omega), wi_1, if_pos ⟨rfl, rfl⟩]; rfl
      rw [wi_1, if_neg (by omega), wi_1, if_neg (by omega), wi_1, if_neg (by omega), if_neg j2, if_neg j3, if_neg j16]
      by_cases j0 : j = 0
      · subst j0; rw [v0]; rfl
      by_cases j15 : j = 15
      · subst j15; rw [v15]; rfl
      rw [if_neg j0, if_neg j15, h2 j hj]
    · rw [if_neg z]
      by_cases z0 : nF y = 0
      · rw [z0, if_pos nI0]
        refine ⟨_, rfl, ((((((f2.tr (FY_wi (by unfold scrY; omega))).tr (FY_wi (by unfold scrY; omega))).tr (FY_wi (by unfold scrY; omega))).tr (FY_wi (by unfold scrY; omega)))).tr (FY_wi (by unfold scrY; omega))).tr (FY_wi (by unfold scrY; omega)), fun j hj => ?_⟩
        simp only [if_neg z, if_true]
        by_cases j16 : j = 16
        · subst j16; rw [wi_1, if_pos ⟨rfl, rfl⟩, wi_1, if_neg (by omega), wi_1, if_neg (by omega), wi_1, if_neg (by omega), wi_1, if_neg (by omega), wi_1, if_neg (by omega), v16]; rfl
        by_cases j3 : j = 3
        · subst j3; rw [wi_1, if_neg (by omega), wi_1, if_pos ⟨rfl, rfl⟩]; rfl
        by_cases j15 : j = 15
        · subst j15; rw [wi_1, if_neg (by omega), wi_1, if_neg (by omega), wi_1, if_pos ⟨rfl, rfl⟩, wi_1, if_neg (by omega), wi_1, if_neg (by omega), wi_1, if_neg (by omega), v15]; rfl
        by_cases j2 : j = 2
        · subst j2; rw [wi_1, if_neg (by omega), wi_1, if_neg (by omega), wi_1, if_neg (by omega), wi_1, if_pos ⟨rfl, rfl⟩]; rfl
        by_cases j0 : j = 0
        · subst j0; rw [wi_1, if_neg (by omega), wi_1, if_neg (by omega), wi_1, if_neg (by omega), wi_1, if_neg (by omega), wi_1, if_pos ⟨rfl, rfl⟩]; rfl
        rw [wi_1, if_neg (by omega), wi_1, if_neg (by omega), wi_1, if_neg (by omega), wi_1, if_neg (by omega), wi_1, if_neg (by omega), wi_1, if_neg (by omega), if_neg j2, if_neg j3, if_neg j16, if_neg j0, if_neg j15, h2 j hj]
      · rw [if_neg (fun q => z0 ((nI_eq0 (by omega)).mp q))]
        refine ⟨_, rfl, ((((((f2.tr (FY_wi (by unfold scrY; omega))).tr (FY_wi (by unfold scrY; omega))).tr (FY_wi (by unfold scrY; omega))).tr (FY_wi (by unfold scrY; omega)))).tr (FY_wi (by unfold scrY; omega))).tr (FY_wi (by unfold scrY; omega)), fun j hj => ?_⟩
        simp only [if_neg z, if_neg z0]
        by_cases j16 : j = 16
        · subst j16; rw [wi_1, if_pos ⟨rfl, rfl⟩, wi_1, if_neg (by omega), wi_1, if_neg (by omega), wi_1, if_neg (by omega), wi_1, if_neg (by omega), wi_1, if_neg (by omega), v16]; rfl
        by_cases j3 : j = 3
        · subst j3; rw [wi_1, if_neg (by omega), wi_1, if_pos ⟨rfl, rfl⟩]; rfl
        by_cases j15 : j = 15
        · subst j15; rw [wi_1, if_neg (by omega), wi_1, if_neg (by omega), wi_1, if_pos ⟨rfl, rfl⟩, wi_1, if_neg (by omega), wi_1, if_neg (by omega), wi_1, if_neg (by omega), v15]; rfl
        by_cases j2 : j = 2
        · subst j2; rw [wi_1, if_neg (by omega), wi_1, if_neg (by omega), wi_1, if_neg (by omega), wi_1, if_pos ⟨rfl, rfl⟩]; rfl
        by_cases j0 : j = 0
        · subst j0; rw [wi_1, if_neg (by omega), wi_1, if_neg (by omega), wi_1, if_neg (by omega), wi_1, if_neg (by omega), wi_1, if_pos ⟨rfl, rfl⟩]; rfl
        rw [wi_1, if_neg (by omega), wi_1, if_neg (by omega), wi_1, if_neg (by omega), wi_1, if_neg (by omega), wi_1, if_neg (by omega), wi_1, if_neg (by omega), if_neg j2, if_neg j3, if_neg j16, if_neg j0, if_neg j15, h2 j hj]
  have v1 : st.1 29 1 = g 1 := (q4 1 (by omega)).trans (if_neg (by omega))
  have fin : ∀ k, fX11_goNight_4 k (SW y (g 0) (nT y)) (nI (nT y)) st = if g 1 < 0 then fX11_goNight_73 (SW y (g 0) (nT y)) st else (gc (gI (9 + g 1) 18) (gc (gI (9 + g 1) 18) (fX11_goNight_73 (SW y (g 0) (nT y)) (wi st 29 (9 + g 1).toNatClampNeg ((st.1 29 (9 + g 1).toNatClampNeg) + 1))))) := fun k => by
    unfold fX11_goNight_4
    rw [eT hw2, q3.nT, if_pos (yle _), show (1 : Int32).toNatClampNeg = 1 from rfl, v1, gc_p (by decide), gc_p (by decide)]
  rcases hr.2 with z | z
  · obtain ⟨y', p1, p2, p3⟩ := key st q3 (fun j hj => by
      rw [q4 j hj]
      by_cases z2 : 4 ≤ j ∧ j < 4 + nT y
      · rw [if_pos z2, if_pos z2]
      · rw [if_neg z2, if_neg z2, if_neg (fun q => by rw [z.2] at q; exact nI_m1 (a := j - 9) (by omega) q.2.2.symm)])
    refine ⟨y', e.trans ((fin _).trans ?_), p2, p3⟩
    rw [if_pos (by rw [z.2]; decide), p1]
  · have z1 := z.1
    have z2 := z.2
    generalize vN (g 1) = b at z1 z2
    have e9 : 9 + g 1 = nI (9 + b) := by rw [z1]; exact nI_ad 9 b
    obtain ⟨y', p1, p2, p3⟩ := key (wi st 29 (9 + b) (st.1 29 (9 + b) + 1)) (q3.tr (FY_wi (by unfold scrY; omega))) (fun j hj => by
      rw [q4 (9 + b) (by omega), if_neg (show ¬ (4 ≤ 9 + b ∧ 9 + b < 4 + nT y) by omega), wi_1]
      by_cases zj : j = 9 + b
      · rw [if_pos ⟨rfl, zj⟩, if_neg (by omega), if_pos ⟨by omega, by omega, by rw [z1, zj, show 9 + b - 9 = b by omega]⟩, zj]
      · rw [if_neg (fun q => zj q.2), q4 j hj]
        by_cases z3 : 4 ≤ j ∧ j < 4 + nT y
        · rw [if_pos z3, if_pos z3]
        · rw [if_neg z3, if_neg z3, if_neg (fun q => by
            have q3 := q.2.2
            rw [z1] at q3
            have := (nI_inj (by omega) (by omega)).mp q3
            omega)])
    refine ⟨y', e.trans ((fin _).trans ?_), p2, p3⟩
    rw [if_neg (by rw [z1]; exact nI_nn (by omega)), e9, gc_p (gI_nI (by omega) (by decide)), gc_p (gI_nI (by omega) (by decide)), nI_clamp (by omega), p1]
end NT
