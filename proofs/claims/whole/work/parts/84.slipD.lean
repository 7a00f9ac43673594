/-! ===== a unit ===== -/
/-- what may stand behind a term, a sum, one, an and, an or -/
def kT (v : Int32) (_ : List Nat) : Prop := v ≠ 42 ∧ v ≠ 47 ∧ v ≠ 37
def kS (v : Int32) (l : List Nat) : Prop := kT v l ∧ v ≠ 43 ∧ v ≠ 45
def kO (v : Int32) (l : List Nat) : Prop := kS v l ∧ ((v = 60 ∨ v = 62 ∨ v = 61) → hasRel l = true)
def kA (v : Int32) (l : List Nat) : Prop := kO v l ∧ v ≠ 14
def kR (v : Int32) (l : List Nat) : Prop := kA v l ∧ v ≠ 13
/-- how it ends: refused by both, or read by both, with what waits -/
def GR (x0 y0 : gS) (t L c : Nat) (S : List Nat) (w u d lP : Nat) (st : Int32 → List Nat → Prop) (A : Option (Int32 × gS)) (B : Option gS) : Prop :=
  (∃ x' y', A = some (0, x') ∧ B = some y' ∧ FL x0 y0 t x' y') ∨
  ∃ x' y' P c' u' k' n', A = some (1, x') ∧ B = LH n' y' ∧ SR x0 y0 t L c' S P w u' d k' x' y' ∧ (∀ a, a ∈ P → lP ≤ ti a) ∧ c < c' ∧ L + 1 < n' + c' ∧ u < u' ∧ k' + S.length + 1 ≤ 9 * u' ∧ st (x'.1 19 2) (P ++ S)
def GS (x0 y0 : gS) (t L l0 lP : Nat) (nnb : Bool) (st : Int32 → List Nat → Prop) (G : gS → Option (Int32 × gS)) (D : Nat) : Prop :=
  ∀ (x y : gS) (c : Nat) (S : List Nat) (w u d k m n : Nat), SR x0 y0 t L c S [] w u d k x y → low l0 S → (nnb = true → x.1 19 2 = 15 → mayN S = false) → k + S.length ≤ 9 * u + w → S.length ≤ 2 * u + w → 7 ≤ w + D → L + 1 < m + c → L + 1 < n + c →
    GR x0 y0 t L c S w u (d + 1) lP st (G x) (UU m n y)
section SS
variable {x0 y0 x y : gS} {t L c w u d k : Nat} {S P : List Nat}
theorem LH_F {n : Nat} (h : FL x0 y0 t x y) : hX11_readSlip_30 (n + 1) 1 y = some y := by
  show fX11_readSlip_30 (hX11_readSlip_30 n) 1 y = _
  unfold fX11_readSlip_30 fX11_readSlip_157 fX11_readSlip_176
  rw [if_neg one0, if_neg h.n1, if_neg h.n1, if_neg h.n1]
theorem u101_F (h : FL x0 y0 t x y) : fX11_unit_101 y = some y := by
  unfold fX11_unit_101
  rw [if_neg h.n0]
theorem un_F {m : Nat} (h : FL x0 y0 t x y) : hX11_unit_2 (m + 1) 1 y = some y := by
  show fX11_unit_2 (hX11_unit_2 m) 1 y = _
  unfold fX11_unit_2
  rw [if_neg one0, if_neg h.n1, u101_F h]
theorem up_F {N : Nat} {v : Int32} (h : FL x0 y0 t x y) (e : y.1 0 19 = nI N) (hN : N < 160) : ∃ y', fX11_openUp v y = some y' ∧ FL x0 y0 t x y' := by
  unfold fX11_openUp
  have f1 := FL_wi (k := 7) (j := N) (v := v) h (.inl (by unfold scrY; omega)) (by omega)
  have f2 := FL_wi (k := 0) (j := 19) (v := (wi y 7 N v).1 0 19 + 1) f1 (.inl (by unfold scrY; omega)) (by omega)
  have f3 := FL_wi (k := 0) (j := 23) (v := (wi (wi y 7 N v) 0 19 ((wi y 7 N v).1 0 19 + 1)).1 0 23 + 1) f2 (.inl (by unfold scrY; omega)) (by omega)
  rw [e, gc_p (gI_nI hN (by decide)), nI_clamp (by omega), if_neg f3.n1]
  exact ⟨_, rfl, f3⟩
theorem full_sp (h : SR x0 y0 t L c S P w u d k x y) : (u < 30 → fX11_isFull y = some (0, y)) ∧ (u = 30 → fX11_isFull y = some (1, y)) := by
  obtain ⟨-, a2, ⟨b1, e20, e22, -⟩, -⟩ := h
  have hu := a2.2.2.2.1
  unfold fX11_isFull
  rw [e20, e22, if_neg (show ¬ nI u = 60 from fun q => by have := (nI_inj (b := 60) (by omega) (by decide)).mp q; omega)]
  refine ⟨fun q => ?_, fun q => ?_⟩
  · rw [if_neg (show ¬ nI u = 30 from fun z => by have := (nI_inj (b := 30) (by omega) (by decide)).mp z; omega)]
  · rw [if_pos (show nI u = 30 by rw [q]; rfl)]
/-- a number or a word of five, done by both -/
theorem SR_unit {v s a : Int32} (h : SR x0 y0 t L c S [] w u d k x y) (hu : u < 30) (hk : k < 271) (hs : stp v s a) (hv : kdv v = 0) : ∃ x' y1 y', fX0_add (t + 1 + 11) v (wi x (t + 1 + 11) 3 (x.1 (t + 1 + 11) 3 + 1)) = some x' ∧ fX11_countUnit y = some y1 ∧ y1.1 0 8 = y.1 0 8 ∧ fX11_add s a y1 = some y' ∧ SR x0 y0 t L c S [] w (u + 1) (d + 1) (k + 1) x' y' ∧ x'.1 19 2 = x.1 19 2 := by
  obtain ⟨a1, ⟨c1, c2, c3, c4, c5, c6, c7, c8, c9⟩, ⟨b1, e20, e22, b4, b5, b6, b7, b8⟩, n, q1, q2, q3, q4⟩ := h
  have ht := a1.2.2.2.2.2
  have q1 : k = n := q1
  subst q1
  have f2 : (wi x (t + 1 + 11) 3 (nI (u + 1))).1 (t + 1 + 11) 2 = nI k := by rw [wi_1, if_neg (by omega), c5]
  have f2' : ∀ v', (wi (wi x (t + 1 + 11) 3 (nI (u + 1))) (t + 1 + 11 + 1 + 0) k v').1 (t + 1 + 11) 2 = nI k := fun v' => by rw [wi_1, if_neg (by omega), f2]
  have g17 : (wi (wi y 0 20 (nI (u + 1))) 0 22 (nI (u + 1))).1 0 17 = nI k := by rw [wi_1, if_neg (by omega), wi_1, if_neg (by omega), q2]
  refine ⟨wi (wi (wi x (t + 1 + 11) 3 (nI (u + 1))) (t + 1 + 11 + 1 + 0) k v) (t + 1 + 11) 2 (nI (k + 1)), wi (wi y 0 20 (nI (u + 1))) 0 22 (nI (u + 1)), _, ?_, ?_, ?_, add_eq g17 (by omega), ?_, ?_⟩
  · unfold fX0_add
    rw [c3, nI_s, f2, if_neg (show ¬ 272 ≤ nI k from fun q => by have := (nI_le' (a := 272) (by decide) (by omega)).mp q; omega), gc_p (gI_nI (by omega) (by decide)), nI_clamp (by omega), f2', nI_s]
  · unfold fX11_countUnit
    rw [e20, nI_s, show (wi y 0 20 (nI (u + 1))).1 0 22 = nI u by rw [wi_1, if_neg (by omega), e22], nI_s]
  · rw [wi_1, if_neg (by omega), wi_1, if_neg (by omega)]
  · generalize hX : wi (wi (wi x (t + 1 + 11) 3 (nI (u + 1))) (t + 1 + 11 + 1 + 0) k v) (t + 1 + 11) 2 (nI (k + 1)) = x'
    generalize hY : wi (wi (wi (wi (wi y 0 20 (nI (u + 1))) 0 22 (nI (u + 1))) 3 k s) 4 k a) 0 17 (nI (k + 1)) = y'
    have sx : SX t x x' := by rw [← hX]; exact (SX_wi (by omega)).tr ((SX_wi (by omega)).tr (SX_wi (by omega)))
    have sy : SY y y' := by rw [← hY]; exact (SY_wi (by omega)).tr ((SY_wi (by omega)).tr ((SY_wi (by omega)).tr ((SY_wi (by omega)).tr (SY_wi (by omega)))))
    have gx : ∀ a b, ¬ (a = t + 1 + 11 ∧ (b = 2 ∨ b = 3)) → ¬ (a = t + 1 + 11 + 1 + 0 ∧ b = k) → x'.1 a b = x.1 a b := fun a b z1 z2 => by rw [← hX, wi_1, if_neg (by omega), wi_1, if_neg (by omega), wi_1, if_neg (by omega)]
    have gy : ∀ a b, ¬ (a = 0 ∧ (b = 17 ∨ b = 20 ∨ b = 22)) → ¬ ((a = 3 ∨ a = 4) ∧ b = k) → y'.1 a b = y.1 a b := fun a b z1 z2 => by rw [← hY, wi_1, if_neg (by omega), wi_1, if_neg (by omega), wi_1, if_neg (by omega), wi_1, if_neg (by omega), wi_1, if_neg (by omega)]
    have x3 : x'.1 (t + 1 + 11) 3 = nI (u + 1) := by rw [← hX, wi_1, if_neg (by omega), wi_1, if_neg (by omega), wi_1, if_pos ⟨rfl, rfl⟩]
    have x2 : x'.1 (t + 1 + 11) 2 = nI (k + 1) := by rw [← hX, wi_1, if_pos ⟨rfl, rfl⟩]
    have xk : x'.1 (t + 1 + 11 + 1 + 0) k = v := by rw [← hX, wi_1, if_neg (by omega), wi_1, if_pos ⟨rfl, rfl⟩]
    have y17 : y'.1 0 17 = nI (k + 1) := by rw [← hY, wi_1, if_pos ⟨rfl, rfl⟩]
    have y20 : y'.1 0 20 = nI (u + 1) := by rw [← hY, wi_1, if_neg (by omega), wi_1, if_neg (by omega), wi_1, if_neg (by omega), wi_1, if_neg (by omega), wi_1, if_pos ⟨rfl, rfl⟩]
    have y22 : y'.1 0 22 = nI (u + 1) := by rw [← hY, wi_1, if_neg (by omega), wi_1, if_neg (by omega), wi_1, if_neg (by omega), wi_1, if_pos ⟨rfl, rfl⟩]
    have y3 : y'.1 3 k = s := by rw [← hY, wi_1, if_neg (by omega), wi_1, if_neg (by omega), wi_1, if_pos ⟨rfl, rfl⟩]
    have y4 : y'.1 4 k = a := by rw [← hY, wi_1, if_neg (by omega), wi_1, if_pos ⟨rfl, rfl⟩]
    have xl : ∀ j, x'.2.1 19 j = x.2.1 19 j := fun j => by rw [← hX]; rfl
    have yl : y'.2.1 0 9 = y.2.1 0 9 := by rw [← hY]; rfl
    have hpre : ∀ i, i ≤ k → dxx (x'.1 (t + 1 + 11 + 1 + 0)) i = dxx (x.1 (t + 1 + 11 + 1 + 0)) i := fun i hi => dxx_c fun j hj => gx _ j (by omega) (by omega)
    have hnew : dxx (x'.1 (t + 1 + 11 + 1 + 0)) (k + 1) = some (d + 1) := by
      show (dxx (x'.1 (t + 1 + 11 + 1 + 0)) k).bind _ = _
      rw [hpre k (Nat.le_refl _), c7, bd, xk, if_pos hv]
    refine ⟨a1.go sx sy (fun j => gx 19 j (by omega) (by omega)) xl (fun j _ _ => gy 0 j (by omega) (by omega)) yl, ⟨(gx 3 4 (by omega) (by omega)).trans c1, c2, x3, by omega, x2, by omega, hnew, by omega, fun i hi => ?_⟩, ⟨(gy 0 23 (by omega) (by omega)).trans b1, y20, y22, (gy 0 19 (by omega) (by omega)).trans b4, atS_c (fun j => gy 7 j (by omega) (by omega)) b5, b6, b7, b8⟩, k + 1, rfl, y17, fun i hi => ?_, fun i b hb => by cases hb⟩
    · by_cases e : i = k + 1
      · rw [e]; exact ⟨d + 1, hnew, by omega⟩
      · rw [hpre i (by omega)]; exact c9 i (by omega)
    · by_cases e : i = k
      · rw [e, xk, y3, y4]; exact hs
      · rw [gx _ i (by omega) (by omega), gy 3 i (by omega) (by omega), gy 4 i (by omega) (by omega)]
        exact q3 i (by omega)
  · rw [wi_1, if_neg (by omega), wi_1, if_neg (by omega), wi_1, if_neg (by omega)]
/-- the bracket is closed -/
theorem br_sp {n : Nat} (h : SR x0 y0 t L c (20 :: S) P (w + 1) u d k x y) (hk : x.1 19 2 = 41) : ∃ x' y' c', fX7_step x = some x' ∧ x'.1 3 4 = nI (w + 1) ∧ LH (n + 1) y = LH n y' ∧ SR x0 y0 t L c' S [] w u d k (wi x' 3 4 (nI w)) y' ∧ c < c' ∧ x'.1 19 2 = (wi x' 3 4 (nI w)).1 19 2 := by
  obtain ⟨y1, e1, r1⟩ := close_all h (l := 0) (by decide) (fun a _ => Nat.zero_le _) (.inl rfl)
  obtain ⟨a1, ⟨c1, c2, c3, c4, c5, c6, c7, c8, c9⟩, ⟨b1, e20, e22, b4, b5, b6, b7, b8⟩, n1, q1, q2, q3, q4⟩ := id r1
  have b4 : y1.1 0 19 = nI (S.length + 1) := b4
  have b6 : S.length + 1 ≤ 70 := b6
  have ht := a1.2.2.2.2.2
  have s41 : y.1 0 6 = 41 := (h.1.kd.iff (a := 41) (b := 41) (by decide) (by omega)).mpr hk
  have tk : TK x (wi (wi y1 0 19 (nI S.length)) 0 23 (nI w)) c L := TK_c a1.2.2.1 (fun _ _ _ => rfl) (fun _ => rfl) (fun k j q => by rw [wi_1, if_neg (by omega), wi_1, if_neg (by omega)]) rfl
  obtain ⟨x', y', c', f1, f2, f3, f4, f5, f6⟩ := tok_step tk (by rw [hk]; decide) (by rw [hk]; decide)
  have x34 : x'.1 3 4 = nI (w + 1) := (f5.2.1 3 4 (by decide)).trans c1
  have gx : ∀ a b, a ≠ 19 → ¬ (a = 3 ∧ b = 4) → (wi x' 3 4 (nI w)).1 a b = x.1 a b := fun a b z1 z2 => by rw [wi_1, if_neg z2, f5.2.1 a b z1]
  have gy : ∀ a b, ¬ (a = 0 ∧ (b = 4 ∨ b = 6 ∨ b = 7 ∨ b = 8 ∨ b = 19 ∨ b = 23)) → y'.1 a b = y1.1 a b := fun a b z => by rw [f6.1 a b (by omega), wi_1, if_neg (by omega), wi_1, if_neg (by omega)]
  have ek : (wi x' 3 4 (nI w)).1 (t + 1 + 11 + 1 + 0) = x.1 (t + 1 + 11 + 1 + 0) := funext fun j => gx _ j (by omega) (by omega)
  have y19 : y'.1 0 19 = nI S.length := by rw [f6.1 0 19 (by omega), wi_1, if_neg (by omega), wi_1, if_pos ⟨rfl, rfl⟩]
  have y23 : y'.1 0 23 = nI w := by rw [f6.1 0 23 (by omega), wi_1, if_pos ⟨rfl, rfl⟩]
  have sx : SX t x (wi x' 3 4 (nI w)) := f5.sx.tr (SX_wi (by omega))
  have sy : SY y1 y' := ((SY_wi (by omega)).tr (SY_wi (by omega))).tr f6.sy
  refine ⟨x', y', c', f1, x34, ?_, ⟨⟨a1.1.tr (sx.fr ht), a1.2.1.tr sy.fr, TK_c f3 (fun a b q => by rw [wi_1, if_neg (by omega)]) (fun _ => rfl) (fun _ _ _ => rfl) rfl, SL_ext ht a1.2.2.2.1 sx sy, by rw [sx.1]; exact a1.2.2.2.2.1, ht⟩, ⟨?_, by omega, (gx _ 3 (by omega) (by omega)).trans c3, c4, (gx _ 2 (by omega) (by omega)).trans c5, c6, by rw [ek]; exact c7, c8, by rw [ek]; exact c9⟩, ⟨y23, (gy 0 20 (by omega)).trans e20, (gy 0 22 (by omega)).trans e22, y19, atS_c (fun j => gy 7 j (by omega)) b5.2, by show S.length ≤ 70; omega, fun a ha => absurd ha List.not_mem_nil, fun a ha => b8 a (List.mem_cons_of_mem _ ha)⟩, n1, q1, (gy 0 17 (by omega)).trans q2, fun i hi => ?_, fun i b hb => by cases hb⟩, f4, ?_⟩
  · show fX11_readSlip_30 (hX11_readSlip_30 n) 1 y = _
    unfold fX11_readSlip_30
    have hno : ∀ a, ¬ isOp (x.1 19 2) a := fun a q => (isOp_n q).2.2.1 hk
    rw [if_neg one0, h.1.f0, if_pos rfl, sign_0 h.1.kd hno, bd]
    dsimp only
    rw [if_pos s41, hb1 h (List.mem_append_right _ (List.mem_cons_self ..)), bd]
    dsimp only
    have e1 : fX11_close 0 y = some y1 := e1
    have e23 : (wi y1 0 19 (nI S.length)).1 0 23 - 1 = nI w := by
      rw [wi_1, if_neg (by omega), b1]
      exact pk_sub (a := w + 1) (b := 1) (by omega)
    rw [if_neg one0, e1, bd, b4, show nI (S.length + 1) - 1 = nI S.length from pk_sub (a := S.length + 1) (b := 1) (by omega), e23, f2, bd]
    rfl
  · rw [wi_1, if_pos ⟨rfl, rfl⟩]
  · rw [ek, gy 3 i (by omega), gy 4 i (by omega)]
    exact q3 i hi
  · rw [wi_1, if_neg (by omega)]
/-- nothing more of slip is there -/
theorem stop_sp {n : Nat} (h : SR x0 y0 t L c S P w u d k x y) (hk : kR (x.1 19 2) (P ++ S)) (hb : x.1 19 2 = 41 → ¬ 20 ∈ P ++ S) : LH (n + 2) y = fX11_readSlip_157 y := by
  obtain ⟨⟨⟨⟨⟨t1, t2, t3⟩, s1, s2⟩, o1⟩, a1⟩, r1⟩ := hk
  have e0 : hX11_readSlip_30 (n + 1) 0 y = fX11_readSlip_157 y := by
    show fX11_readSlip_30 (hX11_readSlip_30 n) 0 y = _
    unfold fX11_readSlip_30
    rw [if_pos rfl]
  show fX11_readSlip_30 (hX11_readSlip_30 (n + 1)) 1 y = _
  unfold fX11_readSlip_30
  rw [if_neg one0, h.1.f0, if_pos rfl]
  have s41 : y.1 0 6 = 41 ↔ x.1 19 2 = 41 := h.1.kd.iff (a := 41) (b := 41) (by decide) (by omega)
  by_cases z : x.1 19 2 = 60 ∨ x.1 19 2 = 62 ∨ x.1 19 2 = 61
  · obtain ⟨a, ha, h4⟩ : ∃ a, isOp (x.1 19 2) a ∧ ti a = 4 := by
      rcases z with z | z | z
      · exact ⟨60, .inr (.inr ⟨z, by omega⟩), rfl⟩
      · exact ⟨62, .inr (.inr ⟨z, by omega⟩), rfl⟩
      · exact ⟨61, .inr (.inr ⟨z, by omega⟩), rfl⟩
    have hob := isOp_B ha
    have hlt := opB_lt hob
    rw [sign_op h.1.kd ha, bd]
    dsimp only
    rw [if_neg (fun q => (isOp_n ha).2.2.1 (s41.mp q))]
    unfold fX11_readSlip_94
    rw [if_neg (show ¬ nI a = 0 from fun q => by have := (nI_eq0 (by omega)).mp q; unfold opB at hob; omega), tight_sp (.inr (.inr hob)), bd, h4]
    dsimp only
    rw [if_pos (show nI 4 = 4 from rfl), rel_sp h, bd, o1 z]
    dsimp only
    rw [if_neg (show ¬ b2 true = 0 by decide)]
    exact e0
  · have hno : ∀ a, ¬ isOp (x.1 19 2) a := fun a q => by
      rcases q with ⟨q, -⟩ | ⟨q, -⟩ | ⟨q, q2⟩
      · exact r1 q
      · exact a1 q
      · rcases q2 with q2 | q2 | q2 | q2 | q2 | q2 | q2 | q2 <;> subst q2
        · exact z (.inl q)
        · exact z (.inr (.inl q))
        · exact z (.inr (.inr q))
        · exact s1 q
        · exact s2 q
        · exact t1 q
        · exact t2 q
        · exact t3 q
    rw [sign_0 h.1.kd hno, bd]
    dsimp only
    have e94 : fX11_readSlip_94 (hX11_readSlip_30 (n + 1)) 1 0 y = fX11_readSlip_157 y := by
      unfold fX11_readSlip_94
      rw [if_pos rfl]
      exact e0
    by_cases q : x.1 19 2 = 41
    · rw [if_pos (s41.mpr q), hb0 h (hb q), bd]
      dsimp only
      rw [if_pos rfl]
      exact e94
    · rw [if_neg (fun q2 => q (s41.mp q2))]
      exact e94
end SS
