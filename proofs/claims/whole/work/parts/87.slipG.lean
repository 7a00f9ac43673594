/-! ===== one, and the line of slip ===== -/
section SS
variable {x0 y0 : gS} {t L D : Nat}
theorem SR_not2 {x y : gS} {c w u d k : Nat} {S P : List Nat} (h : SR x0 y0 t L c (21 :: S) P (w + 1) u (d + 1) k x y) (hk : k < 271) : ∃ x', fX0_addStep (t + 1 + 11) 15 (wi x 3 4 (nI w)) = some x' ∧ SR x0 y0 t L c S (P ++ [21]) w u (d + 1) (k + 1) x' y ∧ x'.1 19 2 = x.1 19 2 := by
  obtain ⟨x', e, r⟩ := SR_not h hk
  have ht := h.1.2.2.2.2.2
  have e2 := addS_eq (x := wi x 3 4 (nI w)) (f := t + 1 + 11) (k := k) (v := 15) (by rw [wi_1, if_neg (by omega)]; exact h.2.1.2.2.2.2.1) (by omega)
  have e3 := Option.some.inj (e.symm.trans e2)
  exact ⟨x', e, r, by rw [e3, wi_1, if_neg (by omega), wi_1, if_neg (by omega), wi_1, if_neg (by omega)]⟩
theorem rel_f {P S : List Nat} (hP : ∀ a, a ∈ P → opA a ∧ 5 ≤ ti a) (hS : low 4 S) : hasRel (P ++ S) = false := by
  induction P with
  | nil =>
    cases S with
    | nil => rfl
    | cons a r =>
      show (if a = 20 then false else if 4 < ti a then hasRel r else decide (ti a = 4)) = false
      rcases hS with q | q
      · rw [if_pos q]
      · by_cases z : a = 20
        · rw [if_pos z]
        · rw [if_neg z, if_neg (by omega)]
          simp; omega
  | cons a P ih =>
    show (if a = 20 then false else if 4 < ti a then hasRel (P ++ S) else decide (ti a = 4)) = false
    have := hP a (List.mem_cons_self ..)
    rw [if_neg (opA_20 this.1), if_pos (by omega)]
    exact ih fun b hb => hP b (List.mem_cons_of_mem _ hb)
theorem rel_t {P S : List Nat} {a : Nat} (hP : ∀ b, b ∈ P → opA b ∧ 5 ≤ ti b) (ha : opB a) (h4 : ti a = 4) : hasRel (P ++ (a :: S)) = true := by
  induction P with
  | nil =>
    show (if a = 20 then false else if 4 < ti a then hasRel S else decide (ti a = 4)) = true
    rw [if_neg (opA_20 (.inr ha)), if_neg (by omega), h4]
    rfl
  | cons b P ih =>
    show (if b = 20 then false else if 4 < ti b then hasRel (P ++ (a :: S)) else decide (ti b = 4)) = true
    have := hP b (List.mem_cons_self ..)
    rw [if_neg (opA_20 this.1), if_pos (by omega)]
    exact ih fun c hc => hP c (List.mem_cons_of_mem _ hc)
theorem one_gs {rc ro : gS → Option (Int32 × gS)} (hS : GS x0 y0 t L 5 5 true kS (fX4_readSum rc ro) D) (hro : ∀ D', D = D' + 1 → GS x0 y0 t L 4 3 false kO ro D') : GS x0 y0 t L 4 3 false kO (fX4_readOne rc ro) D := by
  intro x y c S w u d k m n h hlow _ hb1' hb2' hD hm hn
  have hcL : c ≤ L := h.1.2.2.1.2.1
  have hL := h.1.2.2.1.1.1
  have ht := h.1.2.2.2.2.2
  obtain ⟨c1, c2, c3, c4, c5, c6, c7, c8, c9⟩ := h.2.1
  obtain ⟨b1, e20, e22, b4, b5, b6, b7, b8⟩ := h.2.2.1
  have b4 : y.1 0 19 = nI S.length := b4
  have b6 : S.length ≤ 70 := b6
  have b1 : y.1 0 23 = nI w := b1
  have hf0 := h.1.f0
  have hkd := h.1.kd
  unfold fX4_readOne
  by_cases z15 : x.1 19 2 = 15
  · obtain ⟨m, rfl⟩ : ∃ j, m = j + 2 := ⟨m - 2, by omega⟩
    obtain ⟨n, rfl⟩ : ∃ j, n = j + 2 := ⟨n - 2, by omega⟩
    rw [if_pos z15]
    unfold fX4_readNot
    rw [c1]
    by_cases hw6 : w ≤ 6
    · obtain ⟨D', hD'⟩ : ∃ D', D = D' + 1 := ⟨D - 1, by omega⟩
      rw [if_pos (show nI w ≤ 6 from (nI_le' (b := 6) (by omega) (by decide)).mpr hw6), nI_s]
      have r5 : SR x0 y0 t L c (21 :: S) [] (w + 1) u d k (wi x 3 4 (nI (w + 1))) (wi (wi (wi y 7 S.length 21) 0 19 (nI (S.length + 1))) 0 23 (nI (w + 1))) := by
        refine SR_up h (SX_wi (by omega)) ((SY_wi (by omega)).tr ((SY_wi (by omega)).tr (SY_wi (by omega)))) (fun j => ?_) (fun _ => rfl) (fun j j1 j2 => ?_) rfl (.inr (.inl rfl)) (by omega) ?_ (by omega) ?_ ?_ (Nat.le_refl _) c4 ?_ ?_ ?_ (fun j => ?_) ?_ (fun j => ?_) ?_ (fun j => ⟨?_, ?_⟩)
        · rw [wi_1, if_neg (by omega)]
        · rw [wi_1, if_neg (by omega), wi_1, if_neg (by omega), wi_1, if_neg (by omega)]
        · rw [wi_1, if_pos ⟨rfl, rfl⟩]
        · rw [wi_1, if_pos ⟨rfl, rfl⟩]
        · rw [wi_1, if_neg (by omega)]; exact c3
        · rw [wi_1, if_neg (by omega), wi_1, if_neg (by omega), wi_1, if_neg (by omega)]; exact e20
        · rw [wi_1, if_neg (by omega), wi_1, if_neg (by omega), wi_1, if_neg (by omega)]; exact e22
        · rw [wi_1, if_neg (by omega)]
        · rw [wi_1, if_neg (by omega)]
        · rw [wi_1, if_neg (by omega), wi_1, if_pos ⟨rfl, rfl⟩]
        · rw [wi_1, if_neg (by omega), wi_1, if_neg (by omega), wi_1]
          by_cases e : j = S.length
          · rw [if_pos ⟨rfl, e⟩, if_pos e]; rfl
          · rw [if_neg (fun q => e q.2), if_neg e]
        · rw [wi_1, if_neg (by omega), wi_1, if_neg (by omega), wi_1, if_neg (by omega)]
        · rw [wi_1, if_neg (by omega), wi_1, if_neg (by omega), wi_1, if_neg (by omega)]
        · rw [wi_1, if_neg (by omega), wi_1, if_neg (by omega), wi_1, if_neg (by omega)]
      have hkk : (wi x 3 4 (nI (w + 1))).1 19 2 = 15 := by rw [wi_1, if_neg (by omega), z15]
      obtain ⟨x2, y2, c', k1, k2, k3, k4⟩ := SR_tok r5 (by rw [hkk]; decide) (by rw [hkk]; decide)
      have eU : hX11_unit_2 (m + 2) 1 y = hX11_unit_2 (m + 1) 1 y2 := by
        show fX11_unit_2 (hX11_unit_2 (m + 1)) 1 y = _
        unfold fX11_unit_2 fX11_unit_44 fX11_openUp
        rw [if_neg one0, hf0, if_pos rfl, (isW hkd (k := 15) (w := 7237492) (by decide) rfl).1 z15, bd]
        dsimp only
        rw [if_neg one0, may_sp h, bd, mayN_low hlow]
        dsimp only
        rw [if_neg (show ¬ b2 true = 0 by decide), b1, if_pos (show nI w ≤ 6 from (nI_le' (b := 6) (by omega) (by decide)).mpr hw6), b4, gc_p (gI_nI (by omega) (by decide)), nI_clamp (show S.length < 2 ^ 31 by omega), show (wi y 7 S.length 21).1 0 19 = nI S.length by rw [wi_1, if_neg (by omega), b4], nI_s, show (wi (wi y 7 S.length 21) 0 19 (nI (S.length + 1))).1 0 23 = nI w by rw [wi_1, if_neg (by omega), wi_1, if_neg (by omega), b1], nI_s]
        rw [if_pos (show (wi (wi (wi y 7 S.length 21) 0 19 (nI (S.length + 1))) 0 23 (nI (w + 1))).1 0 2 = 0 by rw [wi_1, if_neg (by omega), wi_1, if_neg (by omega), wi_1, if_neg (by omega), hf0]), k2, bd, bd]
      have eUU : UU (m + 2) (n + 2) y = UU (m + 1) (n + 2) y2 := by unfold UU; rw [eU]
      rw [k1, bd, eUU]
      rcases hro D' hD' x2 y2 c' (21 :: S) (w + 1) u d k (m + 1) (n + 2) k3 (.inr (by decide)) (fun q => absurd q (by decide)) (by show k + (S.length + 1) ≤ _; omega) (by show S.length + 1 ≤ _; omega) (by omega) (by omega) (by omega) with ⟨x3, y3, g1, g2, g3⟩ | ⟨x3, y3, P, c3', u3, k3', n3, g1, g2, g3, g4, g5, g6, g7, g8, g9⟩
      · rw [g1, bd]
        dsimp only
        rw [if_pos rfl, bd, gc_p (show gB 0 by decide)]
        exact .inl ⟨x3, y3, rfl, g2, g3⟩
      · have g8 : k3' + (S.length + 1) + 1 ≤ 9 * u3 := g8
        have hu3 := g3.2.1.2.2.2.1
        obtain ⟨x4, j1, j2, j3⟩ := SR_not2 g3 (by omega)
        rw [g1, bd]
        dsimp only
        have k8' : gK 0 ((wi x3 3 4 (nI w)).2.2 3 1) = 8 := g3.1.k8
        have e31 : (wi x3 3 4 (nI w)).2.2 3 1 = t := g3.1.2.2.2.2.1
        rw [if_neg one0, g3.2.1.1, show nI (w + 1) - 1 = nI w from pk_sub (a := w + 1) (b := 1) (by omega), gc_p k8', e31, j1, bd, bd, gc_p (show gB 1 by decide)]
        have eL : (P ++ [21]) ++ S = P ++ (21 :: S) := by rw [List.append_assoc]; rfl
        refine .inr ⟨x4, y3, P ++ [21], c3', u3, k3' + 1, n3, rfl, g2, j2, fun b hb => ?_, by omega, g6, g7, by omega, ?_⟩
        · rcases List.mem_append.mp hb with q | q
          · exact g4 b q
          · rw [List.mem_singleton.mp q]; decide
        · rw [j3, eL]; exact g9
    · obtain ⟨x', y', r1, r2, r3, r4⟩ := h.1.ref (v := 2) (a := 2) rfl (by decide)
      rw [if_neg (show ¬ nI w ≤ 6 from fun q => hw6 ((nI_le' (b := 6) (by omega) (by decide)).mp q)), r1, bd, gc_p (show gB 0 by decide), bd, gc_p (show gB 0 by decide)]
      obtain ⟨y2, g3, g4⟩ := up_F (v := 21) (N := S.length) r3 (by rw [r4 0 19 (by omega), b4]) (by omega)
      refine .inl ⟨x', y2, rfl, ?_, g4⟩
      have eU : hX11_unit_2 (m + 2) 1 y = some y2 := by
        show fX11_unit_2 (hX11_unit_2 (m + 1)) 1 y = _
        unfold fX11_unit_2 fX11_unit_44
        rw [if_neg one0, hf0, if_pos rfl, (isW hkd (k := 15) (w := 7237492) (by decide) rfl).1 z15, bd]
        dsimp only
        rw [if_neg one0, may_sp h, bd, mayN_low hlow]
        dsimp only
        rw [if_neg (show ¬ b2 true = 0 by decide), b1, if_neg (show ¬ nI w ≤ 6 from fun q => hw6 ((nI_le' (b := 6) (by omega) (by decide)).mp q)), r2, bd, g3, bd]
        exact un_F g4
      unfold UU
      rw [eU, bd]
      exact LH_F g4
  · rw [if_neg z15]
    rcases hS x y c S w u d k m n h (low_mono hlow (by decide)) (fun _ q => absurd q z15) hb1' hb2' hD hm hn with ⟨x', y', g1, g2, g3⟩ | ⟨x1, y1, P, c1', u1, k1', n1, g1, g2, g3, g4, g5, g6, g7, g8, g9⟩
    · rw [g1, bd]
      dsimp only
      rw [if_pos rfl]
      exact .inl ⟨x', y', rfl, g2, g3⟩
    · rw [g1, bd, g2]
      dsimp only
      rw [if_neg one0]
      have hc1 : c1' ≤ L := g3.1.2.2.1.2.1
      have hu1 := g3.2.1.2.2.2.1
      have hP5 : ∀ a, a ∈ P → opA a ∧ 5 ≤ ti a := fun a ha => ⟨g3.2.2.1.2.2.2.2.2.2.1 a ha, g4 a ha⟩
      -- a relation
      have rel : ∀ {a : Nat}, isOp (x1.1 19 2) a → ti a = 4 → GR x0 y0 t L c S w u (d + 1) 3 kO (fX4_readOne_54 rc ro (x1.1 19 2) x1) (LH n1 y1) := by
        intro a ha h4
        have hob := isOp_B ha
        obtain ⟨n1, rfl⟩ : ∃ j, n1 = j + 1 := ⟨n1 - 1, by omega⟩
        obtain ⟨x2, y2, c2', f1, f2, f3, f4⟩ := op_sp (n := n1) g3 ha (fun b hb => by rw [h4]; have := (hP5 b hb).2; omega) (by rw [h4]; exact hlow) (fun _ => rel_f hP5 hlow) (by omega)
        unfold fX4_readOne_54
        rw [f1, bd, f2]
        rcases hS x2 y2 c2' (a :: S) w u1 (d + 1) k1' FU n1 f3 (.inr (by omega)) (fun _ _ => by
          have ha20 := opA_20 (.inr hob)
          show (decide (a = 20) || decide (ti a < 4)) = false
          simp [ha20]; omega) (by show k1' + (S.length + 1) ≤ _; omega) (by show S.length + 1 ≤ _; omega) hD (by have : FU = 70000 := rfl; omega) (by omega) with ⟨x3, y3, p1, p2, p3⟩ | ⟨x3, y3, P3, c3', u3, k3', n3, p1, p2, p3, p4, p5, p6, p7, p8, p9⟩
        · rw [p1, bd]
          dsimp only
          rw [if_pos rfl]
          exact .inl ⟨x3, y3, rfl, p2, p3⟩
        · have p8 : k3' + (S.length + 1) + 1 ≤ 9 * u3 := p8
          have hu3 := p3.2.1.2.2.2.1
          obtain ⟨x4, j1, j2, j3⟩ := SR_join2 p3 ha (by omega)
          rw [p1, bd]
          dsimp only
          rw [if_neg one0, gc_p p3.1.k8, p3.1.2.2.2.2.1, j1, bd]
          have eL : (P3 ++ [a]) ++ S = P3 ++ (a :: S) := by rw [List.append_assoc]; rfl
          refine .inr ⟨x4, y3, P3 ++ [a], c3', u3, k3' + 1, n3, rfl, p2, j2, fun b hb => ?_, by omega, p6, by omega, by omega, ?_⟩
          · rcases List.mem_append.mp hb with q | q
            · have := p4 b q; omega
            · rw [List.mem_singleton.mp q]; omega
          · rw [j3, eL]
            exact ⟨p9, fun _ => rel_t (fun b hb => ⟨p3.2.2.1.2.2.2.2.2.2.1 b hb, p4 b hb⟩) hob h4⟩
      by_cases z60 : x1.1 19 2 = 60
      · rw [if_pos z60]
        exact rel (a := 60) (.inr (.inr ⟨z60, by omega⟩)) rfl
      · rw [if_neg z60]
        by_cases z62 : x1.1 19 2 = 62
        · rw [if_pos z62]
          exact rel (a := 62) (.inr (.inr ⟨z62, by omega⟩)) rfl
        · rw [if_neg z62]
          by_cases z61 : x1.1 19 2 = 61
          · rw [if_pos z61]
            exact rel (a := 61) (.inr (.inr ⟨z61, by omega⟩)) rfl
          · rw [if_neg z61]
            exact .inr ⟨x1, y1, P, c1', u1, k1', n1, rfl, rfl, g3, fun a ha => by have := g4 a ha; omega, g5, g6, g7, g8, g9, fun q => absurd q (by rintro (q | q | q); exact z60 q; exact z62 q; exact z61 q)⟩
theorem rec_gs : ∀ D : Nat, GS x0 y0 t L 1 1 false kR (fX4_readOr (gRO D) (gRN D)) D ∧ GS x0 y0 t L 4 3 false kO (fX4_readOne (gRO D) (gRN D)) D := by
  intro D
  induction D with
  | zero =>
    have h1 := one_gs (x0 := x0) (y0 := y0) (t := t) (L := L) (D := 0) (rc := gRO 0) (ro := gRN 0) (sum_gs (term_gs (unit_gs fun D' q => absurd q (by omega)))) (fun D' q => absurd q (by omega))
    exact ⟨or_gs (and_gs h1), h1⟩
  | succ D ih =>
    have h1 := one_gs (x0 := x0) (y0 := y0) (t := t) (L := L) (D := D + 1) (rc := gRO (D + 1)) (ro := gRN (D + 1)) (sum_gs (term_gs (unit_gs fun D' q => by
      have : D' = D := by omega
      subst this
      exact ih.1))) (fun D' q => by
      have : D' = D := by omega
      subst this
      exact ih.2)
    exact ⟨or_gs (and_gs h1), h1⟩
end SS
section LI
variable {x0 y0 x y : gS} {t L c : Nat}
/-- slip is told: what both have then -/
theorem SR_end {k u : Nat} (h : SR x0 y0 t L c [] [] 0 u 1 k x y) (hu : 1 ≤ u) : RD x0 y0 t L c x y := by
  obtain ⟨⟨a1, a2, a3, ⟨m1, m2, m3, m4, m5, m6, m7, m8, m9, m10⟩, a5, a6⟩, ⟨c1, c2, c3, c4, c5, c6, c7, c8, c9⟩, ⟨b1, e20, e22, b4, b5, b6, b7, b8⟩, n, q1, q2, q3, q4⟩ := h
  have q1 : k = n := q1
  subst q1
  have hk : k ≠ 0 := fun z => by
    rw [z] at c7
    have : some 0 = some 1 := c7
    cases this
  have hd : ∀ i, i ≤ k → dpq (y.1 3) i = dxx (x.1 (t + 1 + 11 + 1 + 0)) i := fun i hi => dpq_x fun j hj => q3 j (by omega)
  refine ⟨a1, a2, a3, ⟨m1, m2, m3, m4, m5, .inr ⟨m6, k, u, c5, q2, c3, e20, hu, c4, by omega, c6, q3, fun i hi => ?_, ?_⟩, c1, m7, m8, m9, m10⟩, a5, a6⟩
  · rw [hd i hi]; exact c9 i hi
  · rw [hd k (Nat.le_refl _)]; exact c7
theorem l_slip (h : RD x0 y0 t L c x y) (hk : x.1 19 2 = 10) (hn : y.1 0 52 = 0) : LN x0 y0 t L c (fX4_readSlip x) ((fX11_readSlip (wi y 0 52 1)).bind fun q => fX11_readLine_207 q) := by
  have ht := h.2.2.2.2.2
  obtain ⟨m1, m2, m3, m4, m5, m6, m7⟩ := h.dr
  obtain ⟨z1, z2, z3, z4⟩ : y.1 0 52 = 0 ∧ x.1 (t + 1 + 11) 2 = 0 ∧ x.1 (t + 1 + 11) 3 = 0 ∧ y.1 0 20 = 0 := by
    rcases m6 with q | q
    · exact q
    · rw [q.1] at hn; exact absurd hn (by decide)
  have tk1 : TK x (wi y 0 52 1) c L := TK_c h.2.2.1 (fun _ _ _ => rfl) (fun _ => rfl) (fun k j q => by rw [wi_1, if_neg (by omega)]) rfl
  obtain ⟨x1, y1, c1, f1, f2, f3, f4, f5, f6⟩ := tok_step tk1 (by rw [hk]; decide) (by rw [hk]; decide)
  have gx : ∀ k j, k ≠ 19 → x1.1 k j = x.1 k j := f5.2.1
  have gy : ∀ k j, ¬ (k = 0 ∧ (j = 4 ∨ j = 6 ∨ j = 7 ∨ j = 8 ∨ j = 52)) → y1.1 k j = y.1 k j := fun k j q => by rw [f6.1 k j (by omega), wi_1, if_neg (by omega)]
  have y52 : y1.1 0 52 = 1 := by rw [f6.1 0 52 (by omega), wi_1, if_pos ⟨rfl, rfl⟩]
  have gyl : ∀ k j, ¬ (k = 0 ∧ j = 9) → y1.2.1 k j = y.2.1 k j := fun k j q => by rw [f6.2 k j q]; rfl
  generalize hY : wi (wi (wi (wi y1 0 17 0) 0 19 0) 0 23 0) 0 22 0 = y2
  have sy : SY y1 y2 := by rw [← hY]; exact (SY_wi (by omega)).tr ((SY_wi (by omega)).tr ((SY_wi (by omega)).tr (SY_wi (by omega))))
  have g2 : ∀ k j, ¬ (k = 0 ∧ (j = 17 ∨ j = 19 ∨ j = 22 ∨ j = 23)) → y2.1 k j = y1.1 k j := fun k j q => by rw [← hY, wi_1, if_neg (by omega), wi_1, if_neg (by omega), wi_1, if_neg (by omega), wi_1, if_neg (by omega)]
  have g2l : y2.2 = y1.2 := by rw [← hY]; rfl
  have y17 : y2.1 0 17 = 0 := by rw [← hY, wi_1, if_neg (by omega), wi_1, if_neg (by omega), wi_1, if_neg (by omega), wi_1, if_pos ⟨rfl, rfl⟩]
  have y19 : y2.1 0 19 = 0 := by rw [← hY, wi_1, if_neg (by omega), wi_1, if_neg (by omega), wi_1, if_pos ⟨rfl, rfl⟩]
  have y23 : y2.1 0 23 = 0 := by rw [← hY, wi_1, if_neg (by omega), wi_1, if_pos ⟨rfl, rfl⟩]
  have y22 : y2.1 0 22 = 0 := by rw [← hY, wi_1, if_pos ⟨rfl, rfl⟩]
  have G : ∀ k j, ¬ (k = 0 ∧ (j = 4 ∨ j = 6 ∨ j = 7 ∨ j = 8 ∨ j = 17 ∨ j = 19 ∨ j = 22 ∨ j = 23 ∨ j = 52)) → y2.1 k j = y.1 k j := fun k j q => by rw [g2 k j (by omega), gy k j (by omega)]
  have Gl : ∀ k j, ¬ (k = 0 ∧ j = 9) → y2.2.1 k j = y.2.1 k j := fun k j q => by rw [g2l, gyl k j q]
  have fy : FYr y y2 := fun k j q => G k j (by unfold rdY scrY at q; omega)
  have sr : SR x0 y0 t L c1 [] [] 0 0 0 0 x1 y2 := by
    refine ⟨⟨h.1.tr f5.fr, h.2.1.tr fy, TK_c f3 (fun _ _ _ => rfl) (fun _ => rfl) (fun k j q => g2 k j (by omega)) (by rw [g2l]), ⟨?_, ?_, ?_, ?_, ?_, ?_, ?_, ?_, ?_, ?_⟩, by rw [f5.1]; exact h.2.2.2.2.1, ht⟩, ⟨?_, by decide, ?_, by decide, ?_, by decide, rfl, by decide, fun i hi => ?_⟩, ⟨y23, ?_, y22, y19, trivial, by decide, fun a ha => absurd ha List.not_mem_nil, fun a ha => absurd ha List.not_mem_nil⟩, 0, rfl, y17, fun i hi => absurd hi (by omega), fun i b hb => by cases hb⟩
    · exact DRf_ext m1 (G 0 43 (by omega)) (gx t 12 (by omega)) (fun i _ => f5.2.2 _ i (by omega)) (fun i _ => Gl 2 i (by omega))
    · exact DRt_ext m2 (G 0 44 (by omega)) (gx t 13 (by omega)) (gx t 15 (by omega)) (fun k _ => ⟨f5.2.2 _ k (by omega), Gl 2 _ (by omega), gx _ k (by omega), gx _ k (by omega), G _ k (by omega), G _ k (by omega), G _ k (by omega)⟩)
    · exact DRw_ext m3 (G 0 44 (by omega)) (fun j => gx _ j (by omega)) (fun k f _ _ => G _ _ (by omega))
    · exact DRm_ext m4 (by show vN (y.1 0 43) ≤ vN (y2.1 0 43); rw [G 0 43 (by omega)]; exact Nat.le_refl _) (G 0 45 (by omega)) (gx t 14 (by omega)) (fun m _ k a1 a2 => ⟨gx _ m (by omega), G _ m (by omega)⟩)
    · obtain ⟨p1, p2, p3, p4, p5⟩ := m5
      unfold DRc
      rw [G 0 46 (by omega), G 0 47 (by omega), G 0 53 (by omega), G 0 54 (by omega), gx t 16 (by omega), gx t 17 (by omega), gx 3 2 (by omega), gx 3 3 (by omega)]
      exact ⟨p1, p2, p3, p4, p5⟩
    · rw [g2 0 52 (by omega), y52]
    · rw [gx 3 5 (by omega)]; exact m7.2.1
    · rw [gx 3 6 (by omega)]; exact m7.2.2.1
    · rw [G 0 2 (by omega)]; exact m7.2.2.2.1
    · rw [G 0 3 (by omega)]; exact m7.2.2.2.2
    · rw [gx 3 4 (by omega)]; exact m7.1
    · rw [gx _ 3 (by omega)]; exact z3
    · rw [gx _ 2 (by omega)]; exact z2
    · have : i = 0 := by omega
      rw [this]; exact ⟨0, rfl, by decide⟩
    · rw [G 0 20 (by omega)]; exact z4
  unfold fX4_readSlip fX11_readSlip fX0_isTold
  rw [gc_p h.k8, h.2.2.2.2.1, z3, if_pos le0, bd, f2, bd]
  dsimp only
  rw [if_pos rfl, f1, bd, hY]
  have hL := h.2.2.1.1.1
  have e0 : ((fX11_unit y2).bind fun q => hX11_readSlip_30 FU 1 q) = UU FU FU y2 := rfl
  rw [e0]
  rcases (rec_gs (x0 := x0) (y0 := y0) (t := t) (L := L) 9).1 x1 y2 c1 [] 0 0 0 0 FU FU sr trivial (fun q => absurd q (by decide)) (by decide) (by decide) (by decide) (by have : FU = 70000 := rfl; omega) (by have : FU = 70000 := rfl; omega) with ⟨x3, y3, g1, g2, g3⟩ | ⟨x3, y3, P, c3', u3, k3', n3, g1, g2, g3, g4, g5, g6, g7, g8, g9⟩
  · rw [g1, bd]
    dsimp only
    rw [if_pos rfl, g2, bd, end_F g3]
    exact .inl ⟨x3, y3, rfl, rfl, g3⟩
  · rw [g1, bd]
    dsimp only
    rw [if_neg one0, g2]
    have hcL3 : c3' ≤ L := g3.1.2.2.1.2.1
    obtain ⟨n3, rfl⟩ : ∃ j, n3 = j + 2 := ⟨n3 - 2, by omega⟩
    have no20 : ¬ 20 ∈ P ++ [] := fun q => by
      rcases List.mem_append.mp q with q | q
      · exact opA_20 (g3.2.2.1.2.2.2.2.2.2.1 20 q) rfl
      · exact absurd q List.not_mem_nil
    obtain ⟨y4, e4, r4⟩ := close_all g3 (l := 0) (by decide) (fun a _ => Nat.zero_le _) trivial
    have e4 : fX11_close 0 y3 = some y4 := e4
    rw [stop_sp g3 g9 (fun _ => no20)]
    unfold fX11_readSlip_157 fX11_readSlip_176
    rw [g3.1.f0, if_pos rfl, hb0 g3 no20, bd]
    dsimp only
    rw [if_pos rfl, g3.1.f0, if_pos rfl, e4, bd, bd]
    have rd := SR_end r4 (by omega)
    rcases end_sp rd with ⟨x', y', p1, p2, p3⟩ | ⟨x', y', c', p1, p2, p3, p4⟩
    · rw [p1, bd]
      dsimp only
      rw [if_pos rfl]
      exact .inl ⟨x', y', rfl, p2, p3⟩
    · rw [p1, bd]
      dsimp only
      rw [if_neg one0]
      exact .inr ⟨x', y', c', rfl, p2, p3, by omega⟩
end LI
