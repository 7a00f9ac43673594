/-! ===== terms, sums, one, and, or ===== -/
section SS
variable {x0 y0 : gS} {t L D : Nat}
theorem GS_mono {l0 lP : Nat} {nnb : Bool} {st st' : Int32 → List Nat → Prop} {G : gS → Option (Int32 × gS)} (h : GS x0 y0 t L l0 lP nnb st G D) (hs : ∀ v l, st v l → st' v l) : GS x0 y0 t L l0 lP nnb st' G D := by
  intro x y c S w u d k m n a1 a2 a3 a4 a5 a6 a7 a8
  rcases h x y c S w u d k m n a1 a2 a3 a4 a5 a6 a7 a8 with g | ⟨x', y', P, c', u', k', n', g1, g2, g3, g4, g5, g6, g7, g8, g9⟩
  · exact .inl g
  · exact .inr ⟨x', y', P, c', u', k', n', g1, g2, g3, g4, g5, g6, g7, g8, hs _ _ g9⟩
theorem SR_join2 {x y : gS} {c w u d k a : Nat} {S P : List Nat} {v : Int32} (h : SR x0 y0 t L c (a :: S) P w u (d + 2) k x y) (ha : isOp v a) (hk : k < 271) : ∃ x', fX0_addStep (t + 1 + 11) v x = some x' ∧ SR x0 y0 t L c S (P ++ [a]) w u (d + 1) (k + 1) x' y ∧ x'.1 19 2 = x.1 19 2 := by
  obtain ⟨x', e, r⟩ := SR_join h ha hk
  have ht := h.1.2.2.2.2.2
  have e2 := addS_eq (f := t + 1 + 11) (v := v) h.2.1.2.2.2.2.1 (by omega)
  have e3 := Option.some.inj (e.symm.trans e2)
  exact ⟨x', e, r, by rw [e3, wi_1, if_neg (by omega), wi_1, if_neg (by omega)]⟩
theorem loop_gen {lv l0 lP : Nat} {nnb : Bool} {K : Int32 → Prop} {stG : Int32 → List Nat → Prop} {G : gS → Option (Int32 × gS)} {H : Nat → Int32 → gS → Option (Int32 × gS)} (h1 : lv < l0) (h2 : lv ≤ lP) (h4 : lv ≠ 4)
    (hK : ∀ v, K v → ∃ a, isOp v a ∧ ti a = lv) (hnn : nnb = true → 4 ≤ lv) (hG : GS x0 y0 t L l0 lP nnb stG G D)
    (hH1 : ∀ f i x, i < 30 → ¬ K (x.1 19 2) → H (f + 1) (nI i) x = some (1, x))
    (hH2 : ∀ f i x x1, i < 30 → K (x.1 19 2) → fX7_step x = some x1 → H (f + 1) (nI i) x = (G x1).bind fun q => (if q.1 = 0 then (some (0, q.2)) else (gc (gK 0 (q.2.2.2 3 1) = 8) ((fX0_addStep ((q.2.2.2 3 1) + 1 + 11) (x.1 19 2) q.2).bind fun q3 => (H f (nI (i + 1)) q3))))) :
    ∀ (e f i : Nat) (x y : gS) (c : Nat) (P : List Nat) (u k n : Nat) (S : List Nat) (w d : Nat), 30 ≤ u + e → i + 1 ≤ u → e < f → SR x0 y0 t L c S P w u (d + 1) k x y → (∀ a, a ∈ P → lv ≤ ti a) → low lv S → S.length + 2 ≤ 2 * u + w → k + S.length + 1 ≤ 9 * u → 7 ≤ w + D → L + 1 < n + c → stG (x.1 19 2) (P ++ S) →
      (∃ x' y', H f (nI i) x = some (0, x') ∧ LH n y = some y' ∧ FL x0 y0 t x' y') ∨ ∃ x' y' P' c' u' k' n', H f (nI i) x = some (1, x') ∧ LH n y = LH n' y' ∧ SR x0 y0 t L c' S P' w u' (d + 1) k' x' y' ∧ (∀ a, a ∈ P' → lv ≤ ti a) ∧ c ≤ c' ∧ L + 1 < n' + c' ∧ u ≤ u' ∧ k' + S.length + 1 ≤ 9 * u' ∧ stG (x'.1 19 2) (P' ++ S) ∧ ¬ K (x'.1 19 2) := by
  intro e
  induction e with
  | zero =>
    intro f i x y c P u k n S w d he hi hf h hP hS hb hk hD hn hst
    obtain ⟨f, rfl⟩ : ∃ j, f = j + 1 := ⟨f - 1, by omega⟩
    have hcL : c ≤ L := h.1.2.2.1.2.1
    have hL := h.1.2.2.1.1.1
    have hu30 := h.2.1.2.2.2.1
    have hw7 := h.2.1.2.1
    by_cases z : K (x.1 19 2)
    · obtain ⟨a, ha, hla⟩ := hK _ z
      obtain ⟨n, rfl⟩ : ∃ j, n = j + 1 := ⟨n - 1, by omega⟩
      obtain ⟨x1, y1, c1, f1, f2, f3, f4⟩ := op_sp (n := n) h ha (fun b hb => by rw [hla]; exact hP b hb) (by rw [hla]; exact hS) (fun q => absurd (hla.symm.trans q) h4) (by omega)
      rw [hH2 f i x x1 (by omega) z f1, f2]
      rcases hG x1 y1 c1 (a :: S) w u (d + 1) k FU n f3 (.inr (by omega)) (fun q _ => by
        have h4 := hnn q
        have ha20 := opA_20 (.inr (isOp_B ha))
        show (decide (a = 20) || decide (ti a < 4)) = false
        simp [ha20]; omega) (by show k + (S.length + 1) ≤ _; omega) (by show S.length + 1 ≤ _; omega) hD (by have : FU = 70000 := rfl; omega) (by omega) with ⟨x2, y2, g1, g2, g3⟩ | ⟨x2, y2, P2, c2, u2, k2, n2, g1, g2, g3, g4, g5, g6, g7, g8, g9⟩
      · rw [g1, bd]
        dsimp only
        rw [if_pos rfl]
        exact .inl ⟨x2, y2, rfl, g2, g3⟩
      · have := g3.2.1.2.2.2.1
        omega
    · exact .inr ⟨x, y, P, c, u, k, n, hH1 f i x (by omega) z, rfl, h, hP, Nat.le_refl _, hn, Nat.le_refl _, hk, hst, z⟩
  | succ e ih =>
    intro f i x y c P u k n S w d he hi hf h hP hS hb hk hD hn hst
    obtain ⟨f, rfl⟩ : ∃ j, f = j + 1 := ⟨f - 1, by omega⟩
    have hcL : c ≤ L := h.1.2.2.1.2.1
    have hL := h.1.2.2.1.1.1
    have hu30 := h.2.1.2.2.2.1
    have hw7 := h.2.1.2.1
    by_cases z : K (x.1 19 2)
    · obtain ⟨a, ha, hla⟩ := hK _ z
      obtain ⟨n, rfl⟩ : ∃ j, n = j + 1 := ⟨n - 1, by omega⟩
      obtain ⟨x1, y1, c1, f1, f2, f3, f4⟩ := op_sp (n := n) h ha (fun b hb => by rw [hla]; exact hP b hb) (by rw [hla]; exact hS) (fun q => absurd (hla.symm.trans q) h4) (by omega)
      rw [hH2 f i x x1 (by omega) z f1, f2]
      rcases hG x1 y1 c1 (a :: S) w u (d + 1) k FU n f3 (.inr (by omega)) (fun q _ => by
        have h4 := hnn q
        have ha20 := opA_20 (.inr (isOp_B ha))
        show (decide (a = 20) || decide (ti a < 4)) = false
        simp [ha20]; omega) (by show k + (S.length + 1) ≤ _; omega) (by show S.length + 1 ≤ _; omega) hD (by have : FU = 70000 := rfl; omega) (by omega) with ⟨x2, y2, g1, g2, g3⟩ | ⟨x2, y2, P2, c2, u2, k2, n2, g1, g2, g3, g4, g5, g6, g7, g8, g9⟩
      · rw [g1, bd]
        dsimp only
        rw [if_pos rfl]
        exact .inl ⟨x2, y2, rfl, g2, g3⟩
      · have hu2 := g3.2.1.2.2.2.1
        have g8 : k2 + (S.length + 1) + 1 ≤ 9 * u2 := g8
        obtain ⟨x3, j1, j2, j3⟩ := SR_join2 g3 ha (by omega)
        rw [g1, bd]
        dsimp only
        rw [if_neg one0, gc_p g3.1.k8, g3.1.2.2.2.2.1, j1, bd, g2]
        have eL : (P2 ++ [a]) ++ S = P2 ++ (a :: S) := by rw [List.append_assoc]; rfl
        rcases ih f (i + 1) x3 y2 c2 (P2 ++ [a]) u2 (k2 + 1) n2 S w d (by omega) (by omega) (by omega) j2 (fun b hb => by
          rcases List.mem_append.mp hb with q | q
          · have := g4 b q; omega
          · rw [List.mem_singleton.mp q]; omega) hS (by omega) (by omega) hD g6 (by rw [j3, eL]; exact g9) with ⟨x', y', p1, p2, p3⟩ | ⟨x', y', P', c', u', k', n', p1, p2, p3, p4, p5, p6, p7, p8, p9, p10⟩
        · exact .inl ⟨x', y', p1, p2, p3⟩
        · exact .inr ⟨x', y', P', c', u', k', n', p1, p2, p3, p4, by omega, p6, by omega, p8, p9, p10⟩
    · exact .inr ⟨x, y, P, c, u, k, n, hH1 f i x (by omega) z, rfl, h, hP, Nat.le_refl _, hn, Nat.le_refl _, hk, hst, z⟩
theorem level_gs {lv l0 lP : Nat} {nnb : Bool} {K : Int32 → Prop} {stG : Int32 → List Nat → Prop} {G F : gS → Option (Int32 × gS)} {H : Nat → Int32 → gS → Option (Int32 × gS)} (h1 : lv < l0) (h2 : lv ≤ lP) (h4 : lv ≠ 4)
    (hK : ∀ v, K v → ∃ a, isOp v a ∧ ti a = lv) (hnn : nnb = true → 4 ≤ lv) (hG : GS x0 y0 t L l0 lP nnb stG G D)
    (hH1 : ∀ f i x, i < 30 → ¬ K (x.1 19 2) → H (f + 1) (nI i) x = some (1, x))
    (hH2 : ∀ f i x x1, i < 30 → K (x.1 19 2) → fX7_step x = some x1 → H (f + 1) (nI i) x = (G x1).bind fun q => (if q.1 = 0 then (some (0, q.2)) else (gc (gK 0 (q.2.2.2 3 1) = 8) ((fX0_addStep ((q.2.2.2 3 1) + 1 + 11) (x.1 19 2) q.2).bind fun q3 => (H f (nI (i + 1)) q3)))))
    (hF : ∀ x, F x = (G x).bind fun q => (if q.1 = 0 then (some (0, q.2)) else (H FU 0 q.2))) : GS x0 y0 t L lv lv nnb (fun v l => stG v l ∧ ¬ K v) F D := by
  intro x y c S w u d k m n a1 a2 a3 a4 a5 a6 a7 a8
  rw [hF]
  rcases hG x y c S w u d k m n a1 (low_mono a2 (by omega)) a3 a4 a5 a6 a7 a8 with ⟨x', y', g1, g2, g3⟩ | ⟨x', y', P, c', u', k', n', g1, g2, g3, g4, g5, g6, g7, g8, g9⟩
  · rw [g1, bd]
    dsimp only
    rw [if_pos rfl]
    exact .inl ⟨x', y', rfl, g2, g3⟩
  · rw [g1, bd, g2]
    dsimp only
    rw [if_neg one0]
    have hu30 := g3.2.1.2.2.2.1
    rcases loop_gen h1 h2 h4 hK hnn hG hH1 hH2 30 FU 0 x' y' c' P u' k' n' S w d (by omega) (by omega) (FU_gt (by decide)) g3 (fun a ha => Nat.le_trans h2 (g4 a ha)) a2 (by omega) g8 a6 g6 g9 with p | ⟨x2, y2, P', c2, u2, k2, n2, p1, p2, p3, p4, p5, p6, p7, p8, p9, p10⟩
    · exact .inl p
    · exact .inr ⟨x2, y2, P', c2, u2, k2, n2, p1, p2, p3, p4, by omega, p6, by omega, p8, p9, p10⟩
theorem n30 {i : Nat} (h : i < 30) : ¬ 30 ≤ nI i := fun q => by have := (nI_le' (a := 30) (by decide) (by omega)).mp q; omega
section LV
variable {rc ro : gS → Option (Int32 × gS)}
theorem term_gs (hU : GS x0 y0 t L 7 7 true (fun _ _ => True) (fX4_readUnit rc ro) D) : GS x0 y0 t L 6 6 true kT (fX4_readTerm rc ro) D := by
  refine GS_mono (level_gs (lv := 6) (K := fun v => v = 42 ∨ v = 47 ∨ v = 37) (H := hX4_readTerm_11 rc ro) (by decide) (by decide) (by decide) (fun v hv => ?_) (fun _ => by decide) hU (fun f i x hi hk => ?_) (fun f i x x1 hi hk hs => ?_) (fun x => rfl)) (fun v l hv => ⟨fun q => hv.2 (.inl q), fun q => hv.2 (.inr (.inl q)), fun q => hv.2 (.inr (.inr q))⟩)
  · rcases hv with z | z | z
    · exact ⟨42, .inr (.inr ⟨z, by omega⟩), rfl⟩
    · exact ⟨47, .inr (.inr ⟨z, by omega⟩), rfl⟩
    · exact ⟨37, .inr (.inr ⟨z, by omega⟩), rfl⟩
  · show fX4_readTerm_11 rc ro (hX4_readTerm_11 rc ro f) (nI i) x = _
    unfold fX4_readTerm_11 fX4_isTimes
    rw [if_neg (n30 hi), if_neg (fun q => hk (.inl q)), if_neg (fun q => hk (.inr (.inl q))), if_neg (fun q => hk (.inr (.inr q))), bd]
    exact if_pos rfl
  · show fX4_readTerm_11 rc ro (hX4_readTerm_11 rc ro f) (nI i) x = _
    have e : fX4_isTimes (x.1 19 2) x = some (1, x) := by
      unfold fX4_isTimes
      by_cases z1 : x.1 19 2 = 42
      · rw [if_pos z1]
      · rw [if_neg z1]
        by_cases z2 : x.1 19 2 = 47
        · rw [if_pos z2]
        · rw [if_neg z2, if_pos ((hk.resolve_left z1).resolve_left z2)]
    unfold fX4_readTerm_11
    rw [if_neg (n30 hi), e, bd]
    dsimp only
    rw [if_neg one0, hs, bd, nI_s]
theorem sum_gs (hT : GS x0 y0 t L 6 6 true kT (fX4_readTerm rc ro) D) : GS x0 y0 t L 5 5 true kS (fX4_readSum rc ro) D := by
  refine GS_mono (level_gs (lv := 5) (K := fun v => v = 43 ∨ v = 45) (H := hX4_readSum_11 rc ro) (by decide) (by decide) (by decide) (fun v hv => ?_) (fun _ => by decide) hT (fun f i x hi hk => ?_) (fun f i x x1 hi hk hs => ?_) (fun x => rfl)) (fun v l hv => ⟨hv.1, fun q => hv.2 (.inl q), fun q => hv.2 (.inr q)⟩)
  · rcases hv with z | z
    · exact ⟨43, .inr (.inr ⟨z, by omega⟩), rfl⟩
    · exact ⟨45, .inr (.inr ⟨z, by omega⟩), rfl⟩
  · show fX4_readSum_11 rc ro (hX4_readSum_11 rc ro f) (nI i) x = _
    unfold fX4_readSum_11
    rw [if_neg (n30 hi), if_neg (fun q => hk (.inl q)), if_neg (fun q => hk (.inr q))]
  · show fX4_readSum_11 rc ro (hX4_readSum_11 rc ro f) (nI i) x = _
    unfold fX4_readSum_11 fX4_readSum_41
    rw [if_neg (n30 hi), hs, bd, nI_s]
    by_cases z1 : x.1 19 2 = 43
    · rw [if_pos z1]
    · rw [if_neg z1, if_pos (hk.resolve_left z1)]
theorem and_gs (hO : GS x0 y0 t L 4 3 false kO (fX4_readOne rc ro) D) : GS x0 y0 t L 2 2 false kA (fX4_readAnd rc ro) D := by
  refine GS_mono (level_gs (lv := 2) (K := fun v => v = 14) (H := hX4_readAnd_11 rc ro) (by decide) (by decide) (by decide) (fun v hv => ⟨38, .inr (.inl ⟨hv, rfl⟩), rfl⟩) (fun q => absurd q (by decide)) hO (fun f i x hi hk => ?_) (fun f i x x1 hi hk hs => ?_) (fun x => rfl)) (fun v l hv => hv)
  · show fX4_readAnd_11 rc ro (hX4_readAnd_11 rc ro f) (nI i) x = _
    unfold fX4_readAnd_11
    rw [if_neg (n30 hi), if_neg hk]
  · show fX4_readAnd_11 rc ro (hX4_readAnd_11 rc ro f) (nI i) x = _
    have hk : x.1 19 2 = 14 := hk
    unfold fX4_readAnd_11
    rw [if_neg (n30 hi), if_pos hk, hs, bd, nI_s, hk]
theorem or_gs (hA : GS x0 y0 t L 2 2 false kA (fX4_readAnd rc ro) D) : GS x0 y0 t L 1 1 false kR (fX4_readOr rc ro) D := by
  refine GS_mono (level_gs (lv := 1) (K := fun v => v = 13) (H := hX4_readOr_11 rc ro) (by decide) (by decide) (by decide) (fun v hv => ⟨124, .inl ⟨hv, rfl⟩, rfl⟩) (fun q => absurd q (by decide)) hA (fun f i x hi hk => ?_) (fun f i x x1 hi hk hs => ?_) (fun x => rfl)) (fun v l hv => hv)
  · show fX4_readOr_11 rc ro (hX4_readOr_11 rc ro f) (nI i) x = _
    unfold fX4_readOr_11
    rw [if_neg (n30 hi), if_neg hk]
  · show fX4_readOr_11 rc ro (hX4_readOr_11 rc ro f) (nI i) x = _
    have hk : x.1 19 2 = 13 := hk
    unfold fX4_readOr_11
    rw [if_neg (n30 hi), if_pos hk, hs, bd, nI_s, hk]
end LV
end SS
