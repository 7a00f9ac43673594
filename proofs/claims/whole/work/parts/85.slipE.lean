section SS
variable {x0 y0 x y : gS} {t L D : Nat}
theorem unit_gs {rc ro : gS → Option (Int32 × gS)} (hrc : ∀ D', D = D' + 1 → GS x0 y0 t L 1 1 false kR rc D') : GS x0 y0 t L 7 7 true (fun _ _ => True) (fX4_readUnit rc ro) D := by
  intro x y c S w u d k m n h hlow hnn hb1' hb2' hD hm hn
  have hcL : c ≤ L := h.1.2.2.1.2.1
  have ht := h.1.2.2.2.2.2
  obtain ⟨m, rfl⟩ : ∃ j, m = j + 2 := ⟨m - 2, by omega⟩
  obtain ⟨n, rfl⟩ : ∃ j, n = j + 2 := ⟨n - 2, by omega⟩
  obtain ⟨c1, c2, c3, c4, c5, c6, c7, c8, c9⟩ := h.2.1
  obtain ⟨b1, e20, e22, b4, b5, b6, b7, b8⟩ := h.2.2.1
  have b4 : y.1 0 19 = nI S.length := b4
  have b6 : S.length ≤ 70 := b6
  have b1 : y.1 0 23 = nI w := b1
  have hf0 := h.1.f0
  have hkd := h.1.kd
  have e53 : hX11_unit_2 (m + 2) 1 y = fX11_unit_53 (hX11_unit_2 (m + 1)) 1 y := by
    show fX11_unit_2 (hX11_unit_2 (m + 1)) 1 y = _
    unfold fX11_unit_2
    rw [if_neg one0, hf0, if_pos rfl]
    by_cases z : x.1 19 2 = 15
    · rw [(isW hkd (k := 15) (w := 7237492) (by decide) rfl).1 z, bd]
      dsimp only
      rw [if_neg one0, may_sp h, bd, hnn rfl z]
      dsimp only
      rw [if_pos (show b2 false = 0 from rfl)]
    · rw [(isW hkd (k := 15) (w := 7237492) (by decide) rfl).2 z, bd]
      dsimp only
      rw [if_pos rfl]
  have s40 : y.1 0 6 = 40 ↔ x.1 19 2 = 40 := hkd.iff (a := 40) (b := 40) (by decide) (by omega)
  have s20 : y.1 0 6 = 2 ↔ x.1 19 2 = 20 := hkd.iff (a := 2) (b := 20) (by decide) (by omega)
  have e101 : ¬ x.1 19 2 = 40 → hX11_unit_2 (m + 2) 1 y = fX11_unit_101 y := fun z => by
    rw [e53]
    unfold fX11_unit_53
    rw [if_neg (fun q => z (s40.mp q))]
    show fX11_unit_2 (hX11_unit_2 m) 0 y = _
    unfold fX11_unit_2
    rw [if_pos rfl]
  obtain ⟨x', y', r1, r2, r3, r4⟩ := h.1.ref (v := 2) (a := 2) rfl (by decide)
  -- refused
  have hA : ((fX4_refuse 2 x).bind fun q => gc (gB q.1) (some (q.1, q.2))) = some (0, x') := by rw [r1, bd, gc_p (show gB 0 by decide)]
  have f133 : ∀ l2, fX11_unit_133 l2 y = some y' := fun l2 => by
    unfold fX11_unit_133 fX11_unit_138
    rw [r2, bd, if_neg r3.n0]
  have f78 : ∃ y2, fX11_unit_78 (hX11_unit_2 (m + 1)) 1 y = some y2 ∧ FL x0 y0 t x' y2 := by
    unfold fX11_unit_78 fX11_unit_83 fX11_countUnit
    rw [r2, bd, bd]
    have g1 := FL_wi (k := 0) (j := 20) (v := y'.1 0 20 + 1) r3 (.inl (by unfold scrY; omega)) (by omega)
    have g2 := FL_wi (k := 0) (j := 22) (v := (wi y' 0 20 (y'.1 0 20 + 1)).1 0 22 + 1) g1 (.inl (by unfold scrY; omega)) (by omega)
    obtain ⟨y2, g3, g4⟩ := up_F (v := 20) (N := S.length) g2 (by rw [wi_1, if_neg (by omega), wi_1, if_neg (by omega), r4 0 19 (by omega), b4]) (by omega)
    rw [g3, bd]
    exact ⟨y2, un_F g4, g4⟩
  have bad : ∀ {A : Option (Int32 × gS)} {y2 : gS}, A = some (0, x') → hX11_unit_2 (m + 2) 1 y = some y2 → FL x0 y0 t x' y2 → GR x0 y0 t L c S w u (d + 1) 7 (fun _ _ => True) A (UU (m + 2) (n + 2) y) := fun {A y2} e1 e2 e3 => by
    refine .inl ⟨x', y2, e1, ?_, e3⟩
    unfold UU
    rw [e2, bd]
    exact LH_F e3
  unfold fX4_readUnit
  rw [gc_p h.1.k8, h.1.2.2.2.2.1, c3]
  by_cases hu : u < 30
  · have hfull := (full_sp h).1 hu
    rw [if_pos (show nI u < 30 from (nI_lt' (b := 30) (by omega) (by decide)).mpr hu)]
    -- both have read a unit
    have good : ∀ {A : Option (Int32 × gS)} {v s a : Int32} {l2 s0 : Int32}, stp v s a → kdv v = 0 → x.1 19 2 ≠ 22 → x.1 19 2 ≠ 21 → (∀ x1 x2, fX0_add (t + 1 + 11) v (wi x (t + 1 + 11) 3 (x.1 (t + 1 + 11) 3 + 1)) = some x1 → fX7_step x1 = some x2 → A = some (1, x2)) → (∀ y1 y2 y3, fX11_countUnit y = some y1 → y1.1 0 8 = y.1 0 8 → fX11_add s a y1 = some y2 → fX11_token y2 = some y3 → hX11_unit_2 (m + 2) 1 y = some y3) → GR x0 y0 t L c S w u (d + 1) 7 (fun _ _ => True) A (UU (m + 2) (n + 2) y) := by
      intro A v s a l2 s0 hs hv n22 n21 hx hy
      obtain ⟨x1, y1, y2, g1, g2, g3, g4, g5, g6⟩ := SR_unit h hu (by omega) hs hv
      obtain ⟨x2, y3, c', k1, k2, k3, k4⟩ := SR_tok g5 (by rw [g6]; exact n22) (by rw [g6]; exact n21)
      refine .inr ⟨x2, y3, [], c', u + 1, k + 1, n + 2, hx x1 x2 g1 k1, ?_, k3, fun a ha => absurd ha List.not_mem_nil, k4, by omega, by omega, by omega, trivial⟩
      unfold UU
      rw [hy y1 y2 y3 g2 g3 g4 k2, bd]
      rfl
    by_cases hw5 : x.1 19 2 = 2 ∨ x.1 19 2 = 7 ∨ x.1 19 2 = 16 ∨ x.1 19 2 = 17 ∨ x.1 19 2 = 18
    · have cls : (if x.1 19 2 = 2 then fX4_readUnit_122 rc ro x else if x.1 19 2 = 7 then fX4_readUnit_122 rc ro x else if x.1 19 2 = 16 then fX4_readUnit_122 rc ro x else if x.1 19 2 = 17 then fX4_readUnit_122 rc ro x else if x.1 19 2 = 18 then fX4_readUnit_122 rc ro x else if x.1 19 2 = 20 then (gc (gK 0 (x.2.2 3 1) = 8) ((fX0_addNumber ((x.2.2 3 1) + 1 + 11) (x.1 19 4) x).bind fun q0_1 => ((fX7_step q0_1).bind fun q0_2 => (some (1, q0_2))))) else if x.1 19 2 = 40 then ((fX4_readBrackets rc ro x).bind fun q0_3 => (gc (gB q0_3.1) (some (q0_3.1, q0_3.2)))) else ((fX4_refuse 2 x).bind fun q0_4 => (gc (gB q0_4.1) (some (q0_4.1, q0_4.2))))) = fX4_readUnit_122 rc ro x := by
        rcases hw5 with z | z | z | z | z
        · rw [if_pos z]
        · rw [if_neg (by rw [z]; decide), if_pos z]
        · rw [if_neg (by rw [z]; decide), if_neg (by rw [z]; decide), if_pos z]
        · rw [if_neg (by rw [z]; decide), if_neg (by rw [z]; decide), if_neg (by rw [z]; decide), if_pos z]
        · rw [if_neg (by rw [z]; decide), if_neg (by rw [z]; decide), if_neg (by rw [z]; decide), if_neg (by rw [z]; decide), if_pos z]
      rw [h.1.2.2.2.2.1] at cls
      rw [cls]
      have ha : stp (x.1 19 2 ^^^ (-1)) 1 (askv (x.1 19 2)) ∧ kdv (x.1 19 2 ^^^ (-1)) = 0 ∧ 0 ≤ askv (x.1 19 2) ∧ ¬ askv (x.1 19 2) < 0 ∧ x.1 19 2 ≠ 22 ∧ x.1 19 2 ≠ 21 ∧ x.1 19 2 ≠ 40 ∧ x.1 19 2 ≠ 20 := by
        rcases hw5 with z | z | z | z | z <;> rw [z] <;> refine ⟨.inr (.inl ⟨rfl, by decide⟩), by decide, by decide, by decide, by decide, by decide, by decide, by decide⟩
      obtain ⟨a1, a2, a3, a4, a5, a6, a7, a8⟩ := ha
      refine good (l2 := 0) (s0 := 0) a1 a2 a5 a6 (fun x1 x2 g1 g2 => ?_) (fun y1 y2 y3 g1 g2 g3 g4 => ?_)
      · unfold fX4_readUnit_122 fX0_addWord
        rw [gc_p h.1.k8, h.1.2.2.2.2.1, g1, bd, bd, g2, bd]
      · rw [e101 a7]
        unfold fX11_unit_101 fX11_unit_126 fX11_unit_138 fX11_unit_160 fX11_unit_172
        rw [hf0, if_pos le0, isAsk hkd, bd]
        dsimp only
        rw [if_neg (fun q => a8 (s20.mp q)), if_neg a4, hfull, bd]
        dsimp only
        rw [if_pos rfl, hf0, if_pos le0, g1, bd, if_pos a3, if_pos a3, g3, bd, g4, bd]
    · have w1 : ¬ x.1 19 2 = 2 := fun q => hw5 (.inl q)
      have w2 : ¬ x.1 19 2 = 7 := fun q => hw5 (.inr (.inl q))
      have w3 : ¬ x.1 19 2 = 16 := fun q => hw5 (.inr (.inr (.inl q)))
      have w4 : ¬ x.1 19 2 = 17 := fun q => hw5 (.inr (.inr (.inr (.inl q))))
      have w5 : ¬ x.1 19 2 = 18 := fun q => hw5 (.inr (.inr (.inr (.inr q))))
      have hask : askv (x.1 19 2) = -1 := by
        unfold askv
        rw [if_neg w2, if_neg w1, if_neg w3, if_neg w4, if_neg w5]
      rw [if_neg w1, if_neg w2, if_neg w3, if_neg w4, if_neg w5]
      by_cases z20 : x.1 19 2 = 20
      · have hN : x.1 19 4 = y.1 0 8 ∧ isN (y.1 0 8) 10000 := by
          rcases hkd with ⟨q, -⟩ | ⟨k, k0, q, -⟩ | ⟨-, -, q⟩ | ⟨q, -⟩ | ⟨q1, q2⟩
          · rw [z20] at q; exact absurd q (by decide)
          · rw [z20] at q; have := (nI_inj (a := 20) (by decide) (by omega)).mp q; omega
          · exact q
          · rw [z20] at q; exact absurd q (by decide)
          · rw [← q2, z20] at q1; exact absurd q1 (by decide)
        have hv0 : kdv (x.1 19 4) = 0 := by rw [hN.1, hN.2.1]; have := hN.2.2; exact kdv_n (nI_nn (by omega))
        rw [if_pos z20]
        refine good (l2 := 0) (s0 := 0) (v := x.1 19 4) (s := 0) (a := y.1 0 8) (.inl ⟨rfl, hN.1, by rw [hN.1]; exact hN.2⟩) hv0 (by rw [z20]; decide) (by rw [z20]; decide) (fun x1 x2 g1 g2 => ?_) (fun y1 y2 y3 g1 g2 g3 g4 => ?_)
        · unfold fX0_addNumber
          rw [gc_p (show gK 0 t = 8 by rw [← h.1.2.2.2.2.1]; exact h.1.k8), g1, bd, bd, g2, bd]
        · rw [e101 (by rw [z20]; decide)]
          unfold fX11_unit_101 fX11_unit_126 fX11_unit_138 fX11_unit_160 fX11_unit_172
          rw [hf0, if_pos le0, isAsk hkd, hask, bd]
          dsimp only
          rw [if_pos (s20.mpr z20), hfull, bd]
          dsimp only
          rw [if_pos rfl, hf0, if_pos le0, g1, bd, if_neg (show ¬ (0 : Int32) ≤ -1 by decide), if_neg (show ¬ (0 : Int32) ≤ -1 by decide), g2, g3, bd, g4, bd]
      · rw [if_neg z20]
        by_cases z40 : x.1 19 2 = 40
        · rw [if_pos z40]
          unfold fX4_readBrackets
          rw [c1]
          by_cases hw6 : w ≤ 6
          · obtain ⟨D', hD'⟩ : ∃ D', D = D' + 1 := ⟨D - 1, by omega⟩
            rw [if_pos (show nI w ≤ 6 from (nI_le' (b := 6) (by omega) (by decide)).mpr hw6), nI_s]
            have k8' : gK 0 ((wi x 3 4 (nI (w + 1))).2.2 3 1) = 8 := h.1.k8
            have e31 : (wi x 3 4 (nI (w + 1))).2.2 3 1 = t := h.1.2.2.2.2.1
            rw [gc_p k8', e31, show (wi x 3 4 (nI (w + 1))).1 (t + 1 + 11) 3 = nI u by rw [wi_1, if_neg (by omega), c3], nI_s]
            have r5 : SR x0 y0 t L c (20 :: S) [] (w + 1) (u + 1) d k (wi (wi x 3 4 (nI (w + 1))) (t + 1 + 11) 3 (nI (u + 1))) (wi (wi (wi (wi (wi y 0 20 (nI (u + 1))) 0 22 (nI (u + 1))) 7 S.length 20) 0 19 (nI (S.length + 1))) 0 23 (nI (w + 1))) := by
              refine SR_up h ((SX_wi (by omega)).tr (SX_wi (by omega))) ((SY_wi (by omega)).tr ((SY_wi (by omega)).tr ((SY_wi (by omega)).tr ((SY_wi (by omega)).tr (SY_wi (by omega)))))) (fun j => ?_) (fun _ => rfl) (fun j j1 j2 => ?_) rfl (.inl rfl) (by omega) ?_ (by omega) ?_ ?_ (by omega) (by omega) ?_ ?_ ?_ (fun j => ?_) ?_ (fun j => ?_) ?_ (fun j => ⟨?_, ?_⟩)
              · rw [wi_1, if_neg (by omega), wi_1, if_neg (by omega)]
              · rw [wi_1, if_neg (by omega), wi_1, if_neg (by omega), wi_1, if_neg (by omega), wi_1, if_neg (by omega), wi_1, if_neg (by omega)]
              · rw [wi_1, if_neg (by omega), wi_1, if_pos ⟨rfl, rfl⟩]
              · rw [wi_1, if_pos ⟨rfl, rfl⟩]
              · rw [wi_1, if_pos ⟨rfl, rfl⟩]
              · rw [wi_1, if_neg (by omega), wi_1, if_neg (by omega), wi_1, if_neg (by omega), wi_1, if_neg (by omega), wi_1, if_pos ⟨rfl, rfl⟩]
              · rw [wi_1, if_neg (by omega), wi_1, if_neg (by omega), wi_1, if_neg (by omega), wi_1, if_pos ⟨rfl, rfl⟩]
              · rw [wi_1, if_neg (by omega), wi_1, if_neg (by omega)]
              · rw [wi_1, if_neg (by omega), wi_1, if_neg (by omega)]
              · rw [wi_1, if_neg (by omega), wi_1, if_pos ⟨rfl, rfl⟩]
              · rw [wi_1, if_neg (by omega), wi_1, if_neg (by omega), wi_1]
                by_cases e : j = S.length
                · rw [if_pos ⟨rfl, e⟩, if_pos e]; rfl
                · rw [if_neg (fun q => e q.2), if_neg e, wi_1, if_neg (by omega), wi_1, if_neg (by omega)]
              · rw [wi_1, if_neg (by omega), wi_1, if_neg (by omega), wi_1, if_neg (by omega), wi_1, if_neg (by omega), wi_1, if_neg (by omega)]
              · rw [wi_1, if_neg (by omega), wi_1, if_neg (by omega), wi_1, if_neg (by omega), wi_1, if_neg (by omega), wi_1, if_neg (by omega)]
              · rw [wi_1, if_neg (by omega), wi_1, if_neg (by omega), wi_1, if_neg (by omega), wi_1, if_neg (by omega), wi_1, if_neg (by omega)]
            have hkk : (wi (wi x 3 4 (nI (w + 1))) (t + 1 + 11) 3 (nI (u + 1))).1 19 2 = 40 := by rw [wi_1, if_neg (by omega), wi_1, if_neg (by omega), z40]
            obtain ⟨x2, y2, c', k1, k2, k3, k4⟩ := SR_tok r5 (by rw [hkk]; decide) (by rw [hkk]; decide)
            have eU : hX11_unit_2 (m + 2) 1 y = hX11_unit_2 (m + 1) 1 y2 := by
              rw [e53]
              unfold fX11_unit_53 fX11_unit_83 fX11_countUnit fX11_openUp
              rw [if_pos (s40.mpr z40), hfull, bd]
              dsimp only
              rw [if_pos rfl, b1, if_pos (show nI w ≤ 6 from (nI_le' (b := 6) (by omega) (by decide)).mpr hw6), e20, nI_s, show (wi y 0 20 (nI (u + 1))).1 0 22 = nI u by rw [wi_1, if_neg (by omega), e22], nI_s, bd]
              have g19 : (wi (wi y 0 20 (nI (u + 1))) 0 22 (nI (u + 1))).1 0 19 = nI S.length := by rw [wi_1, if_neg (by omega), wi_1, if_neg (by omega), b4]
              rw [g19, gc_p (gI_nI (by omega) (by decide)), nI_clamp (show S.length < 2 ^ 31 by omega), show (wi (wi (wi y 0 20 (nI (u + 1))) 0 22 (nI (u + 1))) 7 S.length 20).1 0 19 = nI S.length by rw [wi_1, if_neg (by omega), g19], nI_s, show (wi (wi (wi (wi y 0 20 (nI (u + 1))) 0 22 (nI (u + 1))) 7 S.length 20) 0 19 (nI (S.length + 1))).1 0 23 = nI w by rw [wi_1, if_neg (by omega), wi_1, if_neg (by omega), wi_1, if_neg (by omega), wi_1, if_neg (by omega), b1], nI_s]
              rw [if_pos (show (wi (wi (wi (wi (wi y 0 20 (nI (u + 1))) 0 22 (nI (u + 1))) 7 S.length 20) 0 19 (nI (S.length + 1))) 0 23 (nI (w + 1))).1 0 2 = 0 by rw [wi_1, if_neg (by omega), wi_1, if_neg (by omega), wi_1, if_neg (by omega), wi_1, if_neg (by omega), wi_1, if_neg (by omega), hf0]), k2, bd, bd]
            have eUU : UU (m + 2) (n + 2) y = UU (m + 1) (n + 2) y2 := by unfold UU; rw [eU]
            rw [k1, bd, eUU]
            rcases hrc D' hD' x2 y2 c' (20 :: S) (w + 1) (u + 1) d k (m + 1) (n + 2) k3 (.inl rfl) (fun q => absurd q (by decide)) (by show k + (S.length + 1) ≤ _; omega) (by show S.length + 1 ≤ _; omega) (by omega) (by omega) (by omega) with ⟨x3, y3, g1, g2, g3⟩ | ⟨x3, y3, P, c3', u3, k3', n3, g1, g2, g3, g4, g5, g6, g7, g8, g9⟩
            · rw [g1, bd]
              dsimp only
              rw [if_pos rfl, bd, gc_p (show gB 0 by decide)]
              exact .inl ⟨x3, y3, rfl, g2, g3⟩
            · have g8 : k3' + (S.length + 1) + 1 ≤ 9 * u3 := g8
              rw [g1, bd]
              dsimp only
              have hcL3 : c3' ≤ L := g3.1.2.2.1.2.1
              obtain ⟨n3, rfl⟩ : ∃ j, n3 = j + 2 := ⟨n3 - 2, by omega⟩
              unfold fX4_pass
              rw [if_neg one0]
              by_cases z41 : x3.1 19 2 = 41
              · obtain ⟨x4, y4, c4', p1, p2, p3, p4, p5, p6⟩ := br_sp (n := n3 + 1) g3 z41
                rw [if_pos z41, p1, bd, bd]
                dsimp only
                rw [if_neg one0, p2, show nI (w + 1) - 1 = nI w from pk_sub (a := w + 1) (b := 1) (by omega), bd, gc_p (show gB 1 by decide)]
                exact .inr ⟨_, y4, [], c4', u3, k3', n3 + 1, rfl, g2.trans p3, p4, fun a ha => absurd ha List.not_mem_nil, by omega, by omega, by omega, by omega, trivial⟩
              · obtain ⟨x4, y4, q1, q2, q3, q4⟩ := g3.1.ref (v := 2) (a := 2) rfl (by decide)
                rw [if_neg z41, q1, bd, gc_p (show gB 0 by decide), bd]
                dsimp only
                rw [if_pos rfl, bd, gc_p (show gB 0 by decide)]
                refine .inl ⟨x4, y4, rfl, ?_, q3⟩
                rw [g2, stop_sp g3 g9 (fun q => absurd q z41)]
                unfold fX11_readSlip_157 fX11_readSlip_176
                rw [g3.1.f0, if_pos rfl, hb1 g3 (List.mem_append_right _ (List.mem_cons_self ..)), bd]
                dsimp only
                rw [if_neg one0, q2, bd, if_neg q3.n1]
          · rw [if_neg (show ¬ nI w ≤ 6 from fun q => hw6 ((nI_le' (b := 6) (by omega) (by decide)).mp q)), hA, bd, gc_p (show gB 0 by decide)]
            obtain ⟨y2, g1, g2⟩ := f78
            refine bad rfl ?_ g2
            rw [e53]
            unfold fX11_unit_53
            rw [if_pos (s40.mpr z40), hfull, bd]
            dsimp only
            rw [if_pos rfl, b1, if_neg (show ¬ nI w ≤ 6 from fun q => hw6 ((nI_le' (b := 6) (by omega) (by decide)).mp q))]
            exact g1
        · rw [if_neg z40]
          refine bad hA ?_ r3
          rw [e101 z40]
          unfold fX11_unit_101
          rw [hf0, if_pos le0, isAsk hkd, hask, bd]
          dsimp only
          rw [if_neg (fun q => z20 (s20.mp q)), if_pos (show (-1 : Int32) < 0 by decide)]
          exact f133 _
  · have hu30 : u = 30 := by omega
    have hfull := (full_sp h).2 hu30
    rw [if_neg (show ¬ nI u < 30 from fun q => hu ((nI_lt' (b := 30) (by omega) (by decide)).mp q))]
    by_cases z40 : x.1 19 2 = 40
    · obtain ⟨y2, g1, g2⟩ := f78
      refine bad hA ?_ g2
      rw [e53]
      unfold fX11_unit_53
      rw [if_pos (s40.mpr z40), hfull, bd]
      dsimp only
      rw [if_neg one0]
      exact g1
    · refine bad hA ?_ r3
      have f126 : ∀ l2, fX11_unit_126 l2 y = some y' := fun l2 => by
        unfold fX11_unit_126
        rw [hfull, bd]
        dsimp only
        rw [if_neg one0]
        exact f133 l2
      rw [e101 z40]
      unfold fX11_unit_101
      rw [hf0, if_pos le0, isAsk hkd, bd]
      dsimp only
      rw [f126, f133]
      by_cases z : y.1 0 6 = 2
      · rw [if_pos z]
      · rw [if_neg z]
        by_cases z2 : askv (x.1 19 2) < 0
        · rw [if_pos z2]
        · rw [if_neg z2]
end SS
