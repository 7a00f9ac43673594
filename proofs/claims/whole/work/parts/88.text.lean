/-! ===== a line, and all lines ===== -/
section LI
variable {x0 y0 x y : gS} {t L c : Nat}
theorem l_bad (h : RD x0 y0 t L c x y) : LN x0 y0 t L c ((fX4_refuse 2 x).bind fun q => gc (gB q.1) (some (q.1, q.2))) (fX11_readLine_202 y) := by
  obtain ⟨x', y', r1, r2, r3⟩ := l_refuse h (v := 2) (a := 2) rfl (by decide)
  unfold fX11_readLine_202
  rw [r1, r2, bd, end_F r3]
  exact .inl ⟨x', y', rfl, rfl, r3⟩
theorem f162 (h : KD x y) (hk : ¬ x.1 19 2 = 12 ∨ ¬ y.1 0 54 = 0) : fX11_readLine_162 y = fX11_readLine_202 y := by
  unfold fX11_readLine_162
  by_cases z : x.1 19 2 = 12
  · rw [(isW h (k := 12) (w := 1685217655) (by decide) rfl).1 z, bd]
    dsimp only
    rw [if_neg one0, if_neg (hk.resolve_left (fun q => q z))]
  · rw [(isW h (k := 12) (w := 1685217655) (by decide) rfl).2 z, bd]
    dsimp only
    rw [if_pos rfl]
theorem f123 (h : KD x y) (hk : ¬ x.1 19 2 = 11 ∨ ¬ y.1 0 53 = 0) : fX11_readLine_123 y = fX11_readLine_162 y := by
  unfold fX11_readLine_123
  by_cases z : x.1 19 2 = 11
  · rw [(isW h (k := 11) (w := 1668248164) (by decide) rfl).1 z, bd]
    dsimp only
    rw [if_neg one0, if_neg (hk.resolve_left (fun q => q z))]
  · rw [(isW h (k := 11) (w := 1668248164) (by decide) rfl).2 z, bd]
    dsimp only
    rw [if_pos rfl]
theorem f77 (h : KD x y) (h9 : ¬ x.1 19 2 = 9) (hk : ¬ x.1 19 2 = 10 ∨ ¬ y.1 0 52 = 0) : fX11_readLine_77 y = fX11_readLine_123 y := by
  unfold fX11_readLine_77
  rw [(isW h (k := 9) (w := 512970880104) (by decide) rfl).2 h9, bd]
  dsimp only
  rw [if_pos rfl]
  by_cases z : x.1 19 2 = 10
  · rw [(isW h (k := 10) (w := 1936484720) (by decide) rfl).1 z, bd]
    dsimp only
    rw [if_neg one0, if_neg (hk.resolve_left (fun q => q z))]
  · rw [(isW h (k := 10) (w := 1936484720) (by decide) rfl).2 z, bd]
    dsimp only
    rw [if_pos rfl]
theorem f51 (h : KD x y) (hk : ¬ x.1 19 2 = 5 ∨ 16 ≤ y.1 0 45) : fX11_readLine_51 y = fX11_readLine_77 y := by
  unfold fX11_readLine_51
  by_cases z : x.1 19 2 = 5
  · rw [(isW h (k := 5) (w := 1836021349) (by decide) rfl).1 z, bd]
    dsimp only
    rw [if_neg one0, if_pos (hk.resolve_left (fun q => q z))]
  · rw [(isW h (k := 5) (w := 1836021349) (by decide) rfl).2 z, bd]
    dsimp only
    rw [if_pos rfl]
theorem f26 (h : KD x y) (hk : ¬ x.1 19 2 = 1 ∨ 5 ≤ y.1 0 44) : fX11_readLine_26 y = fX11_readLine_51 y := by
  unfold fX11_readLine_26
  by_cases z : x.1 19 2 = 1
  · rw [(isW h (k := 1) (w := 500135715429) (by decide) rfl).1 z, bd]
    dsimp only
    rw [if_neg one0, if_pos (hk.resolve_left (fun q => q z))]
  · rw [(isW h (k := 1) (w := 500135715429) (by decide) rfl).2 z, bd]
    dsimp only
    rw [if_pos rfl]
theorem f00 (h : KD x y) (hk : ¬ x.1 19 2 = 0 ∨ 8 ≤ y.1 0 43) : fX11_readLine y = fX11_readLine_26 y := by
  unfold fX11_readLine
  by_cases z : x.1 19 2 = 0
  · rw [(isW h (k := 0) (w := 112602893349477) (by decide) rfl).1 z, bd]
    dsimp only
    rw [if_neg one0, if_pos (hk.resolve_left (fun q => q z))]
  · rw [(isW h (k := 0) (w := 112602893349477) (by decide) rfl).2 z, bd]
    dsimp only
    rw [if_pos rfl]
theorem l_line (h : RD x0 y0 t L c x y) : LN x0 y0 t L c (fX4_readLine x) (fX11_readLine y) := by
  have hkd := h.kd
  obtain ⟨m1, m2, m3, m4, m5, m6, m7⟩ := h.dr
  have k8 := h.k8
  have et := h.2.2.2.2.1
  unfold fX4_readLine
  by_cases z0 : x.1 19 2 = 0
  · have o1 : ¬ x.1 19 2 = 1 := by rw [z0]; decide
    have o5 : ¬ x.1 19 2 = 5 := by rw [z0]; decide
    have o9 : ¬ x.1 19 2 = 9 := by rw [z0]; decide
    have o10 : ¬ x.1 19 2 = 10 := by rw [z0]; decide
    have o11 : ¬ x.1 19 2 = 11 := by rw [z0]; decide
    have o12 : ¬ x.1 19 2 = 12 := by rw [z0]; decide
    rw [if_pos z0]
    have en : y.1 0 43 = nI (qF y) := m1.1.1
    have h9 : qF y < 9 := m1.1.2
    by_cases hn : qF y < 8
    · have n8 : ¬ 8 ≤ y.1 0 43 := by rw [en]; exact fun q => by have := (nI_le' (a := 8) (by decide) (by omega)).mp q; omega
      have e : fX11_readLine y = (fX11_readFigure y).bind fun q => fX11_readLine_207 q := by
        unfold fX11_readLine
        rw [(isW hkd (k := 0) (w := 112602893349477) (by decide) rfl).1 z0, bd]
        dsimp only
        rw [if_neg one0, if_neg n8]
      rw [e]
      exact LN_gB (l_figure h z0 hn)
    · have n8 : 8 ≤ y.1 0 43 := by rw [en]; exact (nI_le' (a := 8) (by decide) (by omega)).mpr (by omega)
      rw [f00 hkd (.inr n8), f26 hkd (.inl o1), f51 hkd (.inl o5), f77 hkd o9 (.inl o10), f123 hkd (.inl o11), f162 hkd (.inl o12)]
      have e : fX4_readFigure x = (fX4_refuse 2 x).bind fun q => gc (gB q.1) (some (q.1, q.2)) := by
        unfold fX4_readFigure
        rw [gc_p k8, et, m1.2.1, en, if_neg (show ¬ nI (qF y) < 8 from fun q => hn ((nI_lt' (b := 8) (by omega) (by decide)).mp q))]
      rw [e]
      exact LN_gB (l_bad h)
  · rw [if_neg z0]
    by_cases z1 : x.1 19 2 = 1
    · have o5 : ¬ x.1 19 2 = 5 := by rw [z1]; decide
      have o9 : ¬ x.1 19 2 = 9 := by rw [z1]; decide
      have o10 : ¬ x.1 19 2 = 10 := by rw [z1]; decide
      have o11 : ¬ x.1 19 2 = 11 := by rw [z1]; decide
      have o12 : ¬ x.1 19 2 = 12 := by rw [z1]; decide
      rw [if_pos z1, f00 hkd (.inl z0)]
      have en : y.1 0 44 = nI (qT y) := m2.1.1
      have h9 : qT y < 6 := m2.1.2
      by_cases hn : qT y < 5
      · have n8 : ¬ 5 ≤ y.1 0 44 := by rw [en]; exact fun q => by have := (nI_le' (a := 5) (by decide) (by omega)).mp q; omega
        have e : fX11_readLine_26 y = (fX11_readTribe y).bind fun q => fX11_readLine_207 q := by
          unfold fX11_readLine_26
          rw [(isW hkd (k := 1) (w := 500135715429) (by decide) rfl).1 z1, bd]
          dsimp only
          rw [if_neg one0, if_neg n8]
        rw [e]
        exact LN_gB (l_tribe h z1 hn)
      · have n8 : 5 ≤ y.1 0 44 := by rw [en]; exact (nI_le' (a := 5) (by decide) (by omega)).mpr (by omega)
        rw [f26 hkd (.inr n8), f51 hkd (.inl o5), f77 hkd o9 (.inl o10), f123 hkd (.inl o11), f162 hkd (.inl o12)]
        have e : fX4_readTribe x = (fX4_refuse 2 x).bind fun q => gc (gB q.1) (some (q.1, q.2)) := by
          unfold fX4_readTribe
          rw [gc_p k8, et, m2.2.1, en, if_neg (show ¬ nI (qT y) < 5 from fun q => hn ((nI_lt' (b := 5) (by omega) (by decide)).mp q))]
        rw [e]
        exact LN_gB (l_bad h)
    · rw [if_neg z1]
      by_cases z5 : x.1 19 2 = 5
      · have o9 : ¬ x.1 19 2 = 9 := by rw [z5]; decide
        have o10 : ¬ x.1 19 2 = 10 := by rw [z5]; decide
        have o11 : ¬ x.1 19 2 = 11 := by rw [z5]; decide
        have o12 : ¬ x.1 19 2 = 12 := by rw [z5]; decide
        rw [if_pos z5, f00 hkd (.inl z0), f26 hkd (.inl z1)]
        have en : y.1 0 45 = nI (qM y) := m4.1.1
        have h9 : qM y < 17 := m4.1.2
        by_cases hn : qM y < 16
        · have n8 : ¬ 16 ≤ y.1 0 45 := by rw [en]; exact fun q => by have := (nI_le' (a := 16) (by decide) (by omega)).mp q; omega
          have e : fX11_readLine_51 y = (fX11_readMove y).bind fun q => fX11_readLine_207 q := by
            unfold fX11_readLine_51
            rw [(isW hkd (k := 5) (w := 1836021349) (by decide) rfl).1 z5, bd]
            dsimp only
            rw [if_neg one0, if_neg n8]
          rw [e]
          exact LN_gB (l_move h z5 hn)
        · have n8 : 16 ≤ y.1 0 45 := by rw [en]; exact (nI_le' (a := 16) (by decide) (by omega)).mpr (by omega)
          rw [f51 hkd (.inr n8), f77 hkd o9 (.inl o10), f123 hkd (.inl o11), f162 hkd (.inl o12)]
          have e : fX4_readMove x = (fX4_refuse 2 x).bind fun q => gc (gB q.1) (some (q.1, q.2)) := by
            unfold fX4_readMove
            rw [gc_p k8, et, m4.2.1, en, if_neg (show ¬ nI (qM y) < 16 from fun q => hn ((nI_lt' (b := 16) (by omega) (by decide)).mp q))]
          rw [e]
          exact LN_gB (l_bad h)
      · rw [if_neg z5, f00 hkd (.inl z0), f26 hkd (.inl z1), f51 hkd (.inl z5)]
        by_cases z9 : x.1 19 2 = 9
        · rw [if_pos z9]
          have e : fX11_readLine_77 y = (fX11_readWorth y).bind fun q => fX11_readLine_207 q := by
            unfold fX11_readLine_77
            rw [(isW hkd (k := 9) (w := 512970880104) (by decide) rfl).1 z9, bd]
            dsimp only
            rw [if_neg one0]
          rw [e]
          exact LN_gB (l_worth h z9)
        · rw [if_neg z9]
          by_cases z10 : x.1 19 2 = 10
          · have o11 : ¬ x.1 19 2 = 11 := by rw [z10]; decide
            have o12 : ¬ x.1 19 2 = 12 := by rw [z10]; decide
            rw [if_pos z10]
            by_cases hn : y.1 0 52 = 0
            · have e : fX11_readLine_77 y = (fX11_readSlip (wi y 0 52 1)).bind fun q => fX11_readLine_207 q := by
                unfold fX11_readLine_77
                rw [(isW hkd (k := 9) (w := 512970880104) (by decide) rfl).2 z9, bd]
                dsimp only
                rw [if_pos rfl, (isW hkd (k := 10) (w := 1936484720) (by decide) rfl).1 z10, bd]
                dsimp only
                rw [if_neg one0, if_pos hn]
              rw [e]
              exact LN_gB (l_slip h z10 hn)
            · rw [f77 hkd z9 (.inr hn), f123 hkd (.inl o11), f162 hkd (.inl o12)]
              obtain ⟨n, u, s1, s2, s3, s4, s5, s6, -⟩ := (m6.resolve_left (fun q => hn q.1)).2
              have e : fX4_readSlip x = (fX4_refuse 2 x).bind fun q => gc (gB q.1) (some (q.1, q.2)) := by
                unfold fX4_readSlip fX0_isTold
                rw [gc_p k8, et, s3, if_neg (show ¬ nI u ≤ 0 from fun q => by have := (nI_le' (b := 0) (by omega) (by decide)).mp q; omega), bd]
                dsimp only
                rw [if_neg one0]
              rw [e]
              exact LN_gB (l_bad h)
          · rw [if_neg z10, f77 hkd z9 (.inl z10)]
            by_cases z11 : x.1 19 2 = 11
            · have o12 : ¬ x.1 19 2 = 12 := by rw [z11]; decide
              rw [if_pos z11]
              by_cases hn : y.1 0 53 = 0
              · have e : fX11_readLine_123 y = (fX11_told 1668248164 1 99 (wi y 0 53 1)).bind fun q => fX11_readLine_207 (wi q.2 0 46 q.1) := by
                  unfold fX11_readLine_123
                  rw [(isW hkd (k := 11) (w := 1668248164) (by decide) rfl).1 z11, bd]
                  dsimp only
                  rw [if_neg one0, if_pos hn]
                rw [e]
                exact LN_gB (l_cord h z11 hn)
              · rw [f123 hkd (.inr hn), f162 hkd (.inl o12)]
                have e : fX4_readCord x = (fX4_refuse 2 x).bind fun q => gc (gB q.1) (some (q.1, q.2)) := by
                  unfold fX4_readCord
                  rw [m5.2.2.2.1, if_neg hn]
                rw [e]
                exact LN_gB (l_bad h)
            · rw [if_neg z11, f123 hkd (.inl z11)]
              by_cases z12 : x.1 19 2 = 12
              · rw [if_pos z12]
                by_cases hn : y.1 0 54 = 0
                · have e : fX11_readLine_162 y = (fX11_told 1685217655 0 999 (wi y 0 54 1)).bind fun q => fX11_readLine_207 (wi q.2 0 47 q.1) := by
                    unfold fX11_readLine_162
                    rw [(isW hkd (k := 12) (w := 1685217655) (by decide) rfl).1 z12, bd]
                    dsimp only
                    rw [if_neg one0, if_pos hn]
                  rw [e]
                  exact LN_gB (l_draw h z12 hn)
                · rw [f162 hkd (.inr hn)]
                  have e : fX4_readDraw x = (fX4_refuse 2 x).bind fun q => gc (gB q.1) (some (q.1, q.2)) := by
                    unfold fX4_readDraw
                    rw [m5.2.2.2.2, if_neg hn]
                  rw [e]
                  exact LN_gB (l_bad h)
              · rw [if_neg z12, f162 hkd (.inl z12)]
                unfold fX4_readLine_107
                exact l_bad h
theorem all_F {g : Nat} (h : FL x0 y0 t x y) : hX11_readAll_78 (g + 1) y = some y := by
  show fX11_readAll_78 (hX11_readAll_78 g) y = _
  unfold fX11_readAll_78
  rw [if_neg h.n1]
theorem tl_end {f : Nat} {i : Int32} {x : gS} (z : x.1 19 2 = 21) : hX10_treaty_11 (f + 1) 1 i x = fX10_treaty_46 1 x := by
  show fX10_treaty_11 (hX10_treaty_11 f) 1 i x = _
  unfold fX10_treaty_11 fX4_isAtEnd
  by_cases q : 1600 ≤ i
  · rw [if_pos q]
  · rw [if_neg q, if_neg one0, if_pos z, bd]
    dsimp only
    rw [if_neg one0]
theorem tl_bad {f : Nat} {i : Int32} {x : gS} : hX10_treaty_11 (f + 1) 0 i x = fX10_treaty_46 0 x := by
  show fX10_treaty_11 (hX10_treaty_11 f) 0 i x = _
  unfold fX10_treaty_11
  by_cases q : 1600 ≤ i
  · rw [if_pos q]
  · rw [if_neg q, if_pos rfl]
theorem tl_go {f : Nat} {i : Int32} {x : gS} (hi : ¬ 1600 ≤ i) (z : ¬ x.1 19 2 = 21) : hX10_treaty_11 (f + 1) 1 i x = (fX4_readLine x).bind fun q => hX10_treaty_11 f q.1 (i + 1) q.2 := by
  show fX10_treaty_11 (hX10_treaty_11 f) 1 i x = _
  unfold fX10_treaty_11 fX4_isAtEnd
  rw [if_neg hi, if_neg one0, if_neg z, bd]
  dsimp only
  rw [if_pos rfl]
/-- all lines -/
theorem l_all : ∀ (e i c f g : Nat) (x y : gS), L ≤ c + e → RD x0 y0 t L c x y → i ≤ c → e < f → e + 1 < g →
    (∃ x' y', hX10_treaty_11 f 1 (nI i) x = fX10_treaty_46 0 x' ∧ hX11_readAll_78 g y = some y' ∧ FL x0 y0 t x' y') ∨ ∃ x' y' c', hX10_treaty_11 f 1 (nI i) x = fX10_treaty_46 1 x' ∧ hX11_readAll_78 g y = some y' ∧ RD x0 y0 t L c' x' y' := by
  intro e
  induction e with
  | zero =>
    intro i c f g x y he h hi hf hg
    obtain ⟨f, rfl⟩ : ∃ j, f = j + 1 := ⟨f - 1, by omega⟩
    obtain ⟨g, rfl⟩ : ∃ j, g = j + 1 := ⟨g - 1, by omega⟩
    obtain ⟨p1, p2, p3, p4, p5, p6⟩ := h.2.2.1
    have hL := p1.1
    have z : x.1 19 2 = 21 := by
      rcases p6 with q | ⟨p, q1, q2, q3, q4⟩
      · have := q.2; omega
      · rcases q4 with q4 | q4
        · exact q4
        · omega
    have s0 : y.1 0 6 = 0 := (h.kd.iff (a := 0) (b := 21) (by decide) (by omega)).mpr z
    refine .inr ⟨x, y, c, tl_end z, ?_, h⟩
    show fX11_readAll_78 (hX11_readAll_78 g) y = _
    unfold fX11_readAll_78
    rw [h.f0, if_pos rfl, if_pos s0]
  | succ e ih =>
    intro i c f g x y he h hi hf hg
    obtain ⟨f, rfl⟩ : ∃ j, f = j + 1 := ⟨f - 1, by omega⟩
    obtain ⟨g, rfl⟩ : ∃ j, g = j + 1 := ⟨g - 1, by omega⟩
    obtain ⟨p1, p2, p3, p4, p5, p6⟩ := h.2.2.1
    have hL := p1.1
    have s0 : y.1 0 6 = 0 ↔ x.1 19 2 = 21 := h.kd.iff (a := 0) (b := 21) (by decide) (by omega)
    by_cases z : x.1 19 2 = 21
    · refine .inr ⟨x, y, c, tl_end z, ?_, h⟩
      show fX11_readAll_78 (hX11_readAll_78 g) y = _
      unfold fX11_readAll_78
      rw [h.f0, if_pos rfl, if_pos (s0.mpr z)]
    · have hcL : c < L := by
        rcases p6 with q | ⟨p, q1, q2, q3, q4⟩
        · exact q.2
        · have := q4.resolve_left z; omega
      have eB : hX11_readAll_78 (g + 1) y = (fX11_readLine y).bind fun q => hX11_readAll_78 g q := by
        show fX11_readAll_78 (hX11_readAll_78 g) y = _
        unfold fX11_readAll_78
        rw [h.f0, if_pos rfl, if_neg (fun q => z (s0.mp q))]
      rw [tl_go (show ¬ 1600 ≤ nI i from fun q => by have := (nI_le' (a := 1600) (by decide) (by omega)).mp q; omega) z, eB, nI_s]
      obtain ⟨f, rfl⟩ : ∃ j, f = j + 1 := ⟨f - 1, by omega⟩
      obtain ⟨g, rfl⟩ : ∃ j, g = j + 1 := ⟨g - 1, by omega⟩
      rcases l_line h with ⟨x', y', g1, g2, g3⟩ | ⟨x', y', c', g1, g2, g3, g4⟩
      · rw [g1, g2, bd, bd]
        dsimp only
        exact .inl ⟨x', y', tl_bad, all_F g3, g3⟩
      · rw [g1, g2, bd, bd]
        dsimp only
        exact ih (i + 1) c' (f + 1) (g + 1) x' y' (by omega) g3 (by omega) (by omega) (by omega)
end LI
