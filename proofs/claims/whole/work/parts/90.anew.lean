/-! ===== all begins anew ===== -/
def bgR (st : gS) (t j : Nat) : Int32 := if j = 2 then (if st.1 t 12 ≤ 0 then -1 else 0) else if j = 3 then (if st.1 t 13 ≤ 0 then -1 else 0) else if j = 9 then st.1 t 17 else 0
theorem begin_spec {st : gS} {t q : Nat} (ht : st.2.2 0 9 = t) (h8 : t = 4 ∨ t = 194) (hq : st.2.2 24 0 = 25 + 3 * q) (hq41 : q < 41) : ∃ st', fX10_beginAnew st = some st' ∧ st'.2 = st.2 ∧ ∀ k j, st'.1 k j = if k = 149 ∧ j < 3 then 0 else if k = 169 ∧ j = 10 then 0 else if k = 150 ∧ j = 7 then 0 else if k = 23 ∧ (j = 1 ∨ j = 2) then 0 else if (k = 20 ∨ k = 25 + 3 * q) ∧ 2 ≤ j ∧ j ≤ 9 then bgR st t j else if (k = 21 ∨ k = 22 ∨ k = 25 + 3 * q + 1 ∨ k = 25 + 3 * q + 2) ∧ j < 5 then 0 else st.1 k j := by
  have hk8 : gK 0 t = 8 := by
    rcases h8 with z | z <;> rw [z]
    · exact gk0_4
    · exact gk0_194
  obtain ⟨s1, a1, a2, a3⟩ := fill_spec (r := 20 + 1 + 0) (N := 5) (by decide +kernel) (by decide) 0 st
  obtain ⟨s2, b1, b2, b3⟩ := fill_spec (r := 20 + 1 + 1) (N := 5) (by decide +kernel) (by decide) 0 s1
  have e2 : ∀ k j, s2.1 k j = if (k = 21 ∨ k = 22) ∧ j < 5 then 0 else st.1 k j := fun k j => by
    rw [b3, a3]
    by_cases z1 : k = 20 + 1 + 1 ∧ j < 5
    · rw [if_pos z1, if_pos (by omega)]
    · rw [if_neg z1]
      by_cases z2 : k = 20 + 1 + 0 ∧ j < 5
      · rw [if_pos z2, if_pos (by omega)]
      · rw [if_neg z2, if_neg (by omega)]
  generalize hV2 : (if st.1 t 12 ≤ 0 then (-1 : Int32) else 0) = v2
  generalize hV3 : (if st.1 t 13 ≤ 0 then (-1 : Int32) else 0) = v3
  generalize hS3 : wi (wi (wi (wi (wi (wi (wi (wi s2 20 2 v2) 20 3 v3) 20 4 0) 20 5 0) 20 6 0) 20 7 0) 20 8 0) 20 9 (st.1 t 17) = s3
  have e3 : fX5_begin 20 t st = some s3 := by
    unfold fX5_begin fX5_begin_29 fX5_begin_45
    rw [a1, bd, b1, bd, show s2.1 t 12 = st.1 t 12 by rw [e2, if_neg (by omega)]]
    have w13 : ∀ v, (wi s2 20 2 v).1 t 13 = st.1 t 13 := fun v => by rw [wi_1, if_neg (by omega), e2, if_neg (by omega)]
    have w17 : ∀ v v', (wi (wi (wi (wi (wi (wi (wi s2 20 2 v) 20 3 v') 20 4 0) 20 5 0) 20 6 0) 20 7 0) 20 8 0).1 t 17 = st.1 t 17 := fun v v' => by rw [wi_1, if_neg (by omega), wi_1, if_neg (by omega), wi_1, if_neg (by omega), wi_1, if_neg (by omega), wi_1, if_neg (by omega), wi_1, if_neg (by omega), wi_1, if_neg (by omega), e2, if_neg (by omega)]
    simp only [w13, w17]
    rw [← hS3, ← hV2, ← hV3]
    by_cases z1 : st.1 t 12 ≤ 0
    · rw [if_pos z1, if_pos z1]
      by_cases z2 : st.1 t 13 ≤ 0
      · rw [if_pos z2, if_pos z2]
      · rw [if_neg z2, if_neg z2]
    · rw [if_neg z1, if_neg z1]
      by_cases z2 : st.1 t 13 ≤ 0
      · rw [if_pos z2, if_pos z2]
      · rw [if_neg z2, if_neg z2]
  have r3 : s3.2 = st.2 := by rw [← hS3]; show s2.2 = _; rw [b2, a2]
  have k3 : ∀ k j, s3.1 k j = if k = 20 ∧ 2 ≤ j ∧ j ≤ 9 then bgR st t j else if (k = 21 ∨ k = 22) ∧ j < 5 then 0 else st.1 k j := fun k j => by
    by_cases z : k = 20 ∧ 2 ≤ j ∧ j ≤ 9
    · rw [if_pos z]
      unfold bgR
      rw [hV2, hV3, ← hS3]
      obtain ⟨z1, z2, z3⟩ := z
      subst z1
      rcases (by omega : j = 2 ∨ j = 3 ∨ j = 4 ∨ j = 5 ∨ j = 6 ∨ j = 7 ∨ j = 8 ∨ j = 9) with z | z | z | z | z | z | z | z <;> subst z
      · rw [wi_n (by omega), wi_n (by omega), wi_n (by omega), wi_n (by omega), wi_n (by omega), wi_n (by omega), wi_n (by omega), wi_s, if_pos rfl]
      · rw [wi_n (by omega), wi_n (by omega), wi_n (by omega), wi_n (by omega), wi_n (by omega), wi_n (by omega), wi_s, if_neg (by decide), if_pos rfl]
      · rw [wi_n (by omega), wi_n (by omega), wi_n (by omega), wi_n (by omega), wi_n (by omega), wi_s, if_neg (by decide), if_neg (by decide), if_neg (by decide)]
      · rw [wi_n (by omega), wi_n (by omega), wi_n (by omega), wi_n (by omega), wi_s, if_neg (by decide), if_neg (by decide), if_neg (by decide)]
      · rw [wi_n (by omega), wi_n (by omega), wi_n (by omega), wi_s, if_neg (by decide), if_neg (by decide), if_neg (by decide)]
      · rw [wi_n (by omega), wi_n (by omega), wi_s, if_neg (by decide), if_neg (by decide), if_neg (by decide)]
      · rw [wi_n (by omega), wi_s, if_neg (by decide), if_neg (by decide), if_neg (by decide)]
      · rw [wi_s, if_neg (by decide), if_neg (by decide), if_pos rfl]
    · rw [if_neg z, ← e2, ← hS3, wi_n (by omega), wi_n (by omega), wi_n (by omega), wi_n (by omega), wi_n (by omega), wi_n (by omega), wi_n (by omega), wi_n (by omega)]
  have ek : (wi (wi s3 23 1 0) 23 2 0).2.2 24 (0 : Int32).toNatClampNeg = 25 + 3 * q := by
    show s3.2.2 24 0 = _
    rw [r3]
    exact hq
  obtain ⟨s4, g1, g2, g3⟩ := copy_spec (t := 25 + 3 * q) (r := 20) (st := wi (wi s3 23 1 0) 23 2 0) (by omega)
  have e4 : fX1_forget 20 s3 = some s4 := by
    unfold fX1_forget
    rw [gc_p (by decide), ek, gc_p (gk_kept q hq41), g1, bd]
  have k4 : ∀ k j, s4.1 k j = if k = 23 ∧ (j = 1 ∨ j = 2) then 0 else if (k = 20 ∨ k = 25 + 3 * q) ∧ 2 ≤ j ∧ j ≤ 9 then bgR st t j else if (k = 21 ∨ k = 22 ∨ k = 25 + 3 * q + 1 ∨ k = 25 + 3 * q + 2) ∧ j < 5 then 0 else st.1 k j := fun k j => by
    have h23 : ∀ a b, ¬ (a = 23 ∧ (b = 1 ∨ b = 2)) → (wi (wi s3 23 1 0) 23 2 0).1 a b = s3.1 a b := fun a b z => by rw [wi_n (by omega), wi_n (by omega)]
    rw [g3]
    by_cases z1 : k = 25 + 3 * q ∧ 2 ≤ j ∧ j ≤ 9
    · rw [if_pos z1, if_neg (by omega), if_pos (by omega), h23 20 j (by omega), k3, if_pos (by omega)]
    · rw [if_neg z1]
      by_cases z2 : k = 25 + 3 * q + 1 ∧ j < 5
      · rw [if_pos z2, if_neg (by omega), if_neg (by omega), if_pos (by omega), h23 _ j (by omega), k3, if_neg (by omega), if_pos (by omega)]
      · rw [if_neg z2]
        by_cases z3 : k = 25 + 3 * q + 2 ∧ j < 5
        · rw [if_pos z3, if_neg (by omega), if_neg (by omega), if_pos (by omega), h23 _ j (by omega), k3, if_neg (by omega), if_pos (by omega)]
        · rw [if_neg z3]
          by_cases z4 : k = 23 ∧ (j = 1 ∨ j = 2)
          · rw [if_pos z4]
            rcases z4.2 with z | z
            · rw [wi_n (by omega), z4.1, z, wi_s]
            · rw [z4.1, z, wi_s]
          · rw [if_neg z4, h23 k j z4, k3]
            by_cases z5 : k = 20 ∧ 2 ≤ j ∧ j ≤ 9
            · rw [if_pos z5, if_pos (by omega)]
            · rw [if_neg z5, if_neg (show ¬ ((k = 20 ∨ k = 25 + 3 * q) ∧ 2 ≤ j ∧ j ≤ 9) by omega)]
              by_cases z6 : (k = 21 ∨ k = 22) ∧ j < 5
              · rw [if_pos z6, if_pos (by omega)]
              · rw [if_neg z6, if_neg (by omega)]
  obtain ⟨m, hm⟩ : ∃ m, FU = m + 4 := ⟨69996, rfl⟩
  refine ⟨wi (wi (wi (wi (wi s4 150 7 0) 169 10 0) 149 0 0) 149 1 0) 149 2 0, ?_, ?_, fun k j => ?_⟩
  · unfold fX10_beginAnew fX9_clear fX2_forget
    rw [ht, gc_p hk8, e3, bd, e4, bd, bd, bd, hm]
    show fX10_beginAnew_38 (hX10_beginAnew_38 (m + 3)) 0 (wi (wi s4 150 7 0) 169 10 0) = _
    unfold fX10_beginAnew_38
    rw [if_neg (by decide), gc_p (by decide)]
    show fX10_beginAnew_38 (hX10_beginAnew_38 (m + 2)) 1 (wi (wi (wi s4 150 7 0) 169 10 0) 149 0 0) = _
    unfold fX10_beginAnew_38
    rw [if_neg (by decide), gc_p (by decide)]
    show fX10_beginAnew_38 (hX10_beginAnew_38 (m + 1)) 2 (wi (wi (wi (wi s4 150 7 0) 169 10 0) 149 0 0) 149 1 0) = _
    unfold fX10_beginAnew_38
    rw [if_neg (by decide), gc_p (by decide)]
    show fX10_beginAnew_38 (hX10_beginAnew_38 m) 3 (wi (wi (wi (wi (wi s4 150 7 0) 169 10 0) 149 0 0) 149 1 0) 149 2 0) = _
    unfold fX10_beginAnew_38
    rw [if_pos (by decide)]
  · show s4.2 = _
    rw [g2]
    exact r3
  · by_cases z1 : k = 149 ∧ j < 3
    · rw [if_pos z1]
      rcases (by omega : j = 0 ∨ j = 1 ∨ j = 2) with z | z | z
      · rw [wi_n (by omega), wi_n (by omega), z1.1, z, wi_s]
      · rw [wi_n (by omega), z1.1, z, wi_s]
      · rw [z1.1, z, wi_s]
    · rw [if_neg z1, wi_n (by omega), wi_n (by omega), wi_n (by omega)]
      by_cases z2 : k = 169 ∧ j = 10
      · rw [if_pos z2, z2.1, z2.2, wi_s]
      · rw [if_neg z2, wi_n z2]
        by_cases z3 : k = 150 ∧ j = 7
        · rw [if_pos z3, z3.1, z3.2, wi_s]
        · rw [if_neg z3, wi_n z3, k4]
/-! ===== who can do what, in the draft ===== -/
theorem able_x {x : gS} {t k T M s : Nat} {f : Nat → Nat} (eT : x.1 t 13 = nI T) (hk : k < T) (hT : T ≤ 5) (eM : x.1 t 14 = nI M) (hM : M ≤ 16) (es : x.1 (t + 1 + 3) k = nI s) (hs : s < 1024) (ef : ∀ m, m < M → x.1 (t + 1 + 8) m = nI (f m) ∧ f m < 10) (c : Bool) : fX8_ableIf t (nI k) (b2 c) x = some (nI (bS (fun m => !(s.testBit (if c then 9 - f m else f m))) M), x) := by
  unfold fX8_ableIf
  have iT : inR (nI k) (x.1 t 13) := by rw [eT]; exact ⟨nI_nn (by omega), fun q => by have := (nI_le' (by omega) (by omega)).mp q; omega⟩
  obtain ⟨s', m, e, hp⟩ := lp (fun n (s' : Int32 × Int32 × gS) => hX8_ableIf_5 t (nI k) (b2 c) n s'.1 s'.2.1 s'.2.2) M (fun i s' => s' = (nI (bS (fun m => !(s.testBit (if c then 9 - f m else f m))) i), nI i, x)) (by
    intro n i s' hi hs'
    subst hs'
    refine ⟨_, ?_, rfl⟩
    show fX8_ableIf_5 t _ _ (hX8_ableIf_5 t _ _ n) _ (nI i) x = _
    obtain ⟨ef1, ef2⟩ := ef i hi
    unfold fX8_ableIf_5 fX8_ableIf_38
    have g16 : gI (nI i) 16 := gI_nI (by omega) (by decide)
    have g5 : gI (nI k) 5 := gI_nI (by omega) (by decide)
    rw [(hasTri x t _).1 iT]
    simp only [bd, if_neg one0, gc_p g16, gc_p g5, nI_clamp (show i < 2 ^ 31 by omega), nI_clamp (show k < 2 ^ 31 by omega), ef1, es, nI_s, show (9 : Int32) - nI (f i) = nI (9 - f i) from pk_sub (a := 9) (by omega)]
    rw [eM, if_neg (nle hi (by omega)), b_bit (by omega) (by omega), b_bit (by omega) (by omega)]
    unfold gl
    cases c
    · rw [if_pos zero0']
      cases hq : s.testBit (f i)
      · rw [if_pos zero0', bS_s1 (p := fun m => !(s.testBit (if false then 9 - f m else f m))) (by simp [hq]) (by omega)]
      · rw [if_neg one0', ← bS_s0 (p := fun m => !(s.testBit (if false then 9 - f m else f m))) (by simp [hq])]
    · rw [if_neg one0']
      cases hq : s.testBit (9 - f i)
      · rw [if_pos zero0', bS_s1 (p := fun m => !(s.testBit (if true then 9 - f m else f m))) (by simp [hq]) (by omega)]
      · rw [if_neg one0', ← bS_s0 (p := fun m => !(s.testBit (if true then 9 - f m else f m))) (by simp [hq])]) 0 (0, 0, x) FU (by omega) rfl (FU_gt (by omega))
  subst hp
  refine e.trans ?_
  show fX8_ableIf_5 t _ _ _ _ _ x = _
  unfold fX8_ableIf_5
  rw [eM, if_pos (yle _)]
theorem see_x {x : gS} {t T M μ : Nat} {s f : Nat → Nat} (eT : x.1 t 13 = nI T) (hT : T ≤ 5) (eM : x.1 t 14 = nI M) (hM : M ≤ 16) (eμ : x.1 t 15 = nI μ) (hμ : μ < 2 ^ 31) (es : ∀ k, k < T → x.1 (t + 1 + 3) k = nI (s k) ∧ s k < 1024) (ef : ∀ m, m < M → x.1 (t + 1 + 8) m = nI (f m) ∧ f m < 10) :
    ∃ x', fX8_seeWhoCan t x = some x' ∧ x'.2 = x.2 ∧ ∀ k j, x'.1 k j = if k = t + 1 + 4 ∧ j < T then nI (bS (fun m => !((s j).testBit (if μ.testBit j then 9 - f m else f m))) M) else x.1 k j := by
  unfold fX8_seeWhoCan
  obtain ⟨s', m, e, hp⟩ := lp (fun n (s' : Int32 × gS) => hX8_seeWhoCan_2 t n s'.1 s'.2) T (fun i s' => s'.1 = nI i ∧ s'.2.2 = x.2 ∧ ∀ k j, s'.2.1 k j = if k = t + 1 + 4 ∧ j < i then nI (bS (fun m => !((s j).testBit (if μ.testBit j then 9 - f m else f m))) M) else x.1 k j) (by
    intro n i ⟨l1, st⟩ hi ⟨q1, q2, q3⟩
    dsimp only at q1 q2 q3
    subst q1
    have h0 : ∀ k j, k ≠ t + 1 + 4 → st.1 k j = x.1 k j := fun k j z => by rw [q3, if_neg (by omega)]
    have ab := able_x (x := st) (t := t) (k := i) (T := T) (M := M) (s := s i) (f := f) (by rw [h0 t 13 (by omega), eT]) hi hT (by rw [h0 t 14 (by omega), eM]) hM (by rw [h0 _ i (by omega)]; exact (es i hi).1) (es i hi).2 (fun m hm => by rw [h0 _ m (by omega)]; exact ef m hm)
    show ∃ s', fX8_seeWhoCan_2 t (hX8_seeWhoCan_2 t n) (nI i) st = _ ∧ _
    unfold fX8_seeWhoCan_2 fX8_seeWhoCan_33
    rw [h0 t 13 (by omega), eT, if_neg (nle hi (by omega)), h0 t 15 (by omega), eμ, b_bit hμ (by omega)]
    refine ⟨(nI (i + 1), wi st (t + 1 + 4) i (nI (bS (fun m => !((s i).testBit (if μ.testBit i then 9 - f m else f m))) M))), ?_, rfl, q2, fun k j => ?_⟩
    · cases hb : μ.testBit i
      · rw [if_pos zero0']
        have := ab false
        rw [show b2 false = 0 from rfl] at this
        rw [this, bd, gc_p (gI_nI (show i < 5 by omega) (by decide)), nI_clamp (show i < 2 ^ 31 by omega), nI_s]
      · rw [if_neg one0']
        have := ab true
        rw [show b2 true = 1 from rfl] at this
        rw [this, bd, gc_p (gI_nI (show i < 5 by omega) (by decide)), nI_clamp (show i < 2 ^ 31 by omega), nI_s]
    · dsimp only
      rw [wi_1]
      by_cases z : k = t + 1 + 4 ∧ j = i
      · rw [if_pos z, if_pos (by omega), z.2]
      · rw [if_neg z, q3]
        by_cases z2 : k = t + 1 + 4 ∧ j < i
        · rw [if_pos z2, if_pos (by omega)]
        · rw [if_neg z2, if_neg (by omega)]) 0 (0, x) FU (by omega) ⟨rfl, rfl, fun k j => by dsimp only; rw [if_neg (by omega)]⟩ (FU_gt (by omega))
  obtain ⟨l1, st⟩ := s'
  obtain ⟨p1, p2, p3⟩ := hp
  dsimp only at e p1 p2 p3
  subst p1
  refine ⟨st, e.trans ?_, p2, p3⟩
  show fX8_seeWhoCan_2 t (hX8_seeWhoCan_2 t m) (nI T) st = _
  unfold fX8_seeWhoCan_2
  rw [show st.1 t 13 = nI T by rw [p3, if_neg (by omega), eT], if_pos (yle _)]
