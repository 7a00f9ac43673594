/-! ===== rows: the class ===== -/
theorem fill_spec {r N : Nat} (hN : gN 0 r = N) (hN2 : N < 1000) (v : Int32) (st : gS) : ∃ st', fJ7_fill_53178 r v st = some st' ∧ st'.2 = st.2 ∧ ∀ k j, st'.1 k j = if k = r ∧ j < N then v else st.1 k j := by
  unfold fJ7_fill_53178 gl
  rw [hN]
  obtain ⟨s, _, e, hp⟩ := lp (fun n (s : Int32 × gS) => hJ7_fill_53178_5 r v n s.1 (nI N) s.2) N (fun i s => s.1 = nI i ∧ s.2.2 = st.2 ∧ ∀ k j, s.2.1 k j = if k = r ∧ j < i then v else st.1 k j) (by
    intro n i ⟨l2, s⟩ hi ⟨q1, q2, q3⟩
    dsimp only at q1 q2 q3
    subst q1
    show ∃ s', fJ7_fill_53178_5 r v (hJ7_fill_53178_5 r v n) (nI i) (nI N) s = _ ∧ _
    unfold fJ7_fill_53178_5
    rw [if_neg (nle hi (by omega)), hN, gc_p (gI_nI hi (by omega)), nI_clamp (by omega), nI_s]
    refine ⟨(_, _), rfl, rfl, q2, fun k j => ?_⟩
    show (wi s r i v).1 k j = _
    rw [wi_1]
    by_cases z : k = r ∧ j = i
    · rw [if_pos z, if_pos ⟨z.1, by omega⟩]
    · rw [if_neg z, q3]
      by_cases z2 : k = r ∧ j < i
      · rw [if_pos z2, if_pos ⟨z2.1, by omega⟩]
      · rw [if_neg z2, if_neg (by omega)]) 0 (0, st) FU (by omega) ⟨rfl, rfl, fun k j => by rw [if_neg (by omega)]⟩ (FU_gt (by omega))
  obtain ⟨l2, s⟩ := s
  obtain ⟨q1, q2, q3⟩ := hp
  dsimp only at q1 q2 q3
  subst q1
  refine ⟨s, e.trans ?_, q2, q3⟩
  show fJ7_fill_53178_5 r v _ (nI N) (nI N) s = _
  unfold fJ7_fill_53178_5
  rw [if_pos (yle _)]
theorem and1 (v : Int32) : v &&& 1 = b2 (v.toBitVec.getLsbD 0) := by
  rw [pk_and v (m := 1) 1 (by decide), Nat.pow_one]
  have : v.toBitVec.getLsbD 0 = decide (v.toBitVec.toNat % 2 = 1) := by
    rw [BitVec.getLsbD, Nat.testBit_zero]
  rw [this]
  have h3 : v.toBitVec.toNat % 2 < 2 := Nat.mod_lt _ (by decide)
  generalize v.toBitVec.toNat % 2 = r at h3 ⊢
  match r, h3 with
  | 0, _ => rfl
  | 1, _ => rfl
  | r + 2, h => omega
theorem sb (v : Int32) {o : Nat} (h : o < 31) : (v >>> (nI o &&& 31)) &&& 1 = b2 (v.toBitVec.getLsbD o) := by
  rw [b_31 (by omega), and1]
  congr 1
  have : (v >>> nI o).toBitVec = v.toBitVec.sshiftRight ((nI o).toBitVec.smod 32).toNat := rfl
  rw [this, b_sm (by omega), BitVec.getLsbD_sshiftRight]
  simp [show o < 32 by omega]
theorem lsb_and (a b : Int32) (o : Nat) : (a &&& b).toBitVec.getLsbD o = (a.toBitVec.getLsbD o && b.toBitVec.getLsbD o) := by
  rw [Int32.toBitVec_and, BitVec.getLsbD_and]
theorem lsb_1 {w o : Nat} (hw : w < 31) (ho : o < 31) : (1 <<< (nI w &&& 31) : Int32).toBitVec.getLsbD o = decide (w = o) := by
  rw [b_1 hw, nI_bv, BitVec.getLsbD_ofNat, Nat.testBit_two_pow]
  simp [show o < 32 by omega]
theorem lsb_n1 (o : Nat) (h : o < 31) : (-1 : Int32).toBitVec.getLsbD o = true := by
  show (BitVec.allOnes 32).getLsbD o = true
  rw [BitVec.getLsbD_allOnes]; simp; omega
theorem lsb_not (a : Int32) {o : Nat} (h : o < 31) : (a ^^^ (-1)).toBitVec.getLsbD o = !a.toBitVec.getLsbD o := by
  rw [Int32.toBitVec_xor, BitVec.getLsbD_xor, lsb_n1 o h, Bool.xor_true]
def GB (y : gS) (K : Int32) (i : Nat) (st : gS) : Prop := ∀ n o, n < 7 → o < 31 → (st.1 176 n).toBitVec.getLsbD o = alN y K 0 n o i ∧ (st.1 177 n).toBitVec.getLsbD o = alN y K 1 n o i
theorem Xcounts {x y st : gS} (h : Inv x y) (hf : FX x st) (K : Int32) {i : Nat} (hi : i < vN (y.1 0 73)) : fX2_counts (nI i) K st = some (b2 (cts y K i), st) := by
  obtain ⟨p1, p2, p3, p4, p5⟩ := h.past
  have hl := p1.2
  obtain ⟨q1, q2, q3, q4, q5, q6, q7, q8, q9, q10, q11, q12, q13⟩ := p5 i hi
  have a1 : st.1 174 i = y.1 40 i := (hf.2 174 i (by unfold scrX; omega)).trans q12
  have a2 : st.1 175 i = y.1 41 i := (hf.2 175 i (by unfold scrX; omega)).trans q13
  unfold fX2_counts cts
  have g30 : gI (nI i) 30 := gI_nI (by omega) (by decide)
  simp only [gc_p g30, nI_clamp (show i < 2 ^ 31 by omega), a1, a2]
  by_cases z3 : K < y.1 40 i
  · rw [if_pos z3]; simp [z3, b2]
  · rw [if_neg z3]
    rcases q7 with w | w
    · rw [w, if_pos rfl]
      rw [show decide ((-1 : Int32) < 0) = true from by decide, decide_eq_true z3]; rfl
    · have w1 := w.1
      have w2 := w.2
      have n0 : ¬ y.1 41 i < 0 := by rw [w1]; exact nI_nn (by omega)
      rw [if_neg (by rw [w1]; exact nI_m1 (by omega)), decide_eq_true z3, decide_eq_false n0]
      by_cases z5 : K < y.1 41 i
      · rw [if_neg (by rw [Int32.lt_iff_toInt_lt] at z5; rw [Int32.le_iff_toInt_le]; omega), decide_eq_true z5]; rfl
      · rw [if_pos (by rw [Int32.lt_iff_toInt_lt] at z5; rw [Int32.le_iff_toInt_le]; omega), decide_eq_false z5]; rfl
theorem Xgather {x y : gS} (h : Inv x y) (K : Int32) : ∃ x', fX2_gather K x = some x' ∧ FX x x' ∧ GB y K (vN (y.1 0 73)) x' := by
  obtain ⟨p1, p2, p3, p4, p5⟩ := h.past
  have hl := p1.2
  have hF := nF9 h.wf
  unfold fX2_gather
  obtain ⟨s1, f1, f2, f3⟩ := fill_spec gn0_176 (by decide) (-1) x
  obtain ⟨s2, g1, g2, g3⟩ := fill_spec gn0_177 (by decide) (-1) s1
  rw [f1, bd, g1, bd]
  have fx : FX x s2 := ⟨by rw [g2, f2], fun k j hk => by rw [g3, if_neg (by unfold scrX at hk; omega), f3, if_neg (by unfold scrX at hk; omega)]⟩
  have gb0 : GB y K 0 s2 := fun n o hn ho => by
    rw [g3, if_neg (by omega), f3, if_pos ⟨rfl, hn⟩, g3, if_pos ⟨rfl, hn⟩, lsb_n1 o ho]
    exact ⟨rfl, rfl⟩
  obtain ⟨s, _, e, hp⟩ := lp (fun n (s : Int32 × gS) => hX2_gather_18 K n s.1 s.2) (vN (y.1 0 73)) (fun i s => s.1 = nI i ∧ FX x s.2 ∧ GB y K i s.2) (by
    intro n i ⟨l2, st⟩ hi ⟨q1, q2, q3⟩
    dsimp only at q1 q2 q3
    subst q1
    obtain ⟨b1, b2', b3, b4, b5, b6, b7, b8, b9, b10, b11, b12, b13⟩ := p5 i hi
    have c10 : st.1 169 10 = nI (vN (y.1 0 73)) := ((q2.2 169 10 (by unfold scrX; omega)).trans p3).trans p1.1
    have c170 : st.1 170 i = y.1 37 i := (q2.2 170 i (by unfold scrX; omega)).trans b8
    have c171 : st.1 171 i = y.1 42 i := (q2.2 171 i (by unfold scrX; omega)).trans b9
    have c172 : st.1 172 i = y.1 38 i := (q2.2 172 i (by unfold scrX; omega)).trans b10
    have c173 : st.1 173 i = y.1 39 i := (q2.2 173 i (by unfold scrX; omega)).trans b11
    have hw : ∃ w, w < 31 ∧ y.1 39 i = nI w := by
      rcases b1 with z | z
      · have := b4 z; exact ⟨_, by have := this.2; omega, this.1⟩
      · have := (b5 z).1; exact ⟨_, by have := this.2; omega, this.1⟩
    obtain ⟨w, hw31, ew⟩ := hw
    obtain ⟨a, ha7, ea⟩ : ∃ a, a < 7 ∧ y.1 38 i = nI a := ⟨_, b3.2, b3.1⟩
    have g30 : gI (nI i) 30 := gI_nI (by omega) (by decide)
    have g7 : gI (nI a) 7 := gI_nI ha7 (by decide)
    -- one more sighting
    have nxt : ∀ s n o, n < 7 → o < 31 → alN y K s n o (i + 1) = (alN y K s n o i && (!(decide (y.1 37 i = nI s) && decide (a = n) && cts y K i) || (decide (w = o) == decide (y.1 42 i = 1)))) := fun s n o hn ho => by
      rw [alN, ea, ew]
      have e1 : decide (nI a = nI n) = decide (a = n) := by rw [decide_eq_decide, nI_inj (by omega) (by omega)]
      have e2 : decide (nI w = nI o) = decide (w = o) := by rw [decide_eq_decide, nI_inj (by omega) (by omega)]
      rw [e1, e2]
    have hnum : fX2_hasNumber (nI a) st = some (1, st) := by
      unfold fX2_hasNumber
      rw [if_neg (nI_nn (by omega)), if_neg (fun q => by have := (nI_lt' (a := 6) (by decide) (by omega)).mp q; omega)]
    have key : ∀ v : Int32, (∀ o, o < 31 → v.toBitVec.getLsbD o = (decide (w = o) == decide (y.1 42 i = 1))) → ∃ s', fX2_gather_62 K (hX2_gather_18 K n) (nI i) v st = hX2_gather_18 K n (nI (i + 1)) s' ∧ FX x s' ∧ GB y K (i + 1) s' := by
      intro v hv
      unfold fX2_gather_62
      rw [Xcounts h q2 K hi, bd]
      dsimp only
      rw [gc_p g30, nI_clamp (by omega), c172, ea, hnum, bd]
      dsimp only
      rw [if_neg one0, gc_p g30, c170, c172, ea, gc_p g30, gc_p g7, gc_p g7, gc_p g30, gc_p g7, gc_p g7, nI_clamp (show a < 2 ^ 31 by omega), nI_s]
      cases hc : cts y K i
      · rw [if_pos zero0']
        refine ⟨st, rfl, q2, fun n o hn ho => ?_⟩
        rw [nxt 0 n o hn ho, nxt 1 n o hn ho, hc]
        have := q3 n o hn ho
        simpa using this
      · rw [if_neg one0']
        rcases b1 with z | z
        · rw [if_pos z]
          refine ⟨_, rfl, q2.tr (FX_wi (by unfold scrX; omega)), fun n o hn ho => ?_⟩
          rw [nxt 0 n o hn ho, nxt 1 n o hn ho, hc, z, wi_1, wi_ne (by decide)]
          have := q3 n o hn ho
          have h1 : decide ((0 : Int32) = nI 1) = false := by decide
          have h0 : decide ((0 : Int32) = nI 0) = true := by decide
          rw [h1, h0]
          refine ⟨?_, by simpa using this.2⟩
          by_cases zn : n = a
          · rw [if_pos ⟨rfl, zn⟩, lsb_and, hv o ho, ← zn, this.1]; simp
          · rw [if_neg (fun q => zn q.2), this.1]
            have : ¬ a = n := fun q => zn q.symm
            simp [this]
        · rw [if_neg (by rw [z]; exact one0)]
          refine ⟨_, rfl, q2.tr (FX_wi (by unfold scrX; omega)), fun n o hn ho => ?_⟩
          rw [nxt 0 n o hn ho, nxt 1 n o hn ho, hc, z, wi_ne (by decide), wi_1]
          have := q3 n o hn ho
          have h1 : decide ((1 : Int32) = nI 1) = true := by decide
          have h0 : decide ((1 : Int32) = nI 0) = false := by decide
          rw [h1, h0]
          refine ⟨by simpa using this.1, ?_⟩
          by_cases zn : n = a
          · rw [if_pos ⟨rfl, zn⟩, lsb_and, hv o ho, ← zn, this.2]; simp
          · rw [if_neg (fun q => zn q.2), this.2]
            have : ¬ a = n := fun q => zn q.symm
            simp [this]
    show ∃ s', fX2_gather_18 K (hX2_gather_18 K n) (nI i) st = _ ∧ _
    unfold fX2_gather_18
    rw [c10, if_neg (nle hi (by omega)), if_neg (show ¬ 30 ≤ nI i from nI_ge (b := 30) (by omega) (by omega)), gc_p g30, gc_p g30, gc_p g30, nI_clamp (by omega), c171, c173, ew]
    rcases b2' with z | z
    · rw [z, if_pos rfl]
      obtain ⟨s', k1, k2, k3⟩ := key _ (fun o ho => by rw [lsb_not _ ho, lsb_1 hw31 ho, z]; cases decide (w = o) <;> rfl)
      exact ⟨(_, _), k1, rfl, k2, k3⟩
    · rw [z, if_neg one0]
      obtain ⟨s', k1, k2, k3⟩ := key _ (fun o ho => by rw [lsb_1 hw31 ho, z]; cases decide (w = o) <;> rfl)
      exact ⟨(_, _), k1, rfl, k2, k3⟩) 0 (0, s2) FU (by omega) ⟨rfl, fx, gb0⟩ (FU_gt (by omega))
  obtain ⟨l2, st⟩ := s
  obtain ⟨q1, q2, q3⟩ := hp
  dsimp only at q1 q2 q3
  subst q1
  refine ⟨st, e.trans ?_, q2, q3⟩
  show fX2_gather_18 K _ _ st = _
  unfold fX2_gather_18
  have c10 : st.1 169 10 = nI (vN (y.1 0 73)) := ((q2.2 169 10 (by unfold scrX; omega)).trans p3).trans p1.1
  rw [c10, if_pos (yle _)]
abbrev GBf (y : gS) (K : Int32) (st : gS) : Prop := GB y K (vN (y.1 0 73)) st
theorem GB_of {y s s' : gS} {K : Int32} {i : Nat} (h : GB y K i s) (h1 : ∀ j, s'.1 176 j = s.1 176 j) (h2 : ∀ j, s'.1 177 j = s.1 177 j) : GB y K i s' := fun n o hn ho => by
  rw [h1, h2]; exact h n o hn ho
theorem Xfits {x y st : gS} (h : Inv x y) (hf : FX x st) {K : Int32} (hg : GBf y K st) {n m : Nat} (hn : n < 7) (hm : m < nM y) : fX2_fits (x.2.2 0 9) (nI n) (nI m) st = some (b2 (fit y K n m), st) := by
  have hw := h.wf
  have hM := nM17 hw
  have hF := nF9 hw
  have hxs := (hf.inv h).xt
  rw [show st.2.2 0 9 = x.2.2 0 9 by rw [hf.1]] at hxs
  have f1 := fg_lt hw hm
  have f2 := tO_lt hw hm
  unfold fX2_fits
  rw [gc_p (gI_nI hn (by decide)), gc_p (gI_nI (by omega) (by decide)), gc_p (gI_nI hn (by decide)), gc_p (gI_nI (by omega) (by decide)), nI_clamp (by omega), nI_clamp (by omega), xfg_e hw hxs hm, xtO_e hw hxs hm, sb _ (by omega), sb _ (by omega), (hg n (fg y m) hn (by omega)).2, (hg n (tO y m) hn (by omega)).1]
  unfold fit
  show (if b2 (al y K 1 n (fg y m)) = 0 then _ else if b2 (al y K 0 n (tO y m)) = 0 then _ else _) = _
  cases al y K 1 n (fg y m)
  · rw [if_pos zero0']; rfl
  · rw [if_neg one0']
    cases al y K 0 n (tO y m)
    · rw [if_pos zero0']; rfl
    · rw [if_neg one0']; rfl
theorem gnrow {n : Nat} (hn : n < 7) : gN 0 (178 + 1 + n) = 8 ∧ gN 0 (186 + 1 + n) = 8 := by
  match n, hn with
  | 0, _ => exact ⟨gn0_179, gn0_187⟩
  | 1, _ => exact ⟨gn0_180, gn0_188⟩
  | 2, _ => exact ⟨gn0_181, gn0_189⟩
  | 3, _ => exact ⟨gn0_182, gn0_190⟩
  | 4, _ => exact ⟨gn0_183, gn0_191⟩
  | 5, _ => exact ⟨gn0_184, gn0_192⟩
  | 6, _ => exact ⟨gn0_185, gn0_193⟩
  | n + 7, h => exact absurd h (by omega)
theorem XwalkOn {x y st : gS} (h : Inv x y) (hf : FX x st) {K : Int32} (hg : GBf y K st) : ∃ x', fX2_walkOn (x.2.2 0 9) st = some x' ∧ FX x x' ∧ GBf y K x' ∧ ∀ n f, n < 7 → f < 8 → x'.1 (178 + 1 + n) f = nI (cme y K n f) := by
  have hw := h.wf
  have hM := nM17 hw
  have hF := nF9 hw
  have hxt : ∀ s, FX x s → XT s (x.2.2 0 9) y := fun s hs => by
    have := (hs.inv h).xt
    rwa [show s.2.2 0 9 = x.2.2 0 9 by rw [hs.1]] at this
  unfold fX2_walkOn
  rw [gc_p (by decide), show (0 : Int32).toNatClampNeg = 0 from rfl]
  obtain ⟨s1, f1, f2, f3⟩ := fill_spec (gnrow (n := 0) (by decide)).1 (by decide) 0 st
  rw [f1, bd]
  have fx1 : FX x s1 := hf.tr ⟨by rw [f2], fun k j hk => by rw [f3, if_neg (by unfold scrX at hk; omega)]⟩
  have g1 : GBf y K s1 := GB_of hg (fun j => by rw [f3, if_neg (by omega)]) (fun j => by rw [f3, if_neg (by omega)])
  rw [xF hw (hxt s1 fx1)]
  -- the loops
  have key : ∀ s2, FX x s2 → GBf y K s2 → (∀ f, f < 8 → s2.1 (178 + 1 + 0) f = nI (cme y K 0 f)) → ∃ x', hX2_walkOn_35 (x.2.2 0 9) FU 1 s2 = some x' ∧ FX x x' ∧ GBf y K x' ∧ ∀ n f, n < 7 → f < 8 → x'.1 (178 + 1 + n) f = nI (cme y K n f) := by
    intro s2 fx2 gb2 c0
    obtain ⟨s, _, e, hp⟩ := lp (fun k (s : Int32 × gS) => hX2_walkOn_35 (x.2.2 0 9) k s.1 s.2) 6 (fun i s => s.1 = nI (i + 1) ∧ FX x s.2 ∧ GBf y K s.2 ∧ ∀ n f, n ≤ i → f < 8 → s.2.1 (178 + 1 + n) f = nI (cme y K n f)) (by
      intro k i ⟨l2, st⟩ hi ⟨q1, q2, q3, q4⟩
      dsimp only at q1 q2 q3 q4
      subst q1
      show ∃ s', fX2_walkOn_35 (x.2.2 0 9) (hX2_walkOn_35 (x.2.2 0 9) k) (nI (i + 1)) st = _ ∧ _
      unfold fX2_walkOn_35
      rw [if_neg (show ¬ 6 < nI (i + 1) from fun q => by have := (nI_lt' (a := 6) (by decide) (by omega)).mp q; omega), gc_p (gI_nI (by omega) (by decide)), nI_clamp (by omega)]
      obtain ⟨s1, f1, f2, f3⟩ := fill_spec (gnrow (n := i + 1) (by omega)).1 (by decide) 0 st
      rw [f1, bd]
      obtain ⟨s, _, e, hp⟩ := lp (fun k2 (s : Int32 × gS) => hX2_walkOn_53 (x.2.2 0 9) (hX2_walkOn_35 (x.2.2 0 9) k) k2 (nI (i + 1)) s.1 s.2) (nM y) (fun m s => s.1 = nI m ∧ FX x s.2 ∧ GBf y K s.2 ∧ (∀ n f, n ≤ i → f < 8 → s.2.1 (178 + 1 + n) f = nI (cme y K n f)) ∧ ∀ f, f < 8 → s.2.1 (178 + 1 + (i + 1)) f = nI (sM (fun m => fit y K (i + 1) m && decide (tO y m = f)) (fun m => cme y K i (fr y m)) m)) (by
        intro k2 m ⟨l3, st⟩ hm ⟨q1, q2, q3, q4, q5⟩
        dsimp only at q1 q2 q3 q4 q5
        subst q1
        have hxs := hxt st q2
        have e1 := fr_lt hw hm
        have e2 := tO_lt hw hm
        show ∃ s', fX2_walkOn_53 (x.2.2 0 9) (hX2_walkOn_35 (x.2.2 0 9) k) (hX2_walkOn_53 (x.2.2 0 9) (hX2_walkOn_35 (x.2.2 0 9) k) k2) (nI (i + 1)) (nI m) st = _ ∧ _
        unfold fX2_walkOn_53
        rw [xM hw hxs, if_neg (nle hm (by omega)), Xfits h q2 q3 (by omega) hm, bd]
        dsimp only
        rw [nI_clamp (show m < 2 ^ 31 by omega), xtO_e hw hxs hm, xfr_e hw hxs hm, show nI (i + 1) - 1 = nI i from pk_sub (b := 1) (by omega)]
        have gA : gI (nI (i + 1)) 7 := gI_nI (by omega) (by decide)
        have gB' : gI (nI m) 16 := gI_nI (by omega) (by decide)
        have gC : gI (nI (tO y m)) 8 := gI_nI (by omega) (by decide)
        have gD : gI (nI i) 7 := gI_nI (by omega) (by decide)
        have gE : gI (nI (fr y m)) 8 := gI_nI (by omega) (by decide)
        rw [gc_p gA, gc_p gB', gc_p gC, gc_p gD, gc_p gB', gc_p gE, gc_p gC, nI_clamp (show i + 1 < 2 ^ 31 by omega), nI_clamp (show i < 2 ^ 31 by omega), nI_clamp (show tO y m < 2 ^ 31 by omega), nI_clamp (show fr y m < 2 ^ 31 by omega), q5 (tO y m) (by omega), q4 i (fr y m) (Nat.le_refl _) (by omega), nI_ad, nI_s]
        cases hc : fit y K (i + 1) m
        · rw [if_pos zero0']
          exact ⟨(_, _), rfl, rfl, q2, q3, q4, fun f hf => by rw [sM, hc]; exact q5 f hf⟩
        · rw [if_neg one0']
          refine ⟨(_, _), rfl, rfl, q2.tr (FX_wi (by unfold scrX; omega)), GB_of q3 (fun j => wi_ne (by omega)) (fun j => wi_ne (by omega)), fun n f hn hf => ?_, fun f hf => ?_⟩
          · show (wi st _ _ _).1 _ f = _
            rw [wi_ne (by omega)]; exact q4 n f hn hf
          · show (wi st (178 + 1 + (i + 1)) (tO y m) _).1 (178 + 1 + (i + 1)) f = _
            rw [wi_1, sM, hc]
            by_cases z : f = tO y m
            · rw [if_pos ⟨rfl, z⟩, z, if_pos (by simp)]
            · have z2 : ¬ tO y m = f := fun q => z q.symm
              rw [if_neg (fun q => z q.2), q5 f hf, if_neg (by simp [z2])]; rfl) 0 (0, s1) FU (by omega) ⟨rfl, q2.tr ⟨by rw [f2], fun k j hk => by rw [f3, if_neg (by unfold scrX at hk; omega)]⟩, GB_of q3 (fun j => by rw [f3, if_neg (by omega)]) (fun j => by rw [f3, if_neg (by omega)]), fun n f hn hf => by
            show s1.1 _ _ = _
            rw [f3, if_neg (by omega)]; exact q4 n f hn hf, fun f hf => by
            show s1.1 _ _ = _
            rw [f3, if_pos ⟨rfl, hf⟩]; rfl⟩ (FU_gt (by omega))
      obtain ⟨l3, s2⟩ := s
      obtain ⟨p1, p2, p3, p4, p5⟩ := hp
      dsimp only at p1 p2 p3 p4 p5
      subst p1
      refine ⟨(nI (i + 1 + 1), s2), e.trans ?_, rfl, p2, p3, fun n f hn hf => ?_⟩
      · show fX2_walkOn_53 (x.2.2 0 9) (hX2_walkOn_35 (x.2.2 0 9) k) _ (nI (i + 1)) _ s2 = _
        unfold fX2_walkOn_53
        rw [xM hw (hxt s2 p2), if_pos (yle _), nI_s]
      · show s2.1 _ _ = _
        by_cases z : n ≤ i
        · exact p4 n f z hf
        · rw [show n = i + 1 by omega, p5 f hf, cmeS]) 0 (1, s2) FU (by omega) ⟨rfl, fx2, gb2, fun n f hn hf => by rw [show n = 0 by omega]; exact c0 f hf⟩ (FU_gt (by omega))
    obtain ⟨l2, s3⟩ := s
    obtain ⟨p1, p2, p3, p4⟩ := hp
    dsimp only at p1 p2 p3 p4
    subst p1
    refine ⟨s3, e.trans ?_, p2, p3, fun n f hn hf => p4 n f (by omega) hf⟩
    show fX2_walkOn_35 (x.2.2 0 9) _ (nI 7) s3 = _
    unfold fX2_walkOn_35
    rw [if_pos (show (6 : Int32) < nI 7 by decide)]
  by_cases zF : nF y = 0
  · rw [if_pos (by rw [zF]; decide)]
    exact key s1 fx1 g1 (fun f hf => by rw [f3, if_pos ⟨rfl, hf⟩, cme0, if_neg (by omega)]; rfl)
  · rw [if_neg (fun q => by have := (nI_le' (b := 0) (by omega) (by decide)).mp q; omega), gc_p (by decide), gc_p (by decide), and1, (g1 0 0 (by decide) (by decide)).1]
    refine key _ (fx1.tr (FX_wi (by unfold scrX; omega))) (GB_of g1 (fun j => wi_ne (by decide)) (fun j => wi_ne (by decide))) (fun f hf => ?_)
    rw [wi_1, cme0]
    by_cases z : f = 0
    · rw [if_pos ⟨rfl, z⟩, b2_nI]
      show nI (if al y K 0 0 0 = true then 1 else 0) = _
      by_cases z2 : al y K 0 0 0 = true
      · rw [if_pos z2, if_pos ⟨by omega, z, z2⟩]
      · rw [if_neg z2, if_neg (fun q => z2 q.2.2)]
    · rw [if_neg (fun q => z q.2), f3, if_pos ⟨rfl, hf⟩, if_neg (fun q => z q.2.1)]; rfl
theorem XwalkBack {x y st : gS} (h : Inv x y) (hf : FX x st) {K : Int32} (hg : GBf y K st) : ∃ x', fX2_walkBack (x.2.2 0 9) st = some x' ∧ FX x x' ∧ (∀ k j, k < 187 → x'.1 k j = st.1 k j) ∧ ∀ n f, n < 7 → f < 8 → x'.1 (186 + 1 + n) f = nI (goD y K (6 - n) f) := by
  have hw := h.wf
  have hM := nM17 hw
  have hF := nF9 hw
  have hxt : ∀ s, FX x s → XT s (x.2.2 0 9) y := fun s hs => by
    have := (hs.inv h).xt
    rwa [show s.2.2 0 9 = x.2.2 0 9 by rw [hs.1]] at this
  unfold fX2_walkBack
  rw [gc_p (by decide), show (6 : Int32).toNatClampNeg = 6 from rfl]
  obtain ⟨s1, f1, f2, f3⟩ := fill_spec (gnrow (n := 6) (by decide)).2 (by decide) 1 st
  rw [f1, bd]
  obtain ⟨s, _, e, hp⟩ := lp (fun k (s : Int32 × gS) => hX2_walkBack_14 (x.2.2 0 9) k s.1 s.2) 6 (fun d s => s.1 = nI (6 - d) ∧ FX x s.2 ∧ (∀ k j, k < 187 → s.2.1 k j = st.1 k j) ∧ ∀ n f, 6 - d ≤ n → n < 7 → f < 8 → s.2.1 (186 + 1 + n) f = nI (goD y K (6 - n) f)) (by
    intro k d ⟨l2, st2⟩ hd ⟨q1, q2, q3, q4⟩
    dsimp only at q1 q2 q3 q4
    subst q1
    show ∃ s', fX2_walkBack_14 (x.2.2 0 9) (hX2_walkBack_14 (x.2.2 0 9) k) (nI (6 - d)) st2 = _ ∧ _
    unfold fX2_walkBack_14
    have e5 : nI (6 - d) - 1 = nI (5 - d) := by
      have := pk_sub (a := 6 - d) (b := 1) (by omega)
      rw [show 6 - d - 1 = 5 - d by omega] at this
      exact this
    rw [if_neg (show ¬ nI (6 - d) < 1 from fun q => by have := (nI_lt' (b := 1) (by omega) (by decide)).mp q; omega), e5, gc_p (gI_nI (by omega) (by decide)), nI_clamp (by omega)]
    obtain ⟨s1, f1, f2, f3⟩ := fill_spec (gnrow (n := 5 - d) (by omega)).2 (by decide) 0 st2
    rw [f1, bd]
    obtain ⟨s, _, e, hp⟩ := lp (fun k2 (s : Int32 × gS) => hX2_walkBack_33 (x.2.2 0 9) (hX2_walkBack_14 (x.2.2 0 9) k) k2 (nI (6 - d)) s.1 s.2) (nM y) (fun m s => s.1 = nI m ∧ FX x s.2 ∧ (∀ k j, k < 187 → s.2.1 k j = st.1 k j) ∧ (∀ n f, 6 - d ≤ n → n < 7 → f < 8 → s.2.1 (186 + 1 + n) f = nI (goD y K (6 - n) f)) ∧ ∀ f, f < 8 → s.2.1 (186 + 1 + (5 - d)) f = nI (sM (fun m => fit y K (6 - d) m && decide (fr y m = f)) (fun m => goD y K d (tO y m)) m)) (by
      intro k2 m ⟨l3, st2⟩ hm ⟨q1, q2, q3, q4, q5⟩
      dsimp only at q1 q2 q3 q4 q5
      subst q1
      have hxs := hxt st2 q2
      have e1 := fr_lt hw hm
      have e2 := tO_lt hw hm
      have hg2 : GBf y K st2 := GB_of hg (fun j => q3 176 j (by decide)) (fun j => q3 177 j (by decide))
      show ∃ s', fX2_walkBack_33 (x.2.2 0 9) (hX2_walkBack_14 (x.2.2 0 9) k) (hX2_walkBack_33 (x.2.2 0 9) (hX2_walkBack_14 (x.2.2 0 9) k) k2) (nI (6 - d)) (nI m) st2 = _ ∧ _
      unfold fX2_walkBack_33
      rw [xM hw hxs, if_neg (nle hm (by omega)), Xfits h q2 hg2 (by omega) hm, bd]
      dsimp only
      rw [nI_clamp (show m < 2 ^ 31 by omega), xtO_e hw hxs hm, xfr_e hw hxs hm, e5]
      have gA : gI (nI (6 - d)) 7 := gI_nI (by omega) (by decide)
      have gB' : gI (nI m) 16 := gI_nI (by omega) (by decide)
      have gC : gI (nI (tO y m)) 8 := gI_nI (by omega) (by decide)
      have gD : gI (nI (5 - d)) 7 := gI_nI (by omega) (by decide)
      have gE : gI (nI (fr y m)) 8 := gI_nI (by omega) (by decide)
      have q6 := q4 (6 - d) (tO y m) (Nat.le_refl _) (by omega) (by omega)
      rw [show 6 - (6 - d) = d by omega] at q6
      rw [gc_p gD, gc_p gB', gc_p gE, gc_p gA, gc_p gB', gc_p gC, gc_p gE, nI_clamp (show 5 - d < 2 ^ 31 by omega), nI_clamp (show 6 - d < 2 ^ 31 by omega), nI_clamp (show tO y m < 2 ^ 31 by omega), nI_clamp (show fr y m < 2 ^ 31 by omega), q5 (fr y m) (by omega), q6, nI_ad, nI_s]
      cases hc : fit y K (6 - d) m
      · rw [if_pos zero0']
        exact ⟨(_, _), rfl, rfl, q2, q3, q4, fun f hf => by rw [sM, hc]; exact q5 f hf⟩
      · rw [if_neg one0']
        refine ⟨(_, _), rfl, rfl, q2.tr (FX_wi (by unfold scrX; omega)), fun k j hk => ?_, fun n f hn hn2 hf => ?_, fun f hf => ?_⟩
        · show (wi st2 _ _ _).1 k j = _
          rw [wi_ne (by omega)]; exact q3 k j hk
        · show (wi st2 _ _ _).1 _ f = _
          rw [wi_ne (by omega)]; exact q4 n f hn hn2 hf
        · show (wi st2 (186 + 1 + (5 - d)) (fr y m) _).1 (186 + 1 + (5 - d)) f = _
          rw [wi_1, sM, hc]
          by_cases z : f = fr y m
          · rw [if_pos ⟨rfl, z⟩, z, if_pos (by simp)]
          · have z2 : ¬ fr y m = f := fun q => z q.symm
            rw [if_neg (fun q => z q.2), q5 f hf, if_neg (by simp [z2]), Nat.add_zero]) 0 (0, s1) FU (by omega) ⟨rfl, q2.tr ⟨by rw [f2], fun k j hk => by rw [f3, if_neg (by unfold scrX at hk; omega)]⟩, fun k j hk => by
          show s1.1 k j = _
          rw [f3, if_neg (by omega)]; exact q3 k j hk, fun n f hn hn2 hf => by
          show s1.1 _ _ = _
          rw [f3, if_neg (by omega)]; exact q4 n f hn hn2 hf, fun f hf => by
          show s1.1 _ _ = _
          rw [f3, if_pos ⟨rfl, hf⟩]; rfl⟩ (FU_gt (by omega))
    obtain ⟨l3, s2⟩ := s
    obtain ⟨p1, p2, p3, p4, p5⟩ := hp
    dsimp only at p1 p2 p3 p4 p5
    subst p1
    refine ⟨(nI (6 - (d + 1)), s2), e.trans ?_, rfl, p2, p3, fun n f hn hn2 hf => ?_⟩
    · show fX2_walkBack_33 (x.2.2 0 9) (hX2_walkBack_14 (x.2.2 0 9) k) _ (nI (6 - d)) _ s2 = _
      unfold fX2_walkBack_33
      rw [xM hw (hxt s2 p2), if_pos (yle _), show 6 - d = (6 - (d + 1)) + 1 by omega, pk_m1]
    · show s2.1 _ _ = _
      by_cases z : 6 - d ≤ n
      · exact p4 n f z hn2 hf
      · rw [show n = 5 - d by omega, p5 f hf, show 6 - (5 - d) = d + 1 by omega, goDS]) 0 (6, s1) FU (by omega) ⟨rfl, hf.tr ⟨by rw [f2], fun k j hk => by rw [f3, if_neg (by unfold scrX at hk; omega)]⟩, fun k j hk => by
      show s1.1 k j = _
      rw [f3, if_neg (by omega)], fun n f hn hn2 hf => by
      show s1.1 _ _ = _
      rw [show n = 6 by omega, f3, if_pos ⟨rfl, hf⟩]; rfl⟩ (FU_gt (by omega))
  obtain ⟨l2, s3⟩ := s
  obtain ⟨p1, p2, p3, p4⟩ := hp
  dsimp only at p1 p2 p3 p4
  subst p1
  refine ⟨s3, e.trans ?_, p2, p3, fun n f hn hf => p4 n f (by omega) hn hf⟩
  show fX2_walkBack_14 (x.2.2 0 9) _ (nI (6 - 6)) s3 = _
  unfold fX2_walkBack_14
  rw [if_pos (show nI (6 - 6) < 1 by decide)]
theorem Xcount {x y : gS} (h : Inv x y) (K : Int32) : ∃ x', fX2_count (x.2.2 0 9) K x = some (nI (rwT y K), x') ∧ FX x x' ∧ ∀ n f, n < 7 → f < 8 → x'.1 (178 + 1 + n) f = nI (cme y K n f) ∧ x'.1 (186 + 1 + n) f = nI (goD y K (6 - n) f) := by
  unfold fX2_count
  obtain ⟨s1, a1, a2, a3⟩ := Xgather h K
  obtain ⟨s2, b1, b2', b3, b4⟩ := XwalkOn h a2 a3
  obtain ⟨s3, c1, c2, c3, c4⟩ := XwalkBack h b2' b3
  rw [a1, bd, b1, bd, c1, bd]
  obtain ⟨s, _, e, hp⟩ := lp (fun k (s : Int32 × Int32 × gS) => hX2_count_20 (x.2.2 0 9) K k s.1 s.2.1 s.2.2) 8 (fun i s => s = (nI (sM tt (cme y K 6) i), nI i, s3)) (by
    intro k i s hi hs
    subst hs
    refine ⟨_, ?_, rfl⟩
    show fX2_count_20 (x.2.2 0 9) K (hX2_count_20 (x.2.2 0 9) K k) _ (nI i) s3 = _
    unfold fX2_count_20
    rw [if_neg (show ¬ 8 ≤ nI i from nI_ge (b := 8) (by omega) (by omega)), gc_p (by decide), gc_p (gI_nI hi (by decide)), show (6 : Int32).toNatClampNeg = 6 from rfl, nI_clamp (by omega), c3 _ _ (by omega), b4 6 i (by decide) hi, nI_s, nI_ad]
    rfl) 0 (0, 0, s3) FU (by omega) rfl (FU_gt (by omega))
  subst hp
  refine ⟨s3, e.trans ?_, c2, fun n f hn hf => ⟨by rw [c3 _ _ (by omega)]; exact b4 n f hn hf, c4 n f hn hf⟩⟩
  show fX2_count_20 (x.2.2 0 9) K _ _ (nI 8) s3 = _
  unfold fX2_count_20
  rw [if_pos (show (8 : Int32) ≤ nI 8 by decide)]
  rfl
