/-! ===== how many bits ===== -/
def cnt (p : Nat → Bool) : Nat → Nat
  | 0 => 0
  | n + 1 => cnt p n + (if p n then 1 else 0)
theorem cnt_eq {p q : Nat → Bool} {n : Nat} (h : ∀ i, i < n → p i = q i) : cnt p n = cnt q n := by
  induction n with
  | zero => rfl
  | succ n ih => rw [cnt, cnt, ih (fun i hi => h i (by omega)), h n (by omega)]
theorem cnt_le (p : Nat → Bool) (n : Nat) : cnt p n ≤ n := by
  induction n with
  | zero => exact Nat.le_refl _
  | succ n ih => rw [cnt]; split <;> omega
theorem cnt_add (p : Nat → Bool) (n m : Nat) : cnt p (n + m) = cnt p n + cnt (fun i => p (n + i)) m := by
  induction m with
  | zero => rfl
  | succ m ih => rw [cnt, ← Nat.add_assoc, cnt, ih, Nat.add_assoc]
theorem cnt_0 {p : Nat → Bool} {n m : Nat} (h : ∀ i, n ≤ i → p i = false) (hm : n ≤ m) : cnt p m = cnt p n := by
  induction m with
  | zero => rw [show n = 0 by omega]
  | succ m ih =>
    by_cases e : n = m + 1
    · rw [e]
    · rw [cnt, ih (by omega), if_neg (by rw [h m (by omega)]; decide), Nat.add_zero]
theorem and_split {a b c d : Nat} (hb : b < 256) (hd : d < 256) : (256 * a + b) &&& (256 * c + d) = 256 * (a &&& c) + (b &&& d) := by
  have hbd : b &&& d < 2 ^ 8 := Nat.lt_of_le_of_lt Nat.and_le_left hb
  apply Nat.eq_of_testBit_eq
  intro i
  rw [Nat.testBit_and]
  have e1 := Nat.testBit_two_pow_mul_add a (i := 8) (b := b) hb i
  have e2 := Nat.testBit_two_pow_mul_add c (i := 8) (b := d) hd i
  have e3 := Nat.testBit_two_pow_mul_add (a &&& c) (i := 8) (b := b &&& d) hbd i
  have p8 : (2 : Nat) ^ 8 = 256 := by decide
  rw [p8] at e1 e2 e3
  rw [e1, e2, e3]
  split
  · rw [Nat.testBit_and]
  · rw [Nat.testBit_and]
def pS1 (l : Nat) : Nat := l - (l / 2 &&& 0x55)
def pS2 (l : Nat) : Nat := (l &&& 0x33) + (l / 4 &&& 0x33)
def pT (l : Nat) : Nat := pS2 (pS1 l)
def all8 (f : Nat → Bool) : Bool := (List.range 256).all f
theorem all8_i {f : Nat → Bool} (h : all8 f = true) {l : Nat} (hl : l < 256) : f l = true :=
  List.all_eq_true.mp h l (List.mem_range.mpr hl)
set_option maxRecDepth 100000 in
theorem tb1 : all8 (fun l => (128 + l / 2 &&& 0x55) == (l / 2 &&& 0x55)) = true := by decide
set_option maxRecDepth 100000 in
theorem tb2 : all8 (fun l => ((64 + l / 4 &&& 0x33) == (l / 4 &&& 0x33)) && ((128 + l / 4 &&& 0x33) == (l / 4 &&& 0x33)) && ((192 + l / 4 &&& 0x33) == (l / 4 &&& 0x33))) = true := by decide
set_option maxRecDepth 100000 in
theorem tb3 : all8 (fun l => decide (pT l ≤ 68) && decide (pT l % 16 ≤ 4) && ((pT l + pT l / 16) % 16 == cnt l.testBit 8)) = true := by decide
set_option maxRecDepth 100000 in
theorem tb4 : all8 (fun l => ((l / 2 &&& 0x555555) == (l / 2 &&& 0x55)) && ((l &&& 0x333333) == (l &&& 0x33)) && ((l / 4 &&& 0x333333) == (l / 4 &&& 0x33)) && ((l &&& 0x0f0f0f) == l % 16)) = true := by decide
theorem bc16 {n : Nat} (hn : n < 65536) : ∃ v1 v2 v3 v4, n / 2 &&& 1431655765 ≤ n ∧ v1 = n - (n / 2 &&& 1431655765) ∧ v2 = (v1 &&& 858993459) + (v1 / 4 &&& 858993459) ∧ v3 = (v2 + v2 / 16) &&& 252645135 ∧ v4 = v3 + v3 / 256 ∧ v1 < 65536 ∧ v2 < 65536 ∧ v3 < 65536 ∧ v4 < 65536 ∧ v4 &&& 63 = cnt n.testBit 16 := by
  obtain ⟨h, l, hh, hl, rfl⟩ : ∃ h l, h < 256 ∧ l < 256 ∧ n = 256 * h + l := ⟨n / 256, n % 256, by omega, by omega, by omega⟩
  have t4h := all8_i tb4 hh
  have t3h := all8_i tb3 hh
  have t3l := all8_i tb3 hl
  simp only [Bool.and_eq_true, beq_iff_eq, decide_eq_true_eq] at t4h t3h t3l
  obtain ⟨⟨⟨t4a, -⟩, -⟩, -⟩ := t4h
  -- first
  have e1 : (256 * h + l) / 2 &&& 1431655765 = 256 * (h / 2 &&& 0x55) + (l / 2 &&& 0x55) := by
    rw [show (256 * h + l) / 2 = 256 * (h / 2) + (128 * (h % 2) + l / 2) by omega, show 1431655765 = 256 * 0x555555 + 0x55 from rfl, and_split (by omega) (by decide), t4a]
    rcases (by omega : h % 2 = 0 ∨ h % 2 = 1) with q | q
    · rw [q, Nat.mul_zero, Nat.zero_add]
    · have := all8_i tb1 hl
      simp only [beq_iff_eq] at this
      rw [q, Nat.mul_one, this]
  have b1 : h / 2 &&& 0x55 ≤ h := Nat.le_trans Nat.and_le_left (Nat.div_le_self _ _)
  have b2 : l / 2 &&& 0x55 ≤ l := Nat.le_trans Nat.and_le_left (Nat.div_le_self _ _)
  have f1 : 256 * h + l - (256 * (h / 2 &&& 0x55) + (l / 2 &&& 0x55)) = 256 * pS1 h + pS1 l := by
    unfold pS1; omega
  have p1 : pS1 h < 256 := by unfold pS1; omega
  have p2 : pS1 l < 256 := by unfold pS1; omega
  -- second
  have e2 : ∀ a b, a < 256 → b < 256 → ((256 * a + b) &&& 858993459) + ((256 * a + b) / 4 &&& 858993459) = 256 * pS2 a + pS2 b := by
    intro a b ha hb
    have ta := all8_i tb4 ha
    simp only [Bool.and_eq_true, beq_iff_eq] at ta
    rw [show (256 * a + b) / 4 = 256 * (a / 4) + (64 * (a % 4) + b / 4) by omega, show 858993459 = 256 * 0x333333 + 0x33 from rfl, and_split (by omega) (by decide), and_split (by omega) (by decide), ta.1.1.2, ta.1.2]
    have tb := all8_i tb2 hb
    simp only [Bool.and_eq_true, beq_iff_eq] at tb
    have : (64 * (a % 4) + b / 4 &&& 0x33) = (b / 4 &&& 0x33) := by
      rcases (by omega : a % 4 = 0 ∨ a % 4 = 1 ∨ a % 4 = 2 ∨ a % 4 = 3) with q | q | q | q
      · rw [q, Nat.mul_zero, Nat.zero_add]
      · rw [q]; exact tb.1.1
      · rw [q]; exact tb.1.2
      · rw [q]; exact tb.2
    rw [this]
    unfold pS2
    omega
  have q1 : pT h ≤ 68 := t3h.1.1
  have q2 : pT l ≤ 68 := t3l.1.1
  -- third
  have e3 : (256 * pT h + pT l + (256 * pT h + pT l) / 16) &&& 252645135 = 256 * cnt h.testBit 8 + cnt l.testBit 8 := by
    have r1 := t3h.1.2
    have r2 := t3h.2
    have r3 := t3l.2
    generalize pT h = a at *
    generalize pT l = b at *
    rw [show 256 * a + b + (256 * a + b) / 16 = 256 * (a + a / 16) + (b + b / 16 + 16 * (a % 16)) by omega, show 252645135 = 256 * 0x0f0f0f + 15 from rfl, and_split (by omega) (by decide)]
    have ta := all8_i tb4 (show a + a / 16 < 256 by omega)
    simp only [Bool.and_eq_true, beq_iff_eq] at ta
    rw [ta.2, r2, show (15 : Nat) = 2 ^ 4 - 1 from rfl, Nat.and_two_pow_sub_one_eq_mod, show (b + b / 16 + 16 * (a % 16)) % 2 ^ 4 = (b + b / 16) % 16 by omega, r3]
  have c1 := cnt_le h.testBit 8
  have c2 := cnt_le l.testBit 8
  refine ⟨256 * pS1 h + pS1 l, 256 * pT h + pT l, 256 * cnt h.testBit 8 + cnt l.testBit 8, 256 * cnt h.testBit 8 + cnt l.testBit 8 + cnt h.testBit 8, ?_, ?_, ?_, ?_, ?_, ?_, ?_, ?_, ?_, ?_⟩
  · rw [e1]; omega
  · rw [e1, f1]
  · rw [e2 _ _ p1 p2]; rfl
  · rw [e3]
  · rw [show (256 * cnt h.testBit 8 + cnt l.testBit 8) / 256 = cnt h.testBit 8 by omega]
  · omega
  · omega
  · omega
  · omega
  · rw [show (63 : Nat) = 2 ^ 6 - 1 from rfl, Nat.and_two_pow_sub_one_eq_mod]
    have hsplit : cnt (256 * h + l).testBit 16 = cnt l.testBit 8 + cnt h.testBit 8 := by
      rw [show 16 = 8 + 8 from rfl, cnt_add]
      have p8 : (2 : Nat) ^ 8 = 256 := by decide
      congr 1
      · apply cnt_eq
        intro i hi
        have := Nat.testBit_two_pow_mul_add h (i := 8) (b := l) hl i
        rw [p8, if_pos hi] at this
        exact this
      · apply cnt_eq
        intro i hi
        have := Nat.testBit_two_pow_mul_add h (i := 8) (b := l) hl (8 + i)
        rw [p8, if_neg (by omega), show 8 + i - 8 = i by omega] at this
        exact this
    rw [hsplit]
    omega
theorem bitC {n : Nat} (hn : n < 65536) (st : gS) : fJ6_bitCount_0f7a4 (nI n) st = some (nI (cnt n.testBit 16), st) := by
  obtain ⟨v1, v2, v3, v4, h0, h1, h2, h3, h4, l1, l2, l3, l4, h5⟩ := bc16 hn
  unfold fJ6_bitCount_0f7a4 gl
  dsimp only
  have a1 : nI n - (((nI n).toUInt32 >>> ((1 : Int32).toUInt32 &&& Int32.toUInt32 31)).toInt32 &&& 1431655765) = nI v1 := by
    rw [pk_ushrN (by omega) 1 1 (by decide), show (1431655765 : Int32) = nI 1431655765 from rfl, b_and, pk_sub (by rw [Nat.pow_one]; exact h0), h1, Nat.pow_one]
  rw [a1]
  have a2 : (nI v1 &&& 858993459) + (((nI v1).toUInt32 >>> ((2 : Int32).toUInt32 &&& Int32.toUInt32 31)).toInt32 &&& 858993459) = nI v2 := by
    rw [pk_ushrN (by omega) 2 2 (by decide), show (858993459 : Int32) = nI 858993459 from rfl, b_and, b_and, nI_ad, h2]
  rw [a2]
  have a3 : (nI v2 + ((nI v2).toUInt32 >>> ((4 : Int32).toUInt32 &&& Int32.toUInt32 31)).toInt32) &&& 252645135 = nI v3 := by
    rw [pk_ushrN (by omega) 4 4 (by decide), show (252645135 : Int32) = nI 252645135 from rfl, nI_ad, b_and, h3]
  rw [a3]
  have a4 : nI v3 + ((nI v3).toUInt32 >>> ((8 : Int32).toUInt32 &&& Int32.toUInt32 31)).toInt32 = nI v4 := by
    rw [pk_ushrN (by omega) 8 8 (by decide), nI_ad, h4]
  rw [a4]
  have a5 : nI v4 + ((nI v4).toUInt32 >>> ((16 : Int32).toUInt32 &&& Int32.toUInt32 31)).toInt32 = nI v4 := by
    rw [pk_ushrN (by omega) 16 16 (by decide), nI_ad, show v4 / 2 ^ 16 = 0 by omega, Nat.add_zero]
  rw [a5, show (63 : Int32) = nI 63 from rfl, b_and, h5]
theorem cnt_bS (p : Nat → Bool) {n m : Nat} (h : n ≤ m) : cnt (bS p n).testBit m = cnt p n := by
  rw [cnt_0 (n := n) (fun i hi => by rw [bS_t]; simp [show ¬ i < n by omega]) h]
  apply cnt_eq
  intro i hi
  rw [bS_t]; simp [hi]
/-- by the other hand, or not -/
def cnf (y : gS) (k : Nat) (c : Bool) (m : Nat) : Bool := !((sf y k).testBit (if c then 9 - fg y m else fg y m))
theorem cnb_f (y : gS) (k m : Nat) : cnb y k m = cnf y k (decide (y.1 27 k = 1)) m := by
  unfold cnb cnf
  by_cases h : y.1 27 k = 1 <;> simp [h]
section LK
variable {x y : gS} {t : Nat}
theorem fg_lt (h : WFy y) {m : Nat} (hm : m < nM y) : fg y m < 10 := (h.2.1 m hm).2.2.1.2
theorem fg_e (h : WFy y) {m : Nat} (hm : m < nM y) : y.1 23 m = nI (fg y m) := (h.2.1 m hm).2.2.1.1
theorem xfg_e (h : WFy y) (hx : XT x t y) {m : Nat} (hm : m < nM y) : x.1 (t + 1 + 8) m = nI (fg y m) := (hx.2.2.1 m hm).2.2.1.trans (fg_e h hm)
theorem sf_lt (h : WFy y) {k : Nat} (hk : k < nT y) : sf y k < 1024 := (h.2.2 k hk).2.1.2
theorem sf_e (h : WFy y) {k : Nat} (hk : k < nT y) : y.1 13 k = nI (sf y k) := (h.2.2 k hk).2.1.1
theorem xsf_e (h : WFy y) (hx : XT x t y) {k : Nat} (hk : k < nT y) : x.1 (t + 1 + 3) k = nI (sf y k) := (hx.2.2.2 k hk).2.1.trans (sf_e h hk)
theorem XableIf (h : WFy y) (hx : XT x t y) {k : Nat} (hk : k < nT y) (c : Bool) : fX8_ableIf t (nI k) (b2 c) x = some (nI (bS (cnf y k c) (nM y)), x) := by
  unfold fX8_ableIf
  have hM := nM17 h
  have hT := nT6 h
  have hs := sf_lt h hk
  obtain ⟨s, m, e, hp⟩ := lp (fun n (s : Int32 × Int32 × gS) => hX8_ableIf_5 t (nI k) (b2 c) n s.1 s.2.1 s.2.2) (nM y) (fun i s => s = (nI (bS (cnf y k c) i), nI i, x)) (by
    intro n i s hi hs
    subst hs
    refine ⟨_, ?_, rfl⟩
    show fX8_ableIf_5 t _ _ (hX8_ableIf_5 t _ _ n) _ (nI i) x = _
    have hf := fg_lt h hi
    unfold fX8_ableIf_5 fX8_ableIf_38
    rw [Xtri h hx.1 hk, bd]
    dsimp only
    have g16 : gI (nI i) 16 := gI_nI (by omega) (by decide)
    have g5 : gI (nI k) 5 := gI_nI (by omega) (by decide)
    simp only [bd, if_neg one0, gc_p g16, gc_p g5, nI_clamp (show i < 2 ^ 31 by omega), nI_clamp (show k < 2 ^ 31 by omega), xfg_e h hx hi, xsf_e h hx hk, nI_s, show (9 : Int32) - nI (fg y i) = nI (9 - fg y i) from pk_sub (a := 9) (by omega)]
    rw [xM h hx, if_neg (nle hi (by omega)), b_bit (by omega) (by omega), b_bit (by omega) (by omega)]
    unfold gl
    cases c
    · rw [if_pos zero0']
      cases hq : (sf y k).testBit (fg y i)
      · rw [if_pos zero0', bS_s1 (p := cnf y k false) (by simp [cnf, hq]) (by omega)]
      · rw [if_neg one0', ← bS_s0 (p := cnf y k false) (by simp [cnf, hq])]
    · rw [if_neg one0']
      cases hq : (sf y k).testBit (9 - fg y i)
      · rw [if_pos zero0', bS_s1 (p := cnf y k true) (by simp [cnf, hq]) (by omega)]
      · rw [if_neg one0', ← bS_s0 (p := cnf y k true) (by simp [cnf, hq])]) 0 (0, 0, x) FU (by omega) rfl (FU_gt (by omega))
  subst hp
  refine e.trans ?_
  show fX8_ableIf_5 t _ _ _ _ _ x = _
  unfold fX8_ableIf_5
  rw [xM h hx, if_pos (yle _)]
theorem YcanBy (h : WFy y) {k m : Nat} (hk : k < nT y) (hm : m < nM y) (c : Bool) : fX11_canBy (nI k) (nI m) (b2 c) y = some (b2 (cnf y k c m), y) := by
  have a1 := nT6 h
  have a2 := nM17 h
  have hs := sf_lt h hk
  have hf := fg_lt h hm
  unfold fX11_canBy fX11_canBy_28
  rw [gc_p (gI_nI (by omega) (by decide)), gc_p (gI_nI (by omega) (by decide)), gc_p (gI_nI (by omega) (by decide)), nI_clamp (show k < 2 ^ 31 by omega), nI_clamp (show m < 2 ^ 31 by omega), fg_e h hm, sf_e h hk, show (9 : Int32) - nI (fg y m) = nI (9 - fg y m) from pk_sub (a := 9) (by omega), b_bit (by omega) (by omega), b_bit (by omega) (by omega)]
  cases c
  · rw [if_pos zero0']
    cases hq : (sf y k).testBit (fg y m) <;> simp [b2, cnf, hq]
  · rw [if_neg one0']
    cases hq : (sf y k).testBit (9 - fg y m) <;> simp [b2, cnf, hq]
end LK
theorem i32_4 (a b c d : Int32) : a - b + (c - d) = a + c - (b + d) := by
  apply Int32.toBitVec_inj.mp
  rw [Int32.toBitVec_add, Int32.toBitVec_sub, Int32.toBitVec_sub, Int32.toBitVec_sub, Int32.toBitVec_add, Int32.toBitVec_add]
  apply BitVec.eq_of_toInt_eq
  simp only [BitVec.toInt_add, BitVec.toInt_sub]
  simp only [Int.bmod_add_bmod, Int.add_bmod_bmod, Int.bmod_sub_bmod, Int.sub_bmod_bmod]
  congr 1
  omega
theorem s_mirror (a : Int32) : sOK Inv (fX10_mirror a) (fX11_mirror a) := by
  intro x y h
  have hw := h.wf
  have hx := h.xt
  have hM := nM17 hw
  have hT := nT6 hw
  unfold fX10_mirror fX11_mirror
  rw [gc_p h.told8]
  rcases inR_dec a (y.1 0 49) with q | q
  · rw [(isTri h.wf a).1 q, (hasTri x _ a).1 (by rw [h.xt.1.2.1]; exact q), bd, bd]
    dsimp only
    obtain ⟨k, hk, rfl⟩ := inT h.wf q
    rw [if_neg one0, if_neg one0, gc_p h.told8]
    have hmir : ((x.1 (x.2.2 0 9) 15) >>> (nI k &&& 31)) &&& 1 = b2 (decide (y.1 27 k = 1)) := by
      have hN := h.xt.2.1
      have := hN.2
      rw [hN.1, b_bit (by omega) (by omega), (hx.2.2.2 k hk).2.2.1]
    rw [hmir]
    have hX : ∀ c, fX10_mirror_48 (nI k) (b2 c) (nI k) (x.2.2 0 9) x = some (nI (cnt (cnf y k c) (nM y)) - nI (cnt (cnb y k) (nM y)), x) := by
      intro c
      unfold fX10_mirror_48
      rw [gc_p h.told8, XableIf hw hx hk, bd]
      dsimp only
      rw [bitC (Nat.lt_of_lt_of_le (bS_lt _ _) (Nat.pow_le_pow_right (n := 2) (by decide) (show nM y ≤ 16 by omega))), bd]
      dsimp only
      rw [gc_p h.told8, gc_p (gI_nI (by omega) (by decide)), nI_clamp (by omega), Xable hw hx hk, bitC (Nat.lt_of_lt_of_le (bS_lt _ _) (Nat.pow_le_pow_right (n := 2) (by decide) (show nM y ≤ 16 by omega))), bd]
      dsimp only
      rw [cnt_bS _ (by omega), cnt_bS _ (by omega)]
    have hY : ∀ c, b2 c = y.1 27 k → hX11_mirror_15 (nI k) FU 0 0 y = some (nI (cnt (cnf y k (!c)) (nM y)) - nI (cnt (cnb y k) (nM y)), y) := by
      intro c hc
      obtain ⟨s, m, e, hp⟩ := lp (fun n (s : Int32 × Int32 × gS) => hX11_mirror_15 (nI k) n s.1 s.2.1 s.2.2) (nM y) (fun i s => s = (nI (cnt (cnf y k (!c)) i) - nI (cnt (cnb y k) i), nI i, y)) (by
        intro n i s hi hs
        subst hs
        refine ⟨_, ?_, rfl⟩
        show fX11_mirror_15 _ (hX11_mirror_15 _ n) _ (nI i) y = _
        unfold fX11_mirror_15
        rw [eM hw, if_neg (nle hi (by omega)), gc_p (gI_nI (by omega) (by decide)), nI_clamp (by omega), ← hc]
        have fin : ∀ d, fX11_mirror_41 (nI k) (hX11_mirror_15 (nI k) n) (nI i) (b2 d) (nI i) (nI k) (nI (cnt (cnf y k d) i) - nI (cnt (cnb y k) i)) y = hX11_mirror_15 (nI k) n (nI (cnt (cnf y k d) (i + 1)) - nI (cnt (cnb y k) (i + 1))) (nI (i + 1)) y := by
          intro d
          unfold fX11_mirror_41
          rw [YcanBy hw hk hi, bd]
          dsimp only
          rw [Ytruth, bd]
          dsimp only
          rw [Ycan hw hk hi, bd]
          dsimp only
          rw [Ytruth, bd]
          unfold gl
          dsimp only
          rw [i32_4, nI_s, cnt, cnt, ← nI_ad (cnt (cnf y k d) i), ← nI_ad (cnt (cnb y k) i)]
          have : ∀ b : Bool, nI (if b = true then 1 else 0) = b2 b := by intro b; cases b <;> rfl
          rw [this, this]
        cases c
        · rw [if_pos zero0']; exact fin true
        · rw [if_neg one0']; exact fin false) 0 (0, 0, y) FU (by omega) (by show (0, 0, y) = (nI 0 - nI 0, nI 0, y); rw [Int32.sub_self]; rfl) (FU_gt (by omega))
      subst hp
      refine e.trans ?_
      show fX11_mirror_15 _ _ _ _ y = _
      unfold fX11_mirror_15
      rw [eM hw, if_pos (yle _)]
    unfold fX10_mirror_33
    rcases (hw.2.2 k hk).2.2.1 with z | z
    · rw [show decide (y.1 27 k = 1) = false by rw [z]; rfl, if_pos zero0', if_pos rfl]
      exact ⟨_, _, _, hX true, hY false z.symm, h⟩
    · rw [show decide (y.1 27 k = 1) = true by rw [z]; rfl, if_neg one0', if_neg one0]
      exact ⟨_, _, _, hX false, hY true z.symm, h⟩
  · rw [(isTri h.wf a).2 q, (hasTri x _ a).2 (by rw [h.xt.1.2.1]; exact q), bd, bd]
    exact ⟨_, _, _, rfl, rfl, h⟩
