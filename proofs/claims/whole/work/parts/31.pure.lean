/-! ===== small rows on memories and numbers ===== -/
theorem wi_1 {st : gS} {k j a b : Nat} {v : Int32} : (wi st k j v).1 a b = if a = k ∧ b = j then v else st.1 a b := by
  by_cases h : a = k
  · by_cases h2 : b = j <;> simp [wi, upd, h, h2]
  · simp [wi, h]
theorem wi_2 {st : gS} {k j : Nat} {v : Int32} : (wi st k j v).2 = st.2 := rfl
theorem wa_1 {st : gS} {k a b : Nat} {f : Nat → Int32} : (wa st k f).1 a b = if a = k then f b else st.1 a b := by
  by_cases h : a = k <;> simp [wa, h]
theorem wa_2 {st : gS} {k : Nat} {f : Nat → Int32} : (wa st k f).2 = st.2 := rfl
theorem wr_1 {st : gS} {k j v : Nat} : (wr st k j v).1 = st.1 := rfl
theorem wr_2 {st : gS} {k j v a b : Nat} : (wr st k j v).2.2 a b = if a = k ∧ b = j then v else st.2.2 a b := by
  by_cases h : a = k
  · by_cases h2 : b = j <;> simp [wr, va_up, h, h2]
  · simp [wr, h]
theorem wl_1 {st : gS} {k j : Nat} {v : Int64} : (wl st k j v).1 = st.1 := rfl
theorem wl_2 {st : gS} {k j : Nat} {v : Int64} : (wl st k j v).2.2 = st.2.2 := rfl
theorem wl_3 {st : gS} {k j a b : Nat} {v : Int64} : (wl st k j v).2.1 a b = if a = k ∧ b = j then v else st.2.1 a b := by
  by_cases h : a = k
  · by_cases h2 : b = j <;> simp [wl, vp_updL, h, h2]
  · simp [wl, h]
theorem wr_3 {st : gS} {k j v : Nat} : (wr st k j v).2.1 = st.2.1 := rfl
theorem gc_p {α : Type} {c : Prop} [Decidable c] {x : Option α} (h : c) : gc c x = x := if_pos h
theorem isN.lt {v : Int32} {n : Nat} (h : isN v n) : vN v < n := h.2
theorem isN.eq {v : Int32} {n : Nat} (h : isN v n) : v = nI (vN v) := h.1
theorem isN.of {j n : Nat} (h : j < n) (hn : n ≤ 2 ^ 31) : isN (nI j) n := by
  have e : vN (nI j) = j := nI_clamp (by omega)
  exact ⟨by rw [e], by rw [e]; exact h⟩
theorem isN.toInt {v : Int32} {n : Nat} (h : isN v n) (hn : n ≤ 2 ^ 31) : v.toInt = (vN v : Int) := by
  have := h.2
  have e := nI_toInt (n := vN v) (by omega)
  rw [← h.1] at e
  exact e
theorem isN.gI {v : Int32} {n m : Nat} (h : isN v n) (hn : n ≤ m) (hm : m ≤ 2 ^ 31) : gI v m := by
  have := h.2
  have e := h.toInt (by omega)
  exact ⟨by omega, by omega⟩
theorem vN_nI {j : Nat} (h : j < 2 ^ 31) : vN (nI j) = j := nI_clamp h
theorem gI_nI {j n : Nat} (h : j < n) (hn : n ≤ 2 ^ 31) : gI (nI j) n := (isN.of h hn).gI (Nat.le_refl _) hn
/-- 0 at least, and below v -/
def inR (a v : Int32) : Prop := ¬ a < 0 ∧ ¬ v ≤ a
theorem inR_dec (a v : Int32) : inR a v ∨ ¬ inR a v := Classical.em _
theorem inR_nI {a : Int32} {n : Nat} (hn : n < 2 ^ 31) (h : inR a (nI n)) : ∃ j, j < n ∧ a = nI j := by
  rcases pk_ix a hn with q | q | q
  · exact absurd q h.1
  · exact absurd q h.2
  · exact q
theorem inR_N {a v : Int32} {n : Nat} (hv : isN v n) (hn : n ≤ 2 ^ 31) (h : inR a v) : isN a (vN v) := by
  have h2 := hv.2
  rw [hv.1] at h
  obtain ⟨j, hj, rfl⟩ := inR_nI (by omega) h
  exact isN.of hj (by omega)
theorem m1_lt {v : Int32} {n : Nat} (hv : isN v n) (hn : n ≤ 2 ^ 30) (a : Int32) : v - 1 < a ↔ v ≤ a := by
  have h2 := hv.2
  have e1 : (v - 1).toInt = (vN v : Int) - 1 := by
    rw [hv.1]
    have := pk_sub_toInt (a := vN v) (b := 1) (by omega) (by omega)
    rw [show vN (nI (vN v)) = vN v from vN_nI (by omega)]
    exact this
  have e2 := hv.toInt (by omega)
  rw [Int32.lt_iff_toInt_lt, Int32.le_iff_toInt_le, e1, e2]
  omega
theorem isIn_eq {a v : Int32} {n : Nat} (hv : isN v n) (hn : n ≤ 2 ^ 30) (y : gS) : (inR a v → fX11_isIn a 0 (v - 1) y = some (1, y)) ∧ (¬ inR a v → fX11_isIn a 0 (v - 1) y = some (0, y)) := by
  unfold fX11_isIn inR
  constructor
  · intro h
    rw [if_neg h.1, if_neg (fun q => h.2 ((m1_lt hv hn a).mp q))]
  · intro h
    by_cases h1 : a < 0
    · rw [if_pos h1]
    · rw [if_neg h1, if_pos ((m1_lt hv hn a).mpr (Classical.byContradiction fun q => h ⟨h1, q⟩))]
theorem isFig {y : gS} (h : WFy y) (a : Int32) : (inR a (y.1 0 48) → fX11_isFigure a y = some (1, y)) ∧ (¬ inR a (y.1 0 48) → fX11_isFigure a y = some (0, y)) := by
  obtain ⟨h1, h2⟩ := isIn_eq (a := a) h.1.1 (by decide) y
  exact ⟨fun q => by unfold fX11_isFigure; rw [h1 q]; rfl, fun q => by unfold fX11_isFigure; rw [h2 q]; rfl⟩
theorem isTri {y : gS} (h : WFy y) (a : Int32) : (inR a (y.1 0 49) → fX11_isTribe a y = some (1, y)) ∧ (¬ inR a (y.1 0 49) → fX11_isTribe a y = some (0, y)) := by
  obtain ⟨h1, h2⟩ := isIn_eq (a := a) h.1.2.1 (by decide) y
  exact ⟨fun q => by unfold fX11_isTribe; rw [h1 q]; rfl, fun q => by unfold fX11_isTribe; rw [h2 q]; rfl⟩
theorem isMov {y : gS} (h : WFy y) (a : Int32) : (inR a (y.1 0 50) → fX11_isMove a y = some (1, y)) ∧ (¬ inR a (y.1 0 50) → fX11_isMove a y = some (0, y)) := by
  obtain ⟨h1, h2⟩ := isIn_eq (a := a) h.1.2.2.1 (by decide) y
  exact ⟨fun q => by unfold fX11_isMove; rw [h1 q]; rfl, fun q => by unfold fX11_isMove; rw [h2 q]; rfl⟩
theorem hasFig (x : gS) (t : Nat) (a : Int32) : (inR a (x.1 t 12) → fX8_hasFigure t a x = some (1, x)) ∧ (¬ inR a (x.1 t 12) → fX8_hasFigure t a x = some (0, x)) := by
  unfold fX8_hasFigure inR
  constructor
  · intro h
    rw [if_neg h.1, if_neg h.2]
  · intro h
    by_cases h1 : a < 0
    · rw [if_pos h1]
    · rw [if_neg h1, if_pos (Classical.byContradiction fun q => h ⟨h1, q⟩)]
theorem hasTri (x : gS) (t : Nat) (a : Int32) : (inR a (x.1 t 13) → fX8_hasTribe t a x = some (1, x)) ∧ (¬ inR a (x.1 t 13) → fX8_hasTribe t a x = some (0, x)) := by
  unfold fX8_hasTribe inR
  constructor
  · intro h
    rw [if_neg h.1, if_neg h.2]
  · intro h
    by_cases h1 : a < 0
    · rw [if_pos h1]
    · rw [if_neg h1, if_pos (Classical.byContradiction fun q => h ⟨h1, q⟩)]
theorem hasMov (x : gS) (t : Nat) (a : Int32) : (inR a (x.1 t 14) → fX8_hasMove t a x = some (1, x)) ∧ (¬ inR a (x.1 t 14) → fX8_hasMove t a x = some (0, x)) := by
  unfold fX8_hasMove inR
  constructor
  · intro h
    rw [if_neg h.1, if_neg h.2]
  · intro h
    by_cases h1 : a < 0
    · rw [if_pos h1]
    · rw [if_neg h1, if_pos (Classical.byContradiction fun q => h ⟨h1, q⟩)]
theorem bd {α β : Type} {a : α} {f : α → Option β} : (some a).bind f = f a := rfl
section AC
variable {x y : gS}
theorem Inv.tape (h : Inv x y) : Itape x y := h.1
theorem Inv.fault (h : Inv x y) : Ifault x y := h.2.1
theorem Inv.refs (h : Inv x y) : Irefs x := h.2.2.1
theorem Inv.wf (h : Inv x y) : WFy y := h.2.2.2.1
theorem Inv.xt (h : Inv x y) : XT x (x.2.2 0 9) y := h.2.2.2.2.1
theorem Inv.xs (h : Inv x y) : XS x (x.2.2 0 9) y := h.2.2.2.2.2.1
theorem Inv.now (h : Inv x y) : Inow x y := h.2.2.2.2.2.2.1
theorem Inv.hist (h : Inv x y) : Ihist x y := h.2.2.2.2.2.2.2.1
theorem Inv.box (h : Inv x y) : Ibox x y := h.2.2.2.2.2.2.2.2.1
theorem Inv.past (h : Inv x y) : Ipast x y := h.2.2.2.2.2.2.2.2.2.1
theorem Inv.lie (h : Inv x y) : Ilie x y := h.2.2.2.2.2.2.2.2.2.2
theorem Inv.told8 (h : Inv x y) : gK 0 (x.2.2 0 9) = 8 := by
  rcases h.refs.1 with q | q
  · rw [q.1]; exact gk0_4
  · rw [q.1]; exact gk0_194
end AC
theorem one0 : ¬ (1 : Int32) = 0 := by decide
def sP (I : gS → gS → Prop) (F G : Option (Int32 × gS)) : Prop := ∃ r x' y', F = some (r, x') ∧ G = some (r, y') ∧ I x' y'
theorem sp_if {I : gS → gS → Prop} {c : Prop} [Decidable c] {A B C D : Option (Int32 × gS)} (h1 : c → sP I A C) (h2 : ¬ c → sP I B D) : sP I (if c then A else B) (if c then C else D) := by
  by_cases h : c
  · rw [if_pos h, if_pos h]; exact h1 h
  · rw [if_neg h, if_neg h]; exact h2 h
/-! ===== fault, end, about, lies, later ===== -/
theorem s_fault (a : Int32) : sOK Inv (fX10_fault a) (fX11_fault a) := by
  intro x y h
  unfold fX10_fault fX11_fault
  obtain ⟨e1, e2⟩ := h.fault
  by_cases h0 : a = 0
  · rw [if_pos h0, if_pos h0]
    exact ⟨_, _, _, rfl, by rw [e1], h⟩
  · rw [if_neg h0, if_neg h0]
    by_cases h1 : a = 1
    · rw [if_pos h1, if_pos h1]
      exact ⟨_, _, _, rfl, by rw [e2], h⟩
    · rw [if_neg h1, if_neg h1]
      exact ⟨_, _, _, rfl, rfl, h⟩
theorem s_about (a : Int32) : sOK Inv (fX10_about a) (fX11_about a) := by
  intro x y h
  unfold fX10_about fX11_about
  obtain ⟨f1, f2, f3, -⟩ := h.xt.1
  obtain ⟨r0, r1, r2, r3, r14, r15, r16, r17, -⟩ := h.now.2
  have k8 := h.told8
  have hh := h.hist
  have e12 : x.1 23 2 - y.1 0 58 = y.1 0 59 := by
    rw [hh.2.2.2.2.1]
    rw [Int32.add_comm, Int32.add_sub_cancel]
  simp only [gc_p k8, gc_p (show gI 0 18 by decide), gc_p (show gI 1 18 by decide), gc_p (show gI 2 18 by decide), gc_p (show gI 3 18 by decide), gc_p (show gI 14 18 by decide), gc_p (show gI 15 18 by decide), gc_p (show gI 16 18 by decide), gc_p (show gI 17 18 by decide), fX6_length, bd, f1, f2, f3, e12, hh.2.2.2.1, h.past.2.2.1, h.past.2.2.2.1, h.tape.2.1, h.lie.2.1, show x.1 (x.2.2 0 9 + 1 + 11) 3 = y.1 0 21 from h.xs.2.2.2.1]
  rw [r0, r1, r2, r3, r14, r15, r16, r17]
  repeat (refine sp_if (fun _ => ⟨_, _, _, rfl, rfl, h⟩) (fun _ => ?_))
  exact ⟨_, _, _, rfl, rfl, h⟩
theorem s_lies (a : Int32) : sOK Inv (fX10_lies a) (fX11_lies a) := by
  intro x y h
  unfold fX10_lies fX11_lies fX9_lyingAt
  obtain ⟨h1, h2, h3⟩ := h.lie
  rw [h2]
  rcases inR_dec a (y.1 0 62) with q | q
  · have hN := inR_N h1 (by decide) q
    have hlt := h1.2
    have n16 : ¬ (16 : Int32) ≤ a := fun z => by
      have z2 : (16 : Int) ≤ a.toInt := Int32.le_iff_toInt_le.mp z
      rw [hN.toInt (by omega)] at z2
      have := hN.2
      omega
    rw [(isIn_eq h1 (by decide) y).1 q, if_neg q.1, if_neg q.2, if_neg n16, gc_p (hN.gI (by omega) (by decide)), bd, bd]
    dsimp only
    rw [if_neg one0, gc_p (hN.gI (by omega) (by decide)), h3 _ hN.2]
    exact ⟨_, _, _, rfl, rfl, h⟩
  · rw [(isIn_eq h1 (by decide) y).2 q, bd]
    dsimp only
    rw [if_pos rfl]
    by_cases h4 : a < 0
    · rw [if_pos h4]
      exact ⟨_, _, _, rfl, rfl, h⟩
    · rw [if_neg h4, if_pos (Classical.byContradiction fun z => q ⟨h4, z⟩)]
      exact ⟨_, _, _, rfl, rfl, h⟩
