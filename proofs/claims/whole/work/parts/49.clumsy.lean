/-! ===== clumsy, take ===== -/
theorem dpt_eq {y s : gS} (h5 : ∀ j, s.1 5 j = y.1 5 j) (n : Nat) : dpt s n = dpt y n := by
  induction n with
  | zero => rfl
  | succ n ih => show (dpt s n).bind _ = (dpt y n).bind _; rw [ih, h5]
theorem ev_eq {y s : gS} (h5 : ∀ j, s.1 5 j = y.1 5 j) (h6 : ∀ j, s.1 6 j = y.1 6 j) (A : Nat → Int32) (n : Nat) : ev s A n = ev y A n := by
  induction n with
  | zero => rfl
  | succ n ih => rw [ev, ev, ih, dpt_eq h5, h5, h6]
theorem slI_eq {y s : gS} (h5 : ∀ j, s.1 5 j = y.1 5 j) (h6 : ∀ j, s.1 6 j = y.1 6 j) (h12 : ∀ j, s.1 12 j = y.1 12 j) (h24 : ∀ j, s.1 24 j = y.1 24 j) (h18 : s.1 0 18 = y.1 0 18) (n2 : s.1 28 2 = y.1 28 2) (n3 : s.1 28 3 = y.1 28 3) (n16 : s.1 28 16 = y.1 28 16) (k m : Nat) : slI s k m = slI y k m := by
  unfold slI
  have : askV s k m = askV y k m := by unfold askV; rw [h24, h12, n2, n3, n16]
  rw [h18, ev_eq h5 h6, this, h24, h12]
section FYE
variable {y s : gS}
theorem FY.sl (h : FY y s) (k m : Nat) : slI s k m = slI y k m :=
  slI_eq (fun j => h 5 j (by unfold scrY; omega)) (fun j => h 6 j (by unfold scrY; omega)) (fun j => h 12 j (by unfold scrY; omega)) (fun j => h 24 j (by unfold scrY; omega)) (h 0 18 (by unfold scrY; omega)) (h 28 2 (by unfold scrY; omega)) (h 28 3 (by unfold scrY; omega)) (h 28 16 (by unfold scrY; omega)) k m
theorem FY.nT (h : FY y s) : nT s = nT y := by show vN (s.1 0 49) = vN (y.1 0 49); rw [h 0 49 (by unfold scrY; omega)]
theorem FY.nF (h : FY y s) : nF s = nF y := by show vN (s.1 0 48) = vN (y.1 0 48); rw [h 0 48 (by unfold scrY; omega)]
theorem FY.nM (h : FY y s) : nM s = nM y := by show vN (s.1 0 50) = vN (y.1 0 50); rw [h 0 50 (by unfold scrY; omega)]
theorem FY.fr (h : FY y s) (m : Nat) : fr s m = fr y m := by show vN (s.1 21 m) = vN (y.1 21 m); rw [h 21 m (by unfold scrY; omega)]
theorem FY.tO (h : FY y s) (m : Nat) : tO s m = tO y m := by show vN (s.1 22 m) = vN (y.1 22 m); rw [h 22 m (by unfold scrY; omega)]
theorem FY.cnb (h : FY y s) (k m : Nat) : cnb s k m = cnb y k m := by
  show (!(vN (s.1 13 k)).testBit (if s.1 27 k = 1 then 9 - vN (s.1 23 m) else vN (s.1 23 m))) = (!(vN (y.1 13 k)).testBit (if y.1 27 k = 1 then 9 - vN (y.1 23 m) else vN (y.1 23 m)))
  rw [h 13 k (by unfold scrY; omega), h 27 k (by unfold scrY; omega), h 23 m (by unfold scrY; omega)]
theorem FY.now (h : FY y s) (j : Nat) : s.1 28 j = y.1 28 j := h 28 j (by unfold scrY; omega)
end FYE
/-- the clumsiest of the first tribes, and how he slips -/
def clV (y : gS) (m : Nat) : Nat → Option Nat
  | 0 => none
  | n + 1 => if cnb y n m then (match clV y m n with
    | none => some n
    | some b => if vN (slI y b m) < vN (slI y n m) then some n else some b) else clV y m n
theorem clV_lt (y : gS) (m n : Nat) : ∀ b, clV y m n = some b → b < n := by
  induction n with
  | zero => intro b h; cases h
  | succ n ih =>
    intro b h
    rw [clV] at h
    split at h
    · cases hq : clV y m n with
      | none =>
        rw [hq] at h
        have : n = b := Option.some.inj h
        omega
      | some c =>
        have := ih c hq
        rw [hq] at h
        dsimp only at h
        split at h
        · have : n = b := Option.some.inj h
          omega
        · have : c = b := Option.some.inj h
          omega
    · have := ih b h; omega
theorem s_clumsy (a : Int32) : sOK Inv (fX10_clumsy a) (fX11_clumsy a) := by
  intro x y h
  have hw := h.wf
  have hT := nT6 hw
  unfold fX10_clumsy fX11_clumsy
  rw [gc_p h.told8]
  rcases inR_dec a (y.1 0 50) with q | q
  · rw [(isMov h.wf a).1 q, (hasMov x _ a).1 (by rw [h.xt.1.2.2.1]; exact q), bd, bd]
    dsimp only
    obtain ⟨m, hm, rfl⟩ := inM h.wf q
    rw [if_neg one0, if_neg one0]
    have sN : ∀ k, slI y k m = nI (vN (slI y k m)) ∧ vN (slI y k m) < 101 := fun k => slI_N y k m
    have hX : ∃ x', hX10_clumsy_20 (nI m) FU (-1) (-1) 0 x = some (oI (clV y m (nT y)), x') ∧ FX x x' := by
      obtain ⟨s, _, e, hp⟩ := lp (fun n (s : Int32 × Int32 × Int32 × gS) => hX10_clumsy_20 (nI m) n s.1 s.2.1 s.2.2.1 s.2.2.2) (nT y) (fun i s => s.1 = oI (clV y m i) ∧ s.2.1 = (match clV y m i with | none => -1 | some b => slI y b m) ∧ s.2.2.1 = nI i ∧ FX x s.2.2.2) (by
        intro n i ⟨l2, l3, l4, st⟩ hi ⟨q1, q2, q3, q4⟩
        dsimp only at q1 q2 q3 q4
        subst q1 q2 q3
        have hs : Inv st y := Inv_fr h q4 (FY.rf y)
        have k8 := hs.told8
        obtain ⟨x', -, e1, -, e3, -⟩ := hs.sl hi hm
        have fin : ∀ v st', fX10_clumsy_63 (nI m) (hX10_clumsy_20 (nI m) n) (oI (clV y m i)) (match clV y m i with | none => -1 | some b => slI y b m) (nI i) v st' = if v ≤ (match clV y m i with | none => -1 | some b => slI y b m) then hX10_clumsy_20 (nI m) n (oI (clV y m i)) (match clV y m i with | none => -1 | some b => slI y b m) (nI (i + 1)) st' else hX10_clumsy_20 (nI m) n (nI i) v (nI (i + 1)) st' := fun v st' => by
          unfold fX10_clumsy_63
          rw [nI_s]
        have body : hX10_clumsy_20 (nI m) (n + 1) (oI (clV y m i)) (match clV y m i with | none => -1 | some b => slI y b m) (nI i) st = if cnb y i m then fX10_clumsy_63 (nI m) (hX10_clumsy_20 (nI m) n) (oI (clV y m i)) (match clV y m i with | none => -1 | some b => slI y b m) (nI i) (slI y i m) x' else fX10_clumsy_63 (nI m) (hX10_clumsy_20 (nI m) n) (oI (clV y m i)) (match clV y m i with | none => -1 | some b => slI y b m) (nI i) (-1) st := by
          show fX10_clumsy_20 _ _ _ _ _ st = _
          unfold fX10_clumsy_20
          rw [gc_p k8, gc_p k8, xT hw hs.xt, if_neg (nle hi (by omega)), Xcan hw hs.xt hi hm, bd]
          dsimp only
          rw [gc_p k8, e1, bd]
          dsimp only
          cases cnb y i m
          · rw [if_pos zero0']; rfl
          · rw [if_neg one0']; rfl
        show ∃ s', hX10_clumsy_20 (nI m) (n + 1) (oI (clV y m i)) (match clV y m i with | none => -1 | some b => slI y b m) (nI i) st = _ ∧ _
        rw [body, fin, fin]
        rw [clV]
        cases hc : cnb y i m
        · rw [if_neg (show ¬ false = true by decide), if_neg (show ¬ false = true by decide)]
          have : (-1 : Int32) ≤ (match clV y m i with | none => -1 | some b => slI y b m) := by
            cases clV y m i with
            | none => exact (by decide : (-1 : Int32) ≤ -1)
            | some b =>
              show -1 ≤ slI y b m
              rw [(sN b).1, Int32.le_iff_toInt_le, nI_toInt (by have := (sN b).2; omega)]
              show (-1 : Int) ≤ _
              omega
          rw [if_pos this]
          exact ⟨(_, _, _, _), rfl, rfl, rfl, rfl, q4⟩
        · rw [if_pos rfl, if_pos rfl]
          cases clV y m i with
          | none =>
            dsimp only
            rw [if_neg (by rw [(sN i).1, Int32.le_iff_toInt_le, nI_toInt (by have := (sN i).2; omega)]; show ¬ (_ ≤ (-1 : Int)); omega)]
            exact ⟨(_, _, _, _), rfl, rfl, rfl, rfl, q4.tr e3⟩
          | some b =>
            dsimp only
            have b1 := (sN i).2
            have b2 := (sN b).2
            by_cases z : vN (slI y b m) < vN (slI y i m)
            · rw [if_pos z, if_neg (by rw [(sN i).1, (sN b).1, nI_le' (by omega) (by omega)]; omega)]
              exact ⟨(_, _, _, _), rfl, rfl, rfl, rfl, q4.tr e3⟩
            · rw [if_neg z, if_pos (by rw [(sN i).1, (sN b).1, nI_le' (by omega) (by omega)]; omega)]
              exact ⟨(_, _, _, _), rfl, rfl, rfl, rfl, q4.tr e3⟩) 0 (-1, -1, 0, x) FU (by omega) ⟨rfl, rfl, rfl, FX.rf x⟩ (FU_gt (by omega))
      obtain ⟨l2, l3, l4, st⟩ := s
      obtain ⟨q1, q2, q3, q4⟩ := hp
      dsimp only at q1 q2 q3 q4
      subst q1 q2 q3
      have hs : Inv st y := Inv_fr h q4 (FY.rf y)
      refine ⟨st, e.trans ?_, q4⟩
      show fX10_clumsy_20 _ _ _ _ _ st = _
      unfold fX10_clumsy_20
      rw [gc_p hs.told8, xT hw hs.xt, if_pos (yle _)]
    have hY : ∃ y', hX11_clumsy_14 (nI m) FU (-1) 0 y = some (oI (clV y m (nT y)), y') ∧ FY y y' := by
      obtain ⟨s, _, e, hp⟩ := lp (fun n (s : Int32 × Int32 × gS) => hX11_clumsy_14 (nI m) n s.1 s.2.1 s.2.2) (nT y) (fun i s => s.1 = oI (clV y m i) ∧ s.2.1 = nI i ∧ FY y s.2.2) (by
        intro n i ⟨l2, l3, st⟩ hi ⟨q1, q2, q3⟩
        dsimp only at q1 q2 q3
        subst q1 q2
        have hs : Inv x st := Inv_fr h (FX.rf x) q3
        have hi2 : i < nT st := by rw [q3.nT]; exact hi
        have hm2 : m < nM st := by rw [q3.nM]; exact hm
        obtain ⟨-, y1, -, e1, -, e2⟩ := hs.sl hi2 hm2
        rw [q3.sl] at e1
        show ∃ s', fX11_clumsy_14 _ (hX11_clumsy_14 _ n) (oI (clV y m i)) (nI i) st = _ ∧ _
        unfold fX11_clumsy_14 fX11_clumsy_53
        rw [eT hs.wf, if_neg (nle hi2 (by rw [q3.nT]; omega)), Ycan hs.wf hi2 hm2, bd]
        dsimp only
        rw [q3.cnb, clV, e1, bd, nI_s]
        dsimp only
        cases hc : cnb y i m
        · rw [if_pos zero0', if_neg (by decide)]
          exact ⟨(_, _, _), rfl, rfl, rfl, q3⟩
        · rw [if_neg one0', if_pos rfl]
          cases hq : clV y m i with
          | none =>
            rw [if_pos (show oI none < 0 by decide)]
            exact ⟨(_, _, _), rfl, rfl, rfl, q3⟩
          | some b =>
            have hb := clV_lt y m i b hq
            have q5 := q3.tr e2
            have hs1 : Inv x y1 := Inv_fr h (FX.rf x) q5
            obtain ⟨-, y2, -, e3, -, e4⟩ := hs1.sl (k := b) (m := m) (by rw [q5.nT]; omega) (by rw [q5.nM]; exact hm)
            rw [q5.sl] at e3
            have b1 := (sN i).2
            have b2 := (sN b).2
            show ∃ s', (if nI b < 0 then _ else (fX11_slipOf (nI b) (nI m) y1).bind fun q => if q.1 < slI y i m then hX11_clumsy_14 (nI m) n (nI i) (nI (i + 1)) q.2 else hX11_clumsy_14 (nI m) n (nI b) (nI (i + 1)) q.2) = _ ∧ _
            rw [if_neg (nI_nn (by omega)), e3, bd]
            dsimp only
            by_cases z : vN (slI y b m) < vN (slI y i m)
            · rw [if_pos z, if_pos (by rw [(sN i).1, (sN b).1, nI_lt' (by omega) (by omega)]; exact z)]
              exact ⟨(_, _, _), rfl, rfl, rfl, q5.tr e4⟩
            · rw [if_neg z, if_neg (by rw [(sN i).1, (sN b).1, nI_lt' (by omega) (by omega)]; exact z)]
              exact ⟨(_, _, _), rfl, rfl, rfl, q5.tr e4⟩) 0 (-1, 0, y) FU (by omega) ⟨rfl, rfl, FY.rf y⟩ (FU_gt (by omega))
      obtain ⟨l2, l3, st⟩ := s
      obtain ⟨q1, q2, q3⟩ := hp
      dsimp only at q1 q2 q3
      subst q1 q2
      have hs : Inv x st := Inv_fr h (FX.rf x) q3
      refine ⟨st, e.trans ?_, q3⟩
      show fX11_clumsy_14 _ _ _ _ st = _
      unfold fX11_clumsy_14
      rw [eT hs.wf, q3.nT, if_pos (yle _)]
    obtain ⟨x', e1, f1⟩ := hX
    obtain ⟨y', e2, f2⟩ := hY
    exact ⟨_, _, _, e1, e2, Inv_fr h f1 f2⟩
  · rw [(isMov h.wf a).2 q, (hasMov x _ a).2 (by rw [h.xt.1.2.2.1]; exact q), bd, bd]
    exact ⟨_, _, _, rfl, rfl, h⟩
