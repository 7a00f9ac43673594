section SS
variable {x0 y0 x y : gS} {t L c w u d k : Nat} {S P : List Nat}
theorem add_eq {n : Nat} {s v : Int32} (h : y.1 0 17 = nI n) (hn : n < 320) : fX11_add s v y = some (wi (wi (wi y 3 n s) 4 n v) 0 17 (nI (n + 1))) := by
  unfold fX11_add
  have e : (wi y 3 (nI n).toNatClampNeg s).1 0 17 = nI n := by rw [wi_1, if_neg (by omega), h]
  have e2 : ∀ j v, (wi (wi y 3 (nI n).toNatClampNeg s) 4 j v).1 0 17 = nI n := fun j v => by rw [wi_1, if_neg (by omega), e]
  rw [h, e, e2, nI_clamp (show n < 2 ^ 31 by omega), gc_p (gI_nI hn (by decide)), gc_p (gI_nI hn (by decide)), nI_s]
/-- one that waits is done by the reference -/
theorem SR_cl {a : Nat} {s v : Int32} {y' : gS} (h : SR x0 y0 t L c S (a :: P) w u d k x y) (hs : stp (cod a) s v) (hy : SY y y') (h0 : ∀ j, 4 ≤ j → j ≤ 8 → y'.1 0 j = y.1 0 j) (h0l : y'.2.1 0 9 = y.2.1 0 9) (e19 : y'.1 0 19 = nI (P ++ S).length) (e7 : ∀ j, y'.1 7 j = y.1 7 j) (e23 : y'.1 0 23 = nI (w + nots P)) (e20 : y'.1 0 20 = y.1 0 20) (e22 : y'.1 0 22 = y.1 0 22) (e3 : ∀ n, y.1 0 17 = nI n → n < 320 → y'.1 0 17 = nI (n + 1) ∧ y'.1 3 n = s ∧ y'.1 4 n = v ∧ ∀ i, i ≠ n → y'.1 3 i = y.1 3 i ∧ y'.1 4 i = y.1 4 i) : SR x0 y0 t L c S P w u d k x y' := by
  obtain ⟨a1, a2, ⟨b1, b2, b3, b4, b5, b6, b7, b8⟩, n, q1, q2, q3, q4⟩ := h
  have hk := a2.2.2.2.2.2.1
  have hl : (a :: P ++ S).length = (P ++ S).length + 1 := rfl
  have hl2 : (a :: P).length = P.length + 1 := rfl
  obtain ⟨f1, f2, f3, f4⟩ := e3 n q2 (by omega)
  refine ⟨a1.go SX.rf hy (fun _ => rfl) (fun _ => rfl) h0 h0l, a2, ⟨e23, e20.trans b2, e22.trans b3, e19, atS_c e7 b5.2, by omega, fun b hb => b7 b (List.mem_cons_of_mem _ hb), b8⟩, n + 1, by omega, f1, fun i hi => ?_, fun i b hb => ?_⟩
  · by_cases e : i = n
    · subst e
      rw [f2, f3]
      have e0 : x.1 (t + 1 + 11 + 1 + 0) i = cod a := q4 0 a rfl
      rw [e0]
      exact hs
    · rw [(f4 i e).1, (f4 i e).2]
      exact q3 i (by omega)
  · have := q4 (i + 1) b hb
    rwa [show n + (i + 1) = n + 1 + i by omega] at this
theorem close1 {a l n : Nat} (h : SR x0 y0 t L c S (a :: P) w u d k x y) (hl : l ≤ ti a) : ∃ y', hX11_close_0 (nI l) (n + 1) y = hX11_close_0 (nI l) n y' ∧ SR x0 y0 t L c S P w u d k x y' := by
  obtain ⟨a1, a2, ⟨b1, b2, b3, b4, b5, b6, b7, b8⟩, n1, q1, q2, q3, q4⟩ := id h
  have hk := a2.2.2.2.2.2.1
  have hlen : (a :: P ++ S).length = (P ++ S).length + 1 := rfl
  have hl2 : (a :: P).length = P.length + 1 := rfl
  have hoa : opA a := b7 a (List.mem_cons_self ..)
  have ha := opA_lt hoa
  have h6 := ti_6 a
  rw [hlen] at b4 b6
  have b50 : y.1 7 (P ++ S).length = nI a := b5.1
  generalize hN : (P ++ S).length = N at *
  have e1 : y.1 0 19 - 1 = nI N := by rw [b4]; exact pk_sub (a := N + 1) (b := 1) (by omega)
  have e0 : ¬ y.1 0 19 ≤ 0 := by rw [b4]; exact fun q => by have := (nI_le' (b := 0) (by omega) (by decide)).mp q; omega
  have n20 : ¬ nI a = 20 := fun q => opA_20 hoa ((nI_inj (b := 20) (by omega) (by decide)).mp q)
  have nlt : ¬ nI (ti a) < nI l := fun q => by have := (nI_lt' (by omega) (by omega)).mp q; omega
  have w1 : (wi y 0 19 (nI N)).1 0 19 = nI N := by rw [wi_1, if_pos ⟨rfl, rfl⟩]
  have w2 : (wi y 0 19 (nI N)).1 7 N = nI a := by rw [wi_1, if_neg (by omega), b50]
  have w3 : (wi y 0 19 (nI N)).1 0 17 = nI n1 := by rw [wi_1, if_neg (by omega), q2]
  have hcl : (nI N).toNatClampNeg = N := nI_clamp (by omega)
  have gi : gI (nI N) 160 := gI_nI (by omega) (by decide)
  show ∃ y', fX11_close_0 (nI l) (hX11_close_0 (nI l) n) y = _ ∧ _
  unfold fX11_close_0
  rw [if_neg e0, e1, gc_p gi, hcl, b50, if_neg n20, gc_p gi, tight_sp (.inr hoa), bd]
  dsimp only
  rw [if_neg nlt, e1, w1, gc_p gi, hcl, w2]
  by_cases z : a = 21
  · subst z
    rw [if_pos (show nI 21 = 21 from rfl), add_eq w3 (by omega), bd]
    refine ⟨_, rfl, SR_cl h stp_21 ?_ (fun j j1 j2 => ?_) rfl ?_ (fun j => ?_) ?_ ?_ ?_ (fun n' hn' hn2 => ?_)⟩
    · exact (SY_wi (by omega)).tr ((SY_wi (by omega)).tr ((SY_wi (by omega)).tr ((SY_wi (by omega)).tr (SY_wi (by omega)))))
    · rw [wi_1, if_neg (by omega), wi_1, if_neg (by omega), wi_1, if_neg (by omega), wi_1, if_neg (by omega), wi_1, if_neg (by omega)]
    · rw [wi_1, if_neg (by omega), wi_1, if_neg (by omega), wi_1, if_neg (by omega), wi_1, if_neg (by omega), wi_1, if_pos ⟨rfl, rfl⟩, hN]
    · rw [wi_1, if_neg (by omega), wi_1, if_neg (by omega), wi_1, if_neg (by omega), wi_1, if_neg (by omega), wi_1, if_neg (by omega)]
    · rw [wi_1, if_pos ⟨rfl, rfl⟩, wi_1, if_neg (by omega), wi_1, if_neg (by omega), wi_1, if_neg (by omega), wi_1, if_neg (by omega), b1]
      have : w + nots (21 :: P) = w + nots P + 1 := by
        show w + (1 + nots P) = _
        omega
      rw [this]
      exact pk_sub (a := w + nots P + 1) (b := 1) (by omega)
    · rw [wi_1, if_neg (by omega), wi_1, if_neg (by omega), wi_1, if_neg (by omega), wi_1, if_neg (by omega), wi_1, if_neg (by omega)]
    · rw [wi_1, if_neg (by omega), wi_1, if_neg (by omega), wi_1, if_neg (by omega), wi_1, if_neg (by omega), wi_1, if_neg (by omega)]
    · have en : n' = n1 := (nI_inj (by omega) (by omega)).mp (hn'.symm.trans q2)
      subst en
      refine ⟨?_, ?_, ?_, fun i hi => ⟨?_, ?_⟩⟩
      · rw [wi_1, if_neg (by omega), wi_1, if_pos ⟨rfl, rfl⟩]
      · rw [wi_1, if_neg (by omega), wi_1, if_neg (by omega), wi_1, if_neg (by omega), wi_1, if_pos ⟨rfl, rfl⟩]
      · rw [wi_1, if_neg (by omega), wi_1, if_neg (by omega), wi_1, if_pos ⟨rfl, rfl⟩]
      · rw [wi_1, if_neg (by omega), wi_1, if_neg (by omega), wi_1, if_neg (by omega), wi_1, if_neg (by omega), wi_1, if_neg (by omega)]
      · rw [wi_1, if_neg (by omega), wi_1, if_neg (by omega), wi_1, if_neg (by omega), wi_1, if_neg (by omega), wi_1, if_neg (by omega)]
  · have n21 : ¬ nI a = 21 := fun q => z ((nI_inj (b := 21) (by omega) (by decide)).mp q)
    have hob : opB a := hoa.resolve_left z
    rw [if_neg n21, gc_p gi, add_eq w3 (by omega), bd]
    refine ⟨_, rfl, SR_cl h (stp_B hob) ?_ (fun j j1 j2 => ?_) rfl ?_ (fun j => ?_) ?_ ?_ ?_ (fun n' hn' hn2 => ?_)⟩
    · exact (SY_wi (by omega)).tr ((SY_wi (by omega)).tr ((SY_wi (by omega)).tr (SY_wi (by omega))))
    · rw [wi_1, if_neg (by omega), wi_1, if_neg (by omega), wi_1, if_neg (by omega), wi_1, if_neg (by omega)]
    · rw [wi_1, if_neg (by omega), wi_1, if_neg (by omega), wi_1, if_neg (by omega), wi_1, if_pos ⟨rfl, rfl⟩, hN]
    · rw [wi_1, if_neg (by omega), wi_1, if_neg (by omega), wi_1, if_neg (by omega), wi_1, if_neg (by omega)]
    · rw [wi_1, if_neg (by omega), wi_1, if_neg (by omega), wi_1, if_neg (by omega), wi_1, if_neg (by omega), b1]
      have : w + nots (a :: P) = w + nots P := by
        show w + ((if a = 21 then 1 else 0) + nots P) = _
        rw [if_neg z]; omega
      rw [this]
    · rw [wi_1, if_neg (by omega), wi_1, if_neg (by omega), wi_1, if_neg (by omega), wi_1, if_neg (by omega)]
    · rw [wi_1, if_neg (by omega), wi_1, if_neg (by omega), wi_1, if_neg (by omega), wi_1, if_neg (by omega)]
    · have en : n' = n1 := (nI_inj (by omega) (by omega)).mp (hn'.symm.trans q2)
      subst en
      refine ⟨?_, ?_, ?_, fun i hi => ⟨?_, ?_⟩⟩
      · rw [wi_1, if_pos ⟨rfl, rfl⟩]
      · rw [wi_1, if_neg (by omega), wi_1, if_neg (by omega), wi_1, if_pos ⟨rfl, rfl⟩]
      · rw [wi_1, if_neg (by omega), wi_1, if_pos ⟨rfl, rfl⟩]
      · rw [wi_1, if_neg (by omega), wi_1, if_neg (by omega), wi_1, if_neg (by omega), wi_1, if_neg (by omega)]
      · rw [wi_1, if_neg (by omega), wi_1, if_neg (by omega), wi_1, if_neg (by omega), wi_1, if_neg (by omega)]
/-- all that waits as tightly at least is done -/
theorem close_sp {l : Nat} (hl7 : l ≤ 6) : ∀ {P : List Nat} {y : gS} {n : Nat}, SR x0 y0 t L c S P w u d k x y → (∀ a, a ∈ P → l ≤ ti a) → low l S → P.length < n → ∃ y', hX11_close_0 (nI l) n y = some y' ∧ SR x0 y0 t L c S [] w u d k x y' := by
  intro P
  induction P with
  | nil =>
    intro y n h _ hS hn
    obtain ⟨n, rfl⟩ : ∃ j, n = j + 1 := ⟨n - 1, by have : (0 : Nat) < n := hn; omega⟩
    refine ⟨y, ?_, h⟩
    obtain ⟨-, -, ⟨b1, b2, b3, b4, b5, b6, b7, b8⟩, -⟩ := h
    show fX11_close_0 (nI l) (hX11_close_0 (nI l) n) y = _
    unfold fX11_close_0
    cases S with
    | nil =>
      rw [b4]
      exact if_pos le0
    | cons a S =>
      have b4 : y.1 0 19 = nI (S.length + 1) := b4
      have b6 : S.length + 1 ≤ 70 := b6
      have b50 : y.1 7 S.length = nI a := b5.1
      have hoa : a = 20 ∨ opA a := b8 a (List.mem_cons_self ..)
      have ha : a < 125 := by
        rcases hoa with q | q
        · omega
        · exact opA_lt q
      have h6 := ti_6 a
      have e1 : y.1 0 19 - 1 = nI S.length := by rw [b4]; exact pk_sub (a := S.length + 1) (b := 1) (by omega)
      have e0 : ¬ y.1 0 19 ≤ 0 := by rw [b4]; exact fun q => by have := (nI_le' (b := 0) (by omega) (by decide)).mp q; omega
      have gi : gI (nI S.length) 160 := gI_nI (by omega) (by decide)
      rw [if_neg e0, e1, gc_p gi, nI_clamp (show S.length < 2 ^ 31 by omega), b50]
      by_cases z : a = 20
      · rw [if_pos (by rw [z]; rfl)]
      · rw [if_neg (show ¬ nI a = 20 from fun q => z ((nI_inj (b := 20) (by omega) (by decide)).mp q)), gc_p gi, tight_sp hoa, bd]
        dsimp only
        rw [if_pos ((nI_lt' (by omega) (by omega)).mpr (hS.resolve_left z))]
  | cons a P ih =>
    intro y n h hP hS hn
    have hn : P.length + 1 < n := hn
    obtain ⟨n, rfl⟩ : ∃ j, n = j + 1 := ⟨n - 1, by omega⟩
    obtain ⟨y1, e1, h1⟩ := close1 (n := n) h (hP a (List.mem_cons_self ..))
    obtain ⟨y2, e2, h2⟩ := ih (n := n) h1 (fun b hb => hP b (List.mem_cons_of_mem _ hb)) hS (by omega)
    exact ⟨y2, e1.trans e2, h2⟩
theorem SR_len (h : SR x0 y0 t L c S P w u d k x y) : (P ++ S).length ≤ 70 := h.2.2.1.2.2.2.2.2.1
theorem close_all {l : Nat} (h : SR x0 y0 t L c S P w u d k x y) (hl7 : l ≤ 6) (hP : ∀ a, a ∈ P → l ≤ ti a) (hS : low l S) : ∃ y', fX11_close (nI l) y = some y' ∧ SR x0 y0 t L c S [] w u d k x y' := by
  have hl := SR_len h
  rw [List.length_append] at hl
  exact close_sp hl7 h hP hS (FU_gt (by omega))
/-- one more waits -/
theorem SR_up {x' y' : gS} {w' u' a : Nat} (h : SR x0 y0 t L c S [] w u d k x y) (hx : SX t x x') (hy : SY y y') (h19 : ∀ j, x'.1 19 j = x.1 19 j) (h19l : ∀ j, x'.2.1 19 j = x.2.1 19 j) (h0 : ∀ j, 4 ≤ j → j ≤ 8 → y'.1 0 j = y.1 0 j) (h0l : y'.2.1 0 9 = y.2.1 0 9)
    (ha : a = 20 ∨ opA a) (hS : S.length < 70) (w1 : x'.1 3 4 = nI w') (w2 : w' ≤ 7) (w3 : y'.1 0 23 = nI w') (u1 : x'.1 (t + 1 + 11) 3 = nI u') (u2 : u ≤ u') (u5 : u' ≤ 30) (u3 : y'.1 0 20 = nI u') (u4 : y'.1 0 22 = nI u') (k1 : x'.1 (t + 1 + 11) 2 = x.1 (t + 1 + 11) 2) (k2 : ∀ j, x'.1 (t + 1 + 11 + 1 + 0) j = x.1 (t + 1 + 11 + 1 + 0) j)
    (s1 : y'.1 0 19 = nI (S.length + 1)) (s2 : ∀ j, y'.1 7 j = if j = S.length then nI a else y.1 7 j) (s3 : y'.1 0 17 = y.1 0 17) (s4 : ∀ j, y'.1 3 j = y.1 3 j ∧ y'.1 4 j = y.1 4 j) : SR x0 y0 t L c (a :: S) [] w' u' d k x' y' := by
  obtain ⟨a1, a2, ⟨b1, b2, b3, b4, b5, b6, b7, b8⟩, n, q1, q2, q3, q4⟩ := h
  have ek : x'.1 (t + 1 + 11 + 1 + 0) = x.1 (t + 1 + 11 + 1 + 0) := funext k2
  obtain ⟨c1, c2, c3, c4, c5, c6, c7, c8, c9⟩ := a2
  refine ⟨a1.go hx hy h19 h19l h0 h0l, ⟨w1, w2, u1, u5, k1.trans c5, c6, by rw [ek]; exact c7, by omega, by rw [ek]; exact c9⟩, ⟨w3, u3, u4, s1, ⟨?_, ?_⟩, ?_, fun b hb => absurd hb (List.not_mem_nil), fun b hb => ?_⟩, n, q1, s3.trans q2, fun i hi => ?_, fun i b hb => ?_⟩
  · rw [s2, if_pos rfl]
  · have g : ∀ l : List Nat, l.length ≤ S.length → atS y l → atS y' l := by
      intro l
      induction l with
      | nil => exact fun _ q => q
      | cons b l ih =>
        intro hl q
        have hl : l.length + 1 ≤ S.length := hl
        exact ⟨by rw [s2, if_neg (by omega)]; exact q.1, ih (by omega) q.2⟩
    exact g S (Nat.le_refl _) b5
  · show S.length + 1 ≤ 70
    omega
  · rcases List.mem_cons.mp hb with e | e
    · rw [e]; exact ha
    · exact b8 b e
  · rw [ek, (s4 i).1, (s4 i).2]; exact q3 i hi
  · rw [ek]; exact q4 i b hb
/-- the class has the step done that waits for the reference -/
theorem SR_j {x' : gS} {a w1 d1 : Nat} (h : SR x0 y0 t L c (a :: S) P w1 u d1 k x y) (ha : opA a) (hk : k < 271) (hx : SX t x x') (h19 : ∀ j, x'.1 19 j = x.1 19 j) (h19l : ∀ j, x'.2.1 19 j = x.2.1 19 j) (hw : x'.1 3 4 = nI w) (hw1 : w + (if a = 21 then 1 else 0) = w1) (hu : x'.1 (t + 1 + 11) 3 = x.1 (t + 1 + 11) 3) (h2 : x'.1 (t + 1 + 11) 2 = nI (k + 1)) (hs : ∀ j, x'.1 (t + 1 + 11 + 1 + 0) j = if j = k then cod a else x.1 (t + 1 + 11 + 1 + 0) j) (hd : (kdv (cod a) = 3 ∧ 2 ≤ d1 ∧ d = d1 - 1) ∨ (kdv (cod a) = 2 ∧ 1 ≤ d1 ∧ d = d1)) : SR x0 y0 t L c S (P ++ [a]) w u d (k + 1) x' y := by
  obtain ⟨a1, ⟨c1, c2, c3, c4, c5, c6, c7, c8, c9⟩, ⟨b1, b2, b3, b4, b5, b6, b7, b8⟩, n, q1, q2, q3, q4⟩ := h
  have eL : (P ++ [a]) ++ S = P ++ (a :: S) := by rw [List.append_assoc]; rfl
  have hN : nots (P ++ [a]) = nots P + (if a = 21 then 1 else 0) := by
    clear q4 q1 b7 b5 b4 b1 b6 eL
    induction P with
    | nil => show (if a = 21 then 1 else 0) + 0 = 0 + _; omega
    | cons b P ih => show (if b = 21 then 1 else 0) + nots (P ++ [a]) = (if b = 21 then 1 else 0) + nots P + _; rw [ih]; omega
  have hpre : ∀ i, i ≤ k → dxx (x'.1 (t + 1 + 11 + 1 + 0)) i = dxx (x.1 (t + 1 + 11 + 1 + 0)) i := fun i hi => dxx_c fun j hj => by rw [hs, if_neg (by omega)]
  have hnew : dxx (x'.1 (t + 1 + 11 + 1 + 0)) (k + 1) = some d := by
    show (dxx (x'.1 (t + 1 + 11 + 1 + 0)) k).bind _ = _
    rw [hpre k (Nat.le_refl _), c7, bd, hs, if_pos rfl]
    rcases hd with ⟨z1, z2, z3⟩ | ⟨z1, z2, z3⟩
    · rw [z1, if_neg (show ¬ (3 : Nat) = 0 by decide), if_neg (show ¬ (3 : Nat) = 2 by decide), if_pos z2, z3]
    · rw [z1, if_neg (show ¬ (2 : Nat) = 0 by decide), if_pos (show (2 : Nat) = 2 from rfl), if_pos z2, z3]
  refine ⟨a1.go hx SY.rf h19 h19l (fun _ _ _ => rfl) rfl, ⟨hw, by omega, hu.trans c3, c4, h2, by omega, hnew, by omega, fun i hi => ?_⟩, ⟨?_, b2, b3, by rw [eL]; exact b4, by rw [eL]; exact b5, by rw [eL]; exact b6, fun b hb => ?_, fun b hb => b8 b (List.mem_cons_of_mem _ hb)⟩, n, ?_, q2, fun i hi => ?_, fun i b hb => ?_⟩
  · by_cases e : i = k + 1
    · rw [e]; exact ⟨d, hnew, by omega⟩
    · rw [hpre i (by omega)]; exact c9 i (by omega)
  · rw [b1, hN, ← hw1]
    congr 1
    omega
  · rcases List.mem_append.mp hb with e | e
    · exact b7 b e
    · rw [List.mem_singleton.mp e]; exact ha
  · rw [List.length_append]
    show k + 1 = n + (P.length + 1)
    omega
  · rw [hs, if_neg (by omega)]; exact q3 i hi
  · rw [hs]
    by_cases e : i = P.length
    · rw [if_pos (by omega)]
      rw [e, List.getElem?_append_right (Nat.le_refl _), Nat.sub_self] at hb
      rw [← Option.some.inj hb]
    · have hi : i < P.length := by
        have := (List.getElem?_eq_some_iff.mp hb).1
        rw [List.length_append] at this
        have : i < P.length + 1 := this
        omega
      rw [List.getElem?_append_left hi] at hb
      rw [if_neg (by omega)]
      exact q4 i b hb
theorem addS_eq {f : Nat} {v : Int32} (h : x.1 f 2 = nI k) (hk : k < 272) : fX0_addStep f v x = some (wi (wi x (f + 1 + 0) k (v ^^^ (-1))) f 2 (nI (k + 1))) := by
  unfold fX0_addStep fX0_add
  rw [h, if_neg (show ¬ 272 ≤ nI k from fun q => by have := (nI_le' (a := 272) (by decide) (by omega)).mp q; omega), gc_p (gI_nI hk (by decide)), nI_clamp (by omega), bd, show (wi x (f + 1 + 0) k (v ^^^ (-1))).1 f 2 = nI k by rw [wi_1, if_neg (by omega), h], nI_s]
/-- what the class's kind of a sign is for the reference -/
def isOp (v : Int32) (a : Nat) : Prop := (v = 13 ∧ a = 124) ∨ (v = 14 ∧ a = 38) ∨ (v = nI a ∧ (a = 60 ∨ a = 62 ∨ a = 61 ∨ a = 43 ∨ a = 45 ∨ a = 42 ∨ a = 47 ∨ a = 37))
theorem isOp_B {v : Int32} {a : Nat} (h : isOp v a) : opB a := by
  unfold isOp at h
  unfold opB
  omega
theorem isOp_c {v : Int32} {a : Nat} (h : isOp v a) : v ^^^ (-1) = cod a := by
  rcases h with ⟨h1, h2⟩ | ⟨h1, h2⟩ | ⟨h1, h2⟩
  · subst h1 h2; decide
  · subst h1 h2; decide
  · rcases h2 with h2 | h2 | h2 | h2 | h2 | h2 | h2 | h2 <;> subst h1 h2 <;> decide
theorem SR_join {a : Nat} {v : Int32} (h : SR x0 y0 t L c (a :: S) P w u (d + 2) k x y) (ha : isOp v a) (hk : k < 271) : ∃ x', fX0_addStep (t + 1 + 11) v x = some x' ∧ SR x0 y0 t L c S (P ++ [a]) w u (d + 1) (k + 1) x' y := by
  have hc := h.2.1
  have ht := h.1.2.2.2.2.2
  have hob := isOp_B ha
  refine ⟨_, addS_eq hc.2.2.2.2.1 (by omega), ?_⟩
  rw [isOp_c ha]
  refine SR_j h (.inr hob) hk ((SX_wi (by omega)).tr (SX_wi (by omega))) (fun j => ?_) (fun _ => rfl) ?_ ?_ ?_ ?_ (fun j => ?_) (.inl ⟨kdv_B hob, by omega, by omega⟩)
  · rw [wi_1, if_neg (by omega), wi_1, if_neg (by omega)]
  · rw [wi_1, if_neg (by omega), wi_1, if_neg (by omega)]; exact hc.1
  · rw [if_neg (opB_21 hob)]; rfl
  · rw [wi_1, if_neg (by omega), wi_1, if_neg (by omega)]
  · rw [wi_1, if_pos ⟨rfl, rfl⟩]
  · rw [wi_1, if_neg (by omega), wi_1]
    by_cases e : j = k
    · rw [if_pos ⟨rfl, e⟩, if_pos e]
    · rw [if_neg (fun q => e q.2), if_neg e]
theorem SR_not (h : SR x0 y0 t L c (21 :: S) P (w + 1) u (d + 1) k x y) (hk : k < 271) : ∃ x', fX0_addStep (t + 1 + 11) 15 (wi x 3 4 (nI w)) = some x' ∧ SR x0 y0 t L c S (P ++ [21]) w u (d + 1) (k + 1) x' y := by
  have hc := h.2.1
  have ht := h.1.2.2.2.2.2
  refine ⟨_, addS_eq (x := wi x 3 4 (nI w)) (k := k) (by rw [wi_1, if_neg (by omega)]; exact hc.2.2.2.2.1) (by omega), ?_⟩
  rw [show (15 : Int32) ^^^ (-1) = cod 21 by decide]
  refine SR_j h (.inl rfl) hk ((SX_wi (by omega)).tr ((SX_wi (by omega)).tr (SX_wi (by omega)))) (fun j => ?_) (fun _ => rfl) ?_ ?_ ?_ ?_ (fun j => ?_) (.inr ⟨kdv_21, by omega, rfl⟩)
  · rw [wi_1, if_neg (by omega), wi_1, if_neg (by omega), wi_1, if_neg (by omega)]
  · rw [wi_1, if_neg (by omega), wi_1, if_neg (by omega), wi_1, if_pos ⟨rfl, rfl⟩]
  · rfl
  · rw [wi_1, if_neg (by omega), wi_1, if_neg (by omega), wi_1, if_neg (by omega)]
  · rw [wi_1, if_pos ⟨rfl, rfl⟩]
  · rw [wi_1, if_neg (by omega), wi_1]
    by_cases e : j = k
    · rw [if_pos ⟨rfl, e⟩, if_pos e]
    · rw [if_neg (fun q => e q.2), if_neg e, wi_1, if_neg (by omega)]
end SS
