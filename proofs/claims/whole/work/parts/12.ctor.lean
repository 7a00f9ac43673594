def gnM : List (String × Nat × MethodName × String) := [(RX10, 9, yX6_init, "CradleTreaty"), (RX4, 11, yX8_init, "CradleTreaty"), (RX8, 48, yX0_init, "CradleTreaty"), (RX10, 27, yX5_init, "CradleTreaty"), (RX1, 22, yX5_init, "CradleTreaty"), (RX10, 49, yX9_init, "CradleTreaty"), (RX10, 56, yX3_init, "CradleTreaty"), (RX10, 63, yX2_init, "CradleTreaty"), (RX10, 70, yX8_init, "CradleTreaty")]
theorem ca_congr {c : ClassId} {N : Nat} {f g : Nat → Value} (h : ∀ i, i < N → f i = g i) : arrV c N f = arrV c N g := by
  unfold arrV
  congr 2
  funext j
  exact h j.val j.isLt
/-! ===== constructors: the world grows cell by cell, at addresses one behind the other; nl: which references are still null ===== -/
abbrev gC : Type := gS × (Nat → Nat → Bool)
def cz (cs : gC) (n : Nat) : gC := ((fun a => if a = n then fun _ => 0 else cs.1.1 a, fun a => if a = n then fun _ => 0 else cs.1.2.1 a, cs.1.2.2), fun a => if a = n then fun _ => true else cs.2 a)
def ci (cs : gC) (k j : Nat) (v : Int32) : gC := (wi cs.1 k j v, cs.2)
def cl (cs : gC) (k j : Nat) (v : Int64) : gC := (wl cs.1 k j v, cs.2)
/-- the static reference of k's field j is there -/
def cr (cs : gC) (k j : Nat) : gC := (cs.1, fun a => if a = k then fun i => if i = j then false else cs.2 a i else cs.2 a)
/-- the moving one -/
def cq (cs : gC) (k j v : Nat) : gC := (wr cs.1 k j v, (cr cs k j).2)
/-- a new int[n][..] at k: its rows are cells of their own -/
def czs (cs : gC) : Nat → Nat → gC
  | _, 0 => cs
  | n, i + 1 => cz (czs cs n i) (n + i)
def cg (cs : gC) (k N : Nat) : gC := let c := czs (cz cs k) (k + 1) N; (c.1, fun a => if a = k then fun _ => false else c.2 a)
def cV (w : Nat) (ad : Nat → Nat) (cs : gC) (k c j : Nat) : Value :=
  if gF c j = 0 then .int (cs.1.1 k j) else if gF c j = 1 then .long (cs.1.2.1 k j) else if cs.2 k j = true then .null else if gF c j = 2 then .ref (ad (gR w c k j)) else .ref (ad (cs.1.2.2 k j))
def cE (w : Nat) (cA : Nat → ClassId) (ad : Nat → Nat) (cs : gC) (k : Nat) : va_E :=
  if gK w k < 20 then .inr (gK w k, (List.range (gft.getD (gK w k) []).length).map (cV w ad cs k (gK w k)))
  else if gK w k < 23 then .inl (cA (gK w k), gN w k, .inl (cs.1.1 k))
  else if gK w k = 23 then .inl (cA 23, gN w k, .inr (.inl (cs.1.2.1 k)))
  else if gK w k = 24 then .inl (cA 24, gN w k, .inr (.inr (.inr (.inr (fun i => if cs.2 k i = true then none else some (ad (cs.1.2.2 k i)))))))
  else .inl (cA 25, gN w k, .inr (.inr (.inr (.inr (fun i => if i < gN w k then some (ad (k + 1 + i)) else none)))))
def cW (w n : Nat) (cA : Nat → ClassId) (ad : Nat → Nat) (cs : gC) : va_W := (List.range n).map (fun k => (ad k, cE w cA ad cs k))
def cP (w n : Nat) (D : va_G) (cA : Nat → ClassId) (ad : Nat → Nat) (cs : gC) (H : Heap) : Prop := va_P D vwCl (cW w n cA ad cs) H ∧ H.size = ad n
/-- the addresses: from B on, one behind the other -/
def cAd (w B : Nat) (ad : Nat → Nat) : Prop := ∀ k, k ≤ gNC w → ad k = B + k
def cB (B : Nat) : Nat → Prop := fun q => B ≤ q
theorem cW_at {w n k : Nat} {cA : Nat → ClassId} {ad : Nat → Nat} {cs : gC} (h : k < n) : (cW w n cA ad cs)[k]? = some (ad k, cE w cA ad cs k) := by
  simp [cW, List.getElem?_map, List.getElem?_range, h]
theorem cW_none {w n k : Nat} {cA : Nat → ClassId} {ad : Nat → Nat} {cs : gC} (h : n ≤ k) : (cW w n cA ad cs)[k]? = none := List.getElem?_eq_none (by simp [cW]; exact h)
theorem cW_D {w n B : Nat} {cA : Nat → ClassId} {ad : Nat → Nat} {cs : gC} (A : cAd w B ad) (hn : n ≤ gNC w) : va_D (cB B) (cW w n cA ad cs) := by
  have lt : ∀ (i : Nat) (x : Nat × va_E), (cW w n cA ad cs)[i]? = some x → i < n ∧ x.1 = ad i := by
    intro i x h
    rcases Nat.lt_or_ge i n with q | q
    · rw [cW_at q] at h
      cases h
      exact ⟨q, rfl⟩
    · rw [cW_none q] at h
      cases h
  refine ⟨fun i j x y hi hj e => ?_, fun i x hi => ?_⟩
  · obtain ⟨a1, a2⟩ := lt i x hi
    obtain ⟨b1, b2⟩ := lt j y hj
    rw [a2, b2, A i (by omega), A j (by omega)] at e
    omega
  · obtain ⟨a1, a2⟩ := lt i x hi
    show B ≤ x.1
    rw [a2, A i (by omega)]
    omega
theorem cW_set {w n k : Nat} {cA : Nat → ClassId} {ad : Nat → Nat} {cs cs' : gC} {e : va_E} (h1 : cE w cA ad cs' k = e) (h2 : ∀ i, i ≠ k → cE w cA ad cs' i = cE w cA ad cs i) : (cW w n cA ad cs).set k (ad k, e) = cW w n cA ad cs' := by
  apply List.ext_getElem?
  intro i
  rcases Nat.lt_or_ge i n with hi | hi
  · rw [cW_at hi]
    by_cases hik : i = k
    · subst hik
      rw [List.getElem?_set_self (by simp [cW]; exact hi), h1]
    · rw [List.getElem?_set_ne (Ne.symm hik), cW_at hi, h2 i hik]
  · rw [cW_none hi, List.getElem?_eq_none (by simp [cW]; exact hi)]
theorem cW_push {w n : Nat} {cA : Nat → ClassId} {ad : Nat → Nat} {cs cs' : gC} (h2 : ∀ i, i < n → cE w cA ad cs' i = cE w cA ad cs i) : cW w (n + 1) cA ad cs' = cW w n cA ad cs ++ [(ad n, cE w cA ad cs' n)] := by
  unfold cW
  rw [List.range_succ, List.map_append]
  congr 1
  apply List.map_congr_left
  intro i hi
  rw [h2 i (List.mem_range.mp hi)]
theorem cE_congr {w k : Nat} {cA : Nat → ClassId} {ad : Nat → Nat} {cs cs' : gC} (h1 : cs'.1.1 k = cs.1.1 k) (h2 : cs'.1.2.1 k = cs.1.2.1 k) (h3 : cs'.1.2.2 k = cs.1.2.2 k) (h4 : cs'.2 k = cs.2 k) : cE w cA ad cs' k = cE w cA ad cs k := by
  have e : cV w ad cs' k = cV w ad cs k := by
    funext c q
    unfold cV
    rw [h1, h2, h3, h4]
  unfold cE
  rw [e, h1, h2, h3, h4]
theorem cz_ne {w n i : Nat} {cA : Nat → ClassId} {ad : Nat → Nat} {cs : gC} (h : i ≠ n) : cE w cA ad (cz cs n) i = cE w cA ad cs i := cE_congr (if_neg h) (if_neg h) rfl (if_neg h)
theorem ci_ne {w k j i : Nat} {cA : Nat → ClassId} {ad : Nat → Nat} {cs : gC} {v : Int32} (h : i ≠ k) : cE w cA ad (ci cs k j v) i = cE w cA ad cs i := cE_congr (if_neg h) rfl rfl rfl
theorem cl_ne {w k j i : Nat} {cA : Nat → ClassId} {ad : Nat → Nat} {cs : gC} {v : Int64} (h : i ≠ k) : cE w cA ad (cl cs k j v) i = cE w cA ad cs i := cE_congr rfl (if_neg h) rfl rfl
theorem cr_ne {w k j i : Nat} {cA : Nat → ClassId} {ad : Nat → Nat} {cs : gC} (h : i ≠ k) : cE w cA ad (cr cs k j) i = cE w cA ad cs i := cE_congr rfl rfl rfl (if_neg h)
theorem cq_ne {w k j v i : Nat} {cA : Nat → ClassId} {ad : Nat → Nat} {cs : gC} (h : i ≠ k) : cE w cA ad (cq cs k j v) i = cE w cA ad cs i := cE_congr rfl rfl (if_neg h) (if_neg h)
theorem czs_ne {n i : Nat} {cs : gC} : ∀ N, (i < n ∨ n + N ≤ i) → (czs cs n N).1.1 i = cs.1.1 i ∧ (czs cs n N).1.2.1 i = cs.1.2.1 i ∧ (czs cs n N).1.2.2 i = cs.1.2.2 i ∧ (czs cs n N).2 i = cs.2 i
  | 0, _ => ⟨rfl, rfl, rfl, rfl⟩
  | N + 1, h => by
    obtain ⟨a, b, c, d⟩ := czs_ne (n := n) (i := i) (cs := cs) N (by omega)
    have hne : i ≠ n + N := by omega
    exact ⟨(if_neg hne).trans a, (if_neg hne).trans b, c, (if_neg hne).trans d⟩
theorem czs_in {n i : Nat} {cs : gC} : ∀ N, n ≤ i → i < n + N → (czs cs n N).1.1 i = (fun _ => 0)
  | 0, h, h2 => absurd h2 (by omega)
  | N + 1, h, h2 => by
    by_cases e : i = n + N
    · exact if_pos e
    · exact (if_neg e).trans (czs_in (n := n) (i := i) (cs := cs) N h (by omega))
theorem cV_set {w k c j N : Nat} {ad : Nat → Nat} {cs cs' : gC} {v : Value} (h1 : cV w ad cs' k c j = v) (h2 : ∀ i, i ≠ j → cV w ad cs' k c i = cV w ad cs k c i) : ((List.range N).map (cV w ad cs k c)).set j v = (List.range N).map (cV w ad cs' k c) := by
  apply List.ext_getElem?
  intro i
  rcases Nat.lt_or_ge i N with hi | hi
  · by_cases hij : i = j
    · subst hij
      rw [List.getElem?_set_self (by simp; exact hi)]
      simp [List.getElem?_map, List.getElem?_range, hi, h1]
    · rw [List.getElem?_set_ne (Ne.symm hij)]
      simp [List.getElem?_map, List.getElem?_range, hi, h2 i hij]
  · rw [List.getElem?_eq_none (by simp; exact hi), List.getElem?_eq_none (by simp; exact hi)]
theorem cE_obj {w k c : Nat} {cA : Nat → ClassId} {ad : Nat → Nat} {cs : gC} (h : gK w k = c) (hc : c < 20) : cE w cA ad cs k = .inr (c, (List.range (gft.getD c []).length).map (cV w ad cs k c)) := by
  unfold cE
  rw [h, if_pos hc]
theorem cE_arr {w k c n : Nat} {cA : Nat → ClassId} {ad : Nat → Nat} {cs : gC} (h : gK w k = c) (hn : gN w k = n) (h1 : 20 ≤ c) (h2 : c < 23) : cE w cA ad cs k = .inl (cA c, n, .inl (cs.1.1 k)) := by
  unfold cE
  rw [h, hn, if_neg (by omega), if_pos h2]
theorem cE_arl {w k n : Nat} {cA : Nat → ClassId} {ad : Nat → Nat} {cs : gC} (h : gK w k = 23) (hn : gN w k = n) : cE w cA ad cs k = .inl (cA 23, n, .inr (.inl (cs.1.2.1 k))) := by
  unfold cE
  rw [h, hn]
  rfl
theorem cE_arq {w k n : Nat} {cA : Nat → ClassId} {ad : Nat → Nat} {cs : gC} (h : gK w k = 24) (hn : gN w k = n) : cE w cA ad cs k = .inl (cA 24, n, .inr (.inr (.inr (.inr (fun i => if cs.2 k i = true then none else some (ad (cs.1.2.2 k i))))))) := by
  unfold cE
  rw [h, hn]
  rfl
theorem cE_arg {w k n : Nat} {cA : Nat → ClassId} {ad : Nat → Nat} {cs : gC} (h : gK w k = 25) (hn : gN w k = n) : cE w cA ad cs k = .inl (cA 25, n, .inr (.inr (.inr (.inr (fun i => if i < n then some (ad (k + 1 + i)) else none))))) := by
  unfold cE
  rw [h, hn]
  rfl
/-- a whole world: nothing is null any more -/
theorem cW_done {w : Nat} {cA : Nat → ClassId} {ad : Nat → Nat} {cs : gC} {H : Heap} {D : va_G} (h : ∀ k, k < gNC w → gK w k < 20 → ∀ j, j < (gft.getD (gK w k) []).length → 2 ≤ gF (gK w k) j → cs.2 k j = false) (hP : va_P D vwCl (cW w (gNC w) cA ad cs) H)
    (hq : ∀ k, k < gNC w → gK w k = 24 → ∀ i, i < gN w k → cs.2 k i = false) : gP0 w D cA ad cs.1 H := by
  intro k q hk
  have hkl : k < gNC w := by
    rcases Nat.lt_or_ge k (gNC w) with x | x
    · exact x
    · rw [List.getElem?_eq_none (by simp [gW]; exact x)] at hk
      cases hk
  rw [gW_at hkl] at hk
  cases hk
  have h0 := hP k _ (cW_at hkl)
  have key : gK w k < 24 → cE w cA ad cs k = gE w cA ad cs.1 k := by
    intro n24
    unfold cE gE
    by_cases c20 : gK w k < 20
    · rw [if_pos c20, if_pos c20]
      congr 2
      apply List.map_congr_left
      intro j hj
      have hj := List.mem_range.mp hj
      unfold cV gV
      by_cases f0 : gF (gK w k) j = 0
      · rw [if_pos f0, if_pos f0]
      · rw [if_neg f0, if_neg f0]
        by_cases f1 : gF (gK w k) j = 1
        · rw [if_pos f1, if_pos f1]
        · rw [if_neg f1, if_neg f1]
          have hn : ¬ cs.2 k j = true := by rw [h k hkl c20 j hj (by omega)]; decide
          rw [if_neg hn]
    · rw [if_neg c20, if_neg c20]
      by_cases c23 : gK w k < 23
      · rw [if_pos c23, if_pos c23]
      · rw [if_neg c23, if_neg c23, if_pos (by omega), if_pos (by omega)]
  by_cases l24 : gK w k < 24
  · rw [← key l24]
    exact h0
  · by_cases e24 : gK w k = 24
    · have h1 : H[ad k]? = some (vp_cell (cA 24) (gN w k, .inr (.inr (.inr (.inr (fun i => if cs.2 k i = true then none else some (ad (cs.1.2.2 k i)))))))) := by
        rw [cE_arq e24 rfl] at h0
        exact h0
      have h3 : gE w cA ad cs.1 k = .inl (cA 24, gN w k, .inr (.inr (.inr (.inr (fun i => some (ad (cs.1.2.2 k i))))))) := by
        unfold gE
        rw [e24]
        rfl
      rw [h3]
      show H[ad k]? = some (vp_cell _ _)
      rw [h1, vp_cell_q, vp_cell_q]
      congr 1
      apply ca_congr
      intro i hi
      rw [if_neg (by rw [hq k hkl e24 i hi]; decide)]
    · have h1 : H[ad k]? = some (vp_cell (cA 25) (gN w k, .inr (.inr (.inr (.inr (fun i => if i < gN w k then some (ad (k + 1 + i)) else none)))))) := by
        unfold cE at h0
        rw [if_neg (by omega), if_neg (by omega), if_neg (by omega), if_neg e24] at h0
        exact h0
      have h3 : gE w cA ad cs.1 k = .inl (cA 25, gN w k, .inr (.inr (.inr (.inr (fun i => some (ad (k + 1 + i))))))) := by
        unfold gE
        rw [if_neg (by omega), if_neg (by omega), if_neg (by omega), if_neg e24]
      rw [h3]
      show H[ad k]? = some (vp_cell _ _)
      rw [h1, vp_cell_q, vp_cell_q]
      congr 1
      apply ca_congr
      intro i hi
      rw [if_pos hi]
def cU (D : va_G) (cA : Nat → ClassId) (s : State) : Prop :=
  va_K D vwCl (gty cA) s ∧ (∀ q ∈ gnF, va_Nw (.fieldLinkNest q.1 q.2.1 q.2.2.1 q.2.2.2.1 q.2.2.2.2.1 q.2.2.2.2.2) s) ∧ (∀ q ∈ gnM, va_Nw (.methodLinkNest q.1 q.2.1 q.2.2.1 q.2.2.2) s) ∧ va_AO RX5 s ∧ va_Nw (.arrayOver (.array .int)) s
theorem cU.call {D : va_G} {cA : Nat → ClassId} {s u : State} (U : cU D cA s) (hW : s.WarmedH u.vm) (h2 : va_Nw (.arrayOver (.array .int)) u) : cU D cA u :=
  ⟨va_K.moved hW.alike U.1, fun q hq => (U.2.1 q hq).warmF hW, fun q hq => (U.2.2.1 q hq).warmM hW, U.2.2.2.1.moved hW.alike, h2⟩
def cPc (w n B : Nat) (D : va_G) (cA : Nat → ClassId) (ad : Nat → Nat) (cs : gC) (av : List Value) : Array Value → State → Prop := fun v U => v = av.toArray ∧ cU D cA U ∧ B ≤ U.heap.size ∧ cP w n D cA ad cs U.heap
def cQc (w n B : Nat) (D : va_G) (cA : Nat → ClassId) (ad : Nat → Nat) (cs : gC) : Array Value → State → Outcome → State → Prop := fun _ s0 o t => o = .returned none ∧ cP w n D cA ad cs t.heap ∧ va_F (cB B) s0 t
def cRm (L mc ms : Nat) : Room := { frames := L, cells := mc, slots := ms, locals := 40 * L }
/-- a constructor's contract: from n cells in cs to n' cells in cs' -/
abbrev cM (l : Launch) (y : MethodName) (b : ByteArray) (nl : Nat) (L mc ms : Nat) (w B : Nat) (D : va_G) (cA : Nat → ClassId) (ad : Nat → Nat) (n : Nat) (cs : gC) (av : List Value) (n' : Nat) (cs' : gC) : Prop :=
  Met l y (gws y b nl none) (cRm L mc ms) (cPc w n B D cA ad cs av) (cQc w n' B D cA ad cs') mc ms (cB B)
