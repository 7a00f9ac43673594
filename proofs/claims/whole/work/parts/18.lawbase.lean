/-! ===== the law: both worlds side by side ===== -/
/-- what the law knows throughout -/
def lawK (p : Program) (s : State) (m : MethodId) (meth : Method) (c : Code) (b L : Nat) (xs : Nat → Int32) (D : va_G) (cA : Nat → ClassId) (adx adm : Nat → Nat) (B2 : Nat) : Prop :=
  CallFix p m c cL_law 4 s #[Value.ref b] lw_good RL ∧ sX s.heap.size adx s ∧ cAd 0 s.heap.size adx ∧ cAd 1 B2 adm ∧ s.heap.size + 218 ≤ B2 ∧ va_K D vwCl (gty cA) s ∧ (∀ q ∈ gnF, va_Nw (.fieldLinkNest q.1 q.2.1 q.2.2.1 q.2.2.2.1 q.2.2.2.2.1 q.2.2.2.2.2) s) ∧ va_X b L xs s s.heap ∧ b < s.heap.size
/-- both worlds, and nothing else changed -/
def lawH (s : State) (D : va_G) (cA : Nat → ClassId) (adx adm : Nat → Nat) (x y : gS) (H : Heap) (locs : List Loc) : Prop :=
  gP0 0 D cA adx x H ∧ gP0 1 D cA adm y H ∧ va_S (cB s.heap.size) s.heap H locs
theorem gNC_1 : gNC 1 = 47 := by decide +kernel
theorem gP0.kept {w : Nat} {D : va_G} {cA : Nat → ClassId} {ad : Nat → Nat} {st : gS} {H H1 : Heap} (h : gP0 w D cA ad st H) (hq : ∀ k, k < gNC w → ad k < H.size → H1[ad k]? = H[ad k]?) : gP0 w D cA ad st H1 := by
  refine va_P.kept h (fun k q hk => ?_)
  have hkl : k < gNC w := by
    rcases Nat.lt_or_ge k (gNC w) with x | x
    · exact x
    · rw [List.getElem?_eq_none (by simp [gW]; exact x)] at hk
      cases hk
  have hlt := (h k q hk).lt
  rw [gW_at hkl] at hk
  cases hk
  exact hq k hkl hlt
section LW
variable {p : Program} {l : Launch} {e : Env} {s : State} {m : MethodId} {below : List Frame} {meth : Method} {c : Code} {H : Heap} {locs : List Loc} {cells slots : Nat} {Q : State → Prop}
variable {pc : Nat} {ls : Array Slot} {rest : List Value} {D : va_G} {cA : Nat → ClassId} {adx adm : Nat → Nat} {x y st' : gS} {b L B2 : Nat} {xs : Nat → Int32}
variable {T : u_T} {N : Nat} {idx : Nat} {ym : MethodName} {bytes : ByteArray} {maxL n Lv : Nat} {ret : Option FieldType} {As : List Value} {r : Int32}
theorem l_callX (K : lawK p s m meth c b L xs D cA adx adm B2) (hH : lawH s D cA adx adm x y H locs) (hsz : ls.size = 4) (hc : vwCl[10]? = some (ym.cls, T, N))
    (hM : gM l ym bytes maxL ret Lv 0 D cA adx x (.ref (adx 0) :: As) (some (.int r)) st') (Y : gYv ym bytes maxL ret n) (hl : Cond.methodLink RL idx ym ∈ lw_good) (hroom : Lv + 1 ≤ room_1.frames ∧ 8 + (maxL + 11) + 40 * Lv ≤ room_1.locals) (hf : cells ≤ room_1.cells ∧ slots ≤ room_1.slots) (hn : As.length = n) (hW : (rest.map fun v => v.category).sum ≤ 8) (hdg : decode cL_law pc = .ok (.invokevirtual idx, 3))
    {stk : List Value} (hstk : stk = As.reverse ++ .ref (adx 0) :: rest)
    (kk : ∀ (H1 : Heap) (locs1 : List Loc), lawH s D cA adx adm st' y H1 locs1 → W p l e room_1 s m #[Value.ref b] below meth c H1 locs1 cells slots Q (F0 m (pc + 3) ls (.int r :: rest))) : W p l e room_1 s m #[Value.ref b] below meth c H locs cells slots Q (F0 m pc ls stk) := by
  obtain ⟨C, X, Ax, Am, hB, hK, hF, -, -⟩ := K
  obtain ⟨hx, hy, hS⟩ := hH
  have h0 := gNC_0
  have h1 := gNC_1
  exact g_callM C (fun u hu hW => X.gU Ax hK hF hS hu hW) hK hx hS (fun q h => Ax.in h) hsz gk0_0 hc (by decide) hM Y hl hroom hf hn hW hdg hstk (fun H1 locs1 hx _ hk hS => kk H1 locs1 ⟨hx, hy.kept (fun k hkl hlt => hk _ hlt (fun ⟨i, hi, e⟩ => by
    rw [Am k (by omega), Ax i (by omega)] at e
    omega)), hS⟩)
theorem l_callY (K : lawK p s m meth c b L xs D cA adx adm B2) (hH : lawH s D cA adx adm x y H locs) (hsz : ls.size = 4) (hc : vwCl[11]? = some (ym.cls, T, N))
    (hM : gM l ym bytes maxL ret Lv 1 D cA adm y (.ref (adm 0) :: As) (some (.int r)) st') (Y : gYv ym bytes maxL ret n) (hl : Cond.methodLink RL idx ym ∈ lw_good) (hroom : Lv + 1 ≤ room_1.frames ∧ 8 + (maxL + 11) + 40 * Lv ≤ room_1.locals) (hf : cells ≤ room_1.cells ∧ slots ≤ room_1.slots) (hn : As.length = n) (hW : (rest.map fun v => v.category).sum ≤ 8) (hdg : decode cL_law pc = .ok (.invokevirtual idx, 3))
    {stk : List Value} (hstk : stk = As.reverse ++ .ref (adm 0) :: rest)
    (kk : ∀ (H1 : Heap) (locs1 : List Loc), lawH s D cA adx adm x st' H1 locs1 → W p l e room_1 s m #[Value.ref b] below meth c H1 locs1 cells slots Q (F0 m (pc + 3) ls (.int r :: rest))) : W p l e room_1 s m #[Value.ref b] below meth c H locs cells slots Q (F0 m pc ls stk) := by
  obtain ⟨C, X, Ax, Am, hB, hK, hF, -, -⟩ := K
  obtain ⟨hx, hy, hS⟩ := hH
  have h0 := gNC_0
  have h1 := gNC_1
  refine g_callM C (fun u hu hW => ⟨va_K.moved hW.alike hK, fun i j hi hj e => ?_, fun q hq => (hF q hq).warmF hW, fun h => by cases h⟩) hK hy hS (fun q h => ?_) hsz gk1_0 hc (by decide) hM Y hl hroom hf hn hW hdg hstk (fun H1 locs1 hy _ hk hS => kk H1 locs1 ⟨hx.kept (fun k hkl hlt => hk _ hlt (fun ⟨i, hi, e⟩ => by
    rw [Ax k (by omega), Am i (by omega)] at e
    omega)), hy, hS⟩)
  · rw [Am i (by omega), Am j (by omega)] at e
    omega
  · have := Am.in h
    show s.heap.size ≤ q
    have h3 : B2 ≤ q := this
    omega
theorem l_sld (K : lawK p s m meth c b L xs D cA adx adm B2) (hH : lawH s D cA adx adm x y H locs) {i : Int32} (hin : vp_in i L) (hdg : decode cL_law pc = .ok (.iaload, 1))
    (kk : W p l e room_1 s m #[Value.ref b] below meth c H locs cells slots Q (F0 m (pc + 1) ls (.int (xs i.toNatClampNeg) :: rest))) : W p l e room_1 s m #[Value.ref b] below meth c H locs cells slots Q (F0 m pc ls (.int i :: .ref b :: rest)) :=
  va_sld K.1.1 K.1.2.1 K.2.2.2.2.2.2.2.1 K.2.2.2.2.2.2.2.2 (fun h => absurd K.2.2.2.2.2.2.2.2 (by have : s.heap.size ≤ b := h; omega)) hH.2.2 hin hdg kk
theorem l_slen (K : lawK p s m meth c b L xs D cA adx adm B2) (hH : lawH s D cA adx adm x y H locs) (hdg : decode cL_law pc = .ok (.arraylength, 1))
    (kk : W p l e room_1 s m #[Value.ref b] below meth c H locs cells slots Q (F0 m (pc + 1) ls (.int (Int32.ofNat L) :: rest))) : W p l e room_1 s m #[Value.ref b] below meth c H locs cells slots Q (F0 m pc ls (.ref b :: rest)) :=
  va_slen K.1.1 K.1.2.1 K.2.2.2.2.2.2.2.1 K.2.2.2.2.2.2.2.2 (fun h => absurd K.2.2.2.2.2.2.2.2 (by have : s.heap.size ≤ b := h; omega)) hH.2.2 hdg kk
end LW
/-- one call of each: both answer, alike, and what holds between them holds again -/
def sOK (I : gS → gS → Prop) (F G : gS → Option (Int32 × gS)) : Prop := ∀ x y, I x y → ∃ r x' y', F x = some (r, x') ∧ G y = some (r, y') ∧ I x' y'
