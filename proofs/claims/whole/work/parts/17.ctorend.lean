/-! ===== History(): 41 states ===== -/
def csL (cs : gC) : Nat → gC
  | 0 => cs
  | i + 1 => cq (iX5 (25 + 3 * i) (cz (csL cs i) (25 + 3 * i))) 24 i (25 + 3 * i)
theorem cq_nl {cs : gC} {k j v i : Nat} (h : i ≠ k) : (cq cs k j v).2 i = cs.2 i := by simp [cq, cr, h]
theorem iX5_nl {k i : Nat} {cs : gC} (h : i < k) : (iX5 k cs).2 i = cs.2 i := by
  simp only [iX5, cr, ci, cz]
  simp [show i ≠ k by omega, show i ≠ k + 1 by omega, show i ≠ k + 1 + 1 by omega]
theorem csL_23 {cs : gC} : ∀ i, (csL cs i).2 23 = cs.2 23
  | 0 => rfl
  | i + 1 => by
    show (cq _ 24 i _).2 23 = _
    have e2 : (cz (csL cs i) (25 + 3 * i)).2 23 = (csL cs i).2 23 := if_neg (by omega)
    rw [cq_nl (by decide), iX5_nl (by omega), e2, csL_23 i]
theorem gk_kept : ∀ i, i < 41 → gK 0 (25 + 3 * i) = 5 := by decide +kernel
theorem gk_boxes : ∀ i, i < 3 → gK 0 (209 + 3 * i) = 5 := by decide +kernel
theorem gNC_0 : gNC 0 = 218 := by decide +kernel
section CE
variable {p : Program} {l : Launch} {e : Env} {s : State} {m : MethodId} {args : Array Value} {below : List Frame} {meth : Method} {c : Code} {D : va_G} {cA : Nat → ClassId} {ad : Nat → Nat} {B : Nat}
set_option maxRecDepth 100000 in
set_option maxHeartbeats 4000000 in
theorem x1_loop {cs : gC} (hC : CallFix p m c cX1_init 2 s args lw_good RX1) (hret : meth.sig.returnType = none) (hlk : meth.locks = false) (hin : meth.name = "<init>") (hU : cU D cA s) (hA : cAd 0 B ad) (hB : B ≤ s.heap.size) (hnl : cs.2 23 0 = false) : ∀ (j i : Nat), i + j = 41 → ∀ {x : Int32} {H : Heap} {locs : List Loc} {ls : Array Slot} {cells slots : Nat}, x = nI i → cells = 1 + 3 * i → slots = 41 + 20 * i → cP 0 (25 + 3 * i) D cA ad (csL cs i) H → va_S (cB B) s.heap H locs → lv_has ls 2 [(0, .ref (ad 23)), (1, .int x)] →
    W p l e (cRm 2 124 861) s m args below meth c H locs cells slots (MQ below (cQc 0 148 B D cA ad (csL cs 41)) args s 124 861 (cB B)) (F0 m 25 ls []) := by
  obtain ⟨hx, hb, hml, hown, hts⟩ := id hC
  have hnc := gNC_0
  intro j
  induction j with
  | zero =>
    intro i hi x H locs ls cells slots ex ec es hH hS hl
    have hi : i = 41 := by omega
    subst hi
    refine lv_iload_n (pc := 25) hx hb dX1_init_25 rfl (lv_at hl 1 rfl) ?_
    refine lv_bipush (v := 40) (pc := 26) hx hb dX1_init_26 (by decide) ?_
    refine lv_icmp_gt (tgt := 50) (pc := 28) hx hb dX1_init_28 (by decide) (fun hc => ?_) (fun hc => ?_)
    · exact c_vret (pc := 50) hC hret hlk hH hS ec es dX1_init_50
    · exact absurd (by rw [ex]; decide) hc
  | succ j ih =>
    intro i hi x H locs ls cells slots ex ec es hH hS hl
    subst ec
    subst es
    have hxi : x.toInt = i := by rw [ex]; exact nI_toInt (by omega)
    have hxn : x.toNatClampNeg = i := by rw [ex]; exact nI_clamp (by omega)
    refine lv_iload_n (pc := 25) hx hb dX1_init_25 rfl (lv_at hl 1 rfl) ?_
    refine lv_bipush (v := 40) (pc := 26) hx hb dX1_init_26 (by decide) ?_
    refine lv_icmp_gt (tgt := 50) (pc := 28) hx hb dX1_init_28 (by decide) (fun hc => ?_) (fun hc => ?_)
    · exact absurd (Int32.lt_iff_toInt_lt.mp hc) (by rw [hxi]; show ¬ (40 : Int) < _; omega)
    · refine lv_aload_n (pc := 31) hx hb dX1_init_31 rfl (lv_at hl 0 rfl) ?_
      refine c_get (pc := 32) (v := .ref (ad 24)) hC hU hH (by omega) gk0_23 g_cl1 0 (by decide) kg_X1_11 (by
        have e : (csL cs i).2 23 0 = false := by rw [csL_23]; exact hnl
        show (if gF 1 0 = 0 then _ else if gF 1 0 = 1 then _ else if (csL cs i).2 23 0 = true then _ else _) = _
        rw [e]
        rfl) dX1_init_32 ?_
      refine lv_iload_n (pc := 35) hx hb dX1_init_35 rfl (lv_at hl 1 rfl) ?_
      refine c_new (pc := 36) hC hU hA (by omega) hH hS hB (gk_kept i (by omega)) g_cl5 cdf5 kcl_X1_9 kin5 kit5 (by show _ ≤ 124; omega) (by show _ ≤ 861; omega) dX1_init_36 (fun H hH hS => ?_)
      refine lv_dup (pc := 39) hx hb dX1_init_39 rfl ?_
      refine c_callI (pc := 40) (np := 0) (k := 25 + 3 * i) (rest := [.ref (ad (25 + 3 * i)), .int x, .ref (ad 24)]) hC hU hH hS hB hl.1 (nX5 (k := 25 + 3 * i) hA (gk_kept i (by omega)) (by omega)) kic5 kit5 kii5 rfl (by decide) (Or.inr ⟨"CradleTreaty", List.mem_of_getElem? (i := 4) rfl⟩) ⟨(Nat.le_of_ble_eq_true rfl), (Nat.le_of_ble_eq_true rfl)⟩ ⟨by show _ ≤ 124; omega, by show _ ≤ 861; omega⟩ rfl (Nat.le_of_ble_eq_true rfl) dX1_init_40 rfl (fun H locs hH hS => ?_)
      refine c_aast (pc := 43) (k := 24) (v := 25 + 3 * i) hC hU hA (by omega) hH hS (by omega) gk0_24 gn0_24 (by omega) (gk_kept i (by omega)) ⟨by omega, by omega⟩ i hxn dX1_init_43 (fun H locs hH hS => ?_)
      refine lv_iinc (v := x + 1) (lv' := [(1, .int (x + 1)), (0, .ref (ad 23))]) (k := 1) (pc := 44) hx hb dX1_init_44 hl rfl rfl (by decide) rfl (fun ls hl => ?_)
      refine lv_goto (tgt := 25) (pc := 47) hx hb dX1_init_47 (by decide) ?_
      have en : 25 + 3 * i + 1 + 2 = 25 + 3 * (i + 1) := by omega
      rw [en] at hH
      exact ih (i + 1) (by omega) (by rw [ex]; exact nI_1 i) (by omega) (by omega) hH hS (lv_sub hl [1, 0] rfl)
end CE
def iX1 (cs : gC) : gC := csL (ci (ci (cr (cz (cs) (24)) 23 0) 23 1 0) 23 2 0) 41
set_option maxRecDepth 100000 in
set_option maxHeartbeats 4000000 in
theorem nX1 {l : Launch} {D : va_G} {cA : Nat → ClassId} {ad : Nat → Nat} {B : Nat} (hA : cAd 0 B ad) {cs : gC} : cM l yX1_init cX1_init 2 2 124 861 0 B D cA ad 24 cs [.ref (ad 23)] 148 (iX1 cs) := by
  refine c_met (by decide) rfl (Nat.le_of_ble_eq_true rfl) ?_
  intro p e s m args below meth c ls hC hret hlk hin hU hB hH hl
  have hS : va_S (cB B) s.heap s.heap [] := va_S.rf
  obtain ⟨hx, hb, hml, hown, hts⟩ := id hC
  refine lv_aload_n (pc := 0) hx hb dX1_init_0 rfl (lv_at hl 0 rfl) ?_
  refine c_objInit (pc := 1) hC hl.1 km_X1_1 koi koc (Nat.le_of_ble_eq_true rfl) (Nat.le_of_ble_eq_true rfl) dX1_init_1 _ ?_
  refine lv_aload_n (pc := 4) hx hb dX1_init_4 rfl (lv_at hl 0 rfl) ?_
  refine lv_bipush (v := 41) (pc := 5) hx hb dX1_init_5 (by decide) ?_
  refine c_newq (pc := 7) hC hU hA (by decide) hH hS hB gk0_24 gn0_24 kcl_X1_9 (by decide) rfl (by decide) (Nat.le_of_ble_eq_true rfl) (Nat.le_of_ble_eq_true rfl) dX1_init_7 (fun H hH hS => ?_)
  refine c_putr (v := 24) (pc := 10) hC hin hU hA (by decide) hH hS (by decide) gk0_23 g_cl1 rfl ct1 0 (by decide) kg_X1_11 rfl rfl rfl rfl dX1_init_10 (fun H locs hH hS => ?_)
  refine lv_aload_n (pc := 13) hx hb dX1_init_13 rfl (lv_at hl 0 rfl) ?_
  refine lv_iconst (v := 0) (pc := 14) hx hb dX1_init_14 (by decide) ?_
  refine c_puti (pc := 15) hC hin hU hA (by decide) hH hS (by decide) gk0_23 g_cl1 rfl ct1 1 (by decide) kg_X1_15 rfl rfl rfl dX1_init_15 (fun H locs hH hS => ?_)
  refine lv_aload_n (pc := 18) hx hb dX1_init_18 rfl (lv_at hl 0 rfl) ?_
  refine lv_iconst (v := 0) (pc := 19) hx hb dX1_init_19 (by decide) ?_
  refine c_puti (pc := 20) hC hin hU hA (by decide) hH hS (by decide) gk0_23 g_cl1 rfl ct1 2 (by decide) kg_X1_19 rfl rfl rfl dX1_init_20 (fun H locs hH hS => ?_)
  refine lv_iconst (v := 0) (pc := 23) hx hb dX1_init_23 (by decide) ?_
  refine lv_istore_n (lv' := [(1, .int 0), (0, .ref (ad 23))]) (pc := 24) hx hb dX1_init_24 rfl hl (by decide) rfl (fun ls hl => ?_)
  exact x1_loop hC hret hlk hin hU hA hB rfl 41 0 (by decide) rfl rfl rfl hH hS (lv_sub hl [1, 0] rfl)
/-! ===== CradleTreaty() ===== -/
/-- the statics, as the class's methods will want them -/
def sX (B : Nat) (ad : Nat → Nat) (s : State) : Prop :=
  va_Z RX7 "WORDS" "[J" (.ref (ad 300)) (cB B) s s.heap ∧ va_T .long (ad 300) 19 (fun j => .long (gWords.getD j 0)) (cB B) s s.heap ∧
  vk_R RX7 gSignsIx gSigns (ad 301) s ∧ vk_S 1 [11] [gSignsB] (fun _ => ad 301) (fun _ => ad 302) (cB B) s s.heap ∧
  va_Z "java/lang/String" "COMPACT_STRINGS" "Z" (.int 1) (cB B) s s.heap
theorem cAd.in {w B : Nat} {ad : Nat → Nat} (A : cAd w B ad) {q : Nat} (h : gA w ad q) : cB B q := by
  obtain ⟨k, h1, rfl⟩ := h
  show B ≤ ad k
  rw [A k (by omega)]
  omega
/-- what a method of the class may start from, behind its constructor's rows or in the law -/
theorem sX.gU {B : Nat} {D : va_G} {cA : Nat → ClassId} {ad : Nat → Nat} {s u : State} {H : Heap} {locs : List Loc} (A : cAd 0 B ad) (K : va_K D vwCl (gty cA) s) (F : ∀ q ∈ gnF, va_Nw (.fieldLinkNest q.1 q.2.1 q.2.2.1 q.2.2.2.1 q.2.2.2.2.1 q.2.2.2.2.2) s) (X : sX B ad s) (hS : va_S (cB B) s.heap H locs) (hh : u.heap = H) (hW : s.WarmedH u.vm) : gU 0 D cA ad u := by
  refine ⟨va_K.moved hW.alike K, fun i j hi hj e => ?_, fun q hq => (F q hq).warmF hW, fun _ => ?_⟩
  · rw [A i (by omega), A j (by omega)] at e
    omega
  · obtain ⟨h1, h2, h3, h4, h5⟩ := X
    rw [hh]
    exact ⟨((h1.kept hS.2.1).moved hW.alike).narrow (fun q h => A.in h), ((h2.kept hS.2.1).moved hW.alike).narrow (fun q h => A.in h), h3.warm hW, ((h4.kept hS.2.1).moved hW.alike).narrow (fun q h => A.in h), ((h5.kept hS.2.1).moved hW.alike).narrow (fun q h => A.in h)⟩
section GM
variable {p : Program} {l : Launch} {e : Env} {R : Room} {s : State} {m : MethodId} {args : Array Value} {below : List Frame} {meth : Method} {c : Code} {H : Heap} {locs : List Loc} {cells slots : Nat} {Q : State → Prop}
variable {cc : ByteArray} {pc nL : Nat} {ls : Array Slot} {rest : List Value} {D : va_G} {cA : Nat → ClassId} {ad : Nat → Nat} {w k : Nat} {st st' : gS} {own : String} {A0 : Nat → Prop} {Ts : List Cond}
variable {cn N : Nat} {T : u_T} {idx : Nat} {y : MethodName} {bytes : ByteArray} {maxL n L : Nat} {ret : Option FieldType} {As : List Value} {rv : Option Value}
/-- a method of a world is called by one who has more than that world -/
theorem g_callM (C : CallFix p m c cc nL s args lw_good own) (hUu : ∀ u : State, u.heap = H → s.WarmedH u.vm → gU w D cA ad u) (hK : va_K D vwCl (gty cA) s) (hH : gP0 w D cA ad st H) (hS : va_S A0 s.heap H locs) (hsub : ∀ q, gA w ad q → A0 q) (hsz : ls.size = nL) (hk : gK w k = cn) (hc : vwCl[cn]? = some (y.cls, T, N)) (h20 : cn < 20)
    (hM : gM l y bytes maxL ret L w D cA ad st (.ref (ad k) :: As) rv st') (Y : gYv y bytes maxL ret n) (hl : Cond.methodLink own idx y ∈ lw_good) (hroom : L + 1 ≤ R.frames ∧ 8 + (maxL + 11) + 40 * L ≤ R.locals) (hf : cells ≤ R.cells ∧ slots ≤ R.slots) (hn : As.length = n) (hW : (rest.map fun v => v.category).sum ≤ 8) (hdg : decode cc pc = .ok (.invokevirtual idx, 3))
    {stk : List Value} (hstk : stk = As.reverse ++ .ref (ad k) :: rest)
    (kk : ∀ (H1 : Heap) (locs1 : List Loc), gP0 w D cA ad st' H1 → H.size ≤ H1.size → (∀ q, q < H.size → ¬ gA w ad q → H1[q]? = H[q]?) → va_S A0 s.heap H1 locs1 → W p l e R s m args below meth c H1 locs1 cells slots Q (F0 m (pc + 3) ls (rv.toList ++ rest))) : W p l e R s m args below meth c H locs cells slots Q (F0 m pc ls stk) := by
  obtain ⟨y1, y2, y3, y4, y5, y6, y7⟩ := Y
  have hts := C.2.2.2.2
  have cw : CallW R s args own y.cls idx y bytes maxL ret (gws y bytes maxL ret) (gRm L) 0 0 n :=
    cwV n hts (lw_good_in (fun w h => by
      rcases List.mem_append.mp h with h | h
      · simp only [List.mem_cons, List.not_mem_nil, or_false] at h
        rcases h with rfl | rfl | rfl | rfl
        · exact hl
        · exact y1
        · exact y2
        · exact y3
      · rcases List.mem_cons.mp h with rfl | h
        · exact y4
        · exact h)) rfl rfl rfl ⟨rfl, y5, y6, y7⟩ hroom
  have hp : PreV s H y.cls (ad k) (gPc w D cA ad st (.ref (ad k) :: As)) As :=
    ⟨gPc.blind, va_recv hK hH hc (gW_obj hk h20), fun u hu hW => ⟨rfl, hUu u hu hW, by rw [hu]; exact hH⟩⟩
  have hr := va_runV (As := As) (rest := rest) C hM cw hp (H := H) (locs := locs) (cells := cells) (slots := slots) (e := e) (below := below) (meth := meth) (g := F0 m pc ls stk) rfl hn hsz hstk (lv_room hW) hdg (by simpa using hf)
  intro T hT X
  obtain ⟨v, st₀, t, T', L, h0, X', hL, e1, e2, ⟨hv, hp, hz, hk⟩, stp⟩ := hr T hT X
  cases hv
  rw [h0] at hz hk
  obtain ⟨t2, a1, b1⟩ := kk T'.heap (locs ++ L) (by rw [e1]; exact hp) (by rw [e1]; exact hz) (fun q h1 h2 => by rw [e1]; exact hk q h1 h2)
    ⟨Nat.le_trans hS.1 (by rw [e1]; exact hz), fun q h1 h2 => by rw [e1, hk q (Nat.lt_of_lt_of_le h1 hS.1) (fun z => h2 (hsub q z))]; exact hS.2.1 q h1 h2, fun q hq => by
      rcases List.mem_append.mp hq with h | h
      · exact hS.2.2 q h
      · exact hsub _ (hL q h)⟩ T' rfl X'
  exact ⟨t2, stp t2 a1, b1⟩
end GM
def cs0 : gC := ((fun _ _ => 0, fun _ _ => 0, fun _ _ => 0), fun _ _ => true)
/-- behind the straight part of the constructor -/
def csA : gC := cq (iX8 (194) (cz (cr (iX2 (cz (cr (iX3 (cz (cr (iX9 (cz (cr (cz (cr (cz (cr (iX1 (cz (cr (iX5 (20) (cz (cr (iX4 (cz (cr (iX6 (cz (cz cs0 0) (1))) 0 0) (3))) 0 1) (20))) 0 2) (23))) 0 3) (148)) 0 4) (149)) 0 5) (150))) 0 6) (167))) 0 7) (169))) 0 8) (194))) 0 9 (194)
def csB : Nat → gC
  | 0 => csA
  | i + 1 => cq (iX5 (209 + 3 * i) (cz (csB i) (209 + 3 * i))) 148 i (209 + 3 * i)
theorem csB_0 : ∀ i, (csB i).2 0 = csA.2 0
  | 0 => rfl
  | i + 1 => by
    show (cq _ 148 i _).2 0 = _
    have e2 : (cz (csB i) (209 + 3 * i)).2 0 = (csB i).2 0 := if_neg (by omega)
    rw [cq_nl (by decide), iX5_nl (by omega), e2, csB_0 i]
theorem csA_boxes : csA.2 0 4 = false := rfl
set_option maxRecDepth 100000 in
theorem csB_full : ∀ k, k < gNC 0 → gK 0 k < 20 → ∀ j, j < (gft.getD (gK 0 k) []).length → 2 ≤ gF (gK 0 k) j → (csB 3).2 k j = false := by decide +kernel
set_option maxRecDepth 100000 in
theorem csB_rows : ∀ k, k < gNC 0 → gK 0 k = 24 → ∀ i, i < gN 0 k → (csB 3).2 k i = false := by decide +kernel
def dPc (B : Nat) (D : va_G) (cA : Nat → ClassId) (ad : Nat → Nat) : Array Value → State → Prop := fun v U => v = [Value.ref (ad 0)].toArray ∧ cU D cA U ∧ B ≤ U.heap.size ∧ cP 0 1 D cA ad (cz cs0 0) U.heap ∧ sX B ad U
def dQc (w B : Nat) (D : va_G) (cA : Nat → ClassId) (ad : Nat → Nat) (st : gS) : Array Value → State → Outcome → State → Prop := fun _ s0 o t => o = .returned none ∧ gP0 w D cA ad st t.heap ∧ va_F (cB B) s0 t
section CX
variable {p : Program} {l : Launch} {e : Env} {s : State} {m : MethodId} {args : Array Value} {below : List Frame} {meth : Method} {c : Code} {D : va_G} {cA : Nat → ClassId} {ad : Nat → Nat} {B : Nat}
set_option maxRecDepth 100000 in
set_option maxHeartbeats 4000000 in
theorem x10_loop {st' : gS} (hf : fX10_beginAnew (csB 3).1 = some st') (hC : CallFix p m c cX10_init 2 s args lw_good RX10) (hret : meth.sig.returnType = none) (hlk : meth.locks = false) (hU : cU D cA s) (hA : cAd 0 B ad) (hB : B ≤ s.heap.size) (hX : sX B ad s) : ∀ (j i : Nat), i + j = 3 → ∀ {x : Int32} {H : Heap} {locs : List Loc} {ls : Array Slot} {cells slots : Nat}, x = nI i → cells = 208 + 3 * i → slots = 3974 + 20 * i → cP 0 (209 + 3 * i) D cA ad (csB i) H → va_S (cB B) s.heap H locs → lv_has ls 2 [(0, .ref (ad 0)), (1, .int x)] →
    W p l e (cRm 4 217 4034) s m args below meth c H locs cells slots (MQ below (dQc 0 B D cA ad st') args s 217 4034 (cB B)) (F0 m 113 ls []) := by
  obtain ⟨hx, hb, hml, hown, hts⟩ := id hC
  have hnc := gNC_0
  intro j
  induction j with
  | zero =>
    intro i hi x H locs ls cells slots ex ec es hH hS hl
    have hi : i = 3 := by omega
    subst hi
    subst ec
    subst es
    refine lv_iload_n (pc := 113) hx hb dX10_init_113 rfl (lv_at hl 1 rfl) ?_
    refine lv_iconst (v := 3) (pc := 114) hx hb dX10_init_114 (by decide) ?_
    refine lv_icmp_ge (tgt := 137) (pc := 115) hx hb dX10_init_115 (by decide) (fun hc => ?_) (fun hc => ?_)
    · refine lv_aload_n (pc := 137) hx hb dX10_init_137 rfl (lv_at hl 0 rfl) ?_
      have hG : gP0 0 D cA ad (csB 3).1 H := cW_done csB_full (by rw [gNC_0]; exact hH.1) csB_rows
      refine g_callM (pc := 138) (rest := []) (rv := none) hC (fun u hu hW => hX.gU hA hU.1 hU.2.1 hS hu hW) hU.1 hG hS (fun q h => hA.in h) hl.1 gk0_0 rfl (by decide) (mX10_beginAnew hf) ky_X10_beginAnew km_X10_75 ⟨(Nat.le_of_ble_eq_true rfl), (Nat.le_of_ble_eq_true rfl)⟩ ⟨Nat.le_of_ble_eq_true rfl, Nat.le_of_ble_eq_true rfl⟩ rfl (Nat.le_of_ble_eq_true rfl) dX10_init_138 rfl (fun H locs hH _ _ hS => ?_)
      exact W.vret (pc := 141) hx hb hret (fun t ht _ => ⟨rfl, by rw [ht]; exact hH, hS.F ht⟩) hS.2.2 dX10_init_141 hlk
    · exact absurd (by rw [ex]; decide) hc
  | succ j ih =>
    intro i hi x H locs ls cells slots ex ec es hH hS hl
    subst ec
    subst es
    have hxi : x.toInt = i := by rw [ex]; exact nI_toInt (by omega)
    have hxn : x.toNatClampNeg = i := by rw [ex]; exact nI_clamp (by omega)
    refine lv_iload_n (pc := 113) hx hb dX10_init_113 rfl (lv_at hl 1 rfl) ?_
    refine lv_iconst (v := 3) (pc := 114) hx hb dX10_init_114 (by decide) ?_
    refine lv_icmp_ge (tgt := 137) (pc := 115) hx hb dX10_init_115 (by decide) (fun hc => ?_) (fun hc => ?_)
    · exact absurd (Int32.le_iff_toInt_le.mp hc) (by rw [hxi]; show ¬ (3 : Int) ≤ _; omega)
    · refine lv_aload_n (pc := 118) hx hb dX10_init_118 rfl (lv_at hl 0 rfl) ?_
      refine c_get (pc := 119) (v := .ref (ad 148)) hC hU hH (by omega) gk0_0 g_cl10 4 (by decide) kg_X10_39 (by
        have e : (csB i).2 0 4 = false := by rw [csB_0]; exact csA_boxes
        show (if gF 10 4 = 0 then _ else if gF 10 4 = 1 then _ else if (csB i).2 0 4 = true then _ else _) = _
        rw [e]
        rfl) dX10_init_119 ?_
      refine lv_iload_n (pc := 122) hx hb dX10_init_122 rfl (lv_at hl 1 rfl) ?_
      refine c_new (pc := 123) hC hU hA (by omega) hH hS hB (gk_boxes i (by omega)) g_cl5 cdf5 kcl_X10_25 kin5 kit5 (by show _ ≤ 217; omega) (by show _ ≤ 4034; omega) dX10_init_123 (fun H hH hS => ?_)
      refine lv_dup (pc := 126) hx hb dX10_init_126 rfl ?_
      refine c_callI (pc := 127) (np := 0) (k := 209 + 3 * i) (rest := [.ref (ad (209 + 3 * i)), .int x, .ref (ad 148)]) hC hU hH hS hB hl.1 (nX5 (k := 209 + 3 * i) hA (gk_boxes i (by omega)) (by omega)) kic5 kit5 kii5 rfl (by decide) (Or.inr ⟨"CradleTreaty", List.mem_of_getElem? (i := 3) rfl⟩) ⟨(Nat.le_of_ble_eq_true rfl), (Nat.le_of_ble_eq_true rfl)⟩ ⟨by show _ ≤ 217; omega, by show _ ≤ 4034; omega⟩ rfl (Nat.le_of_ble_eq_true rfl) dX10_init_127 rfl (fun H locs hH hS => ?_)
      refine c_aast (pc := 130) (k := 148) (v := 209 + 3 * i) hC hU hA (by omega) hH hS (by omega) gk0_148 gn0_148 (by omega) (gk_boxes i (by omega)) ⟨by omega, by omega⟩ i hxn dX10_init_130 (fun H locs hH hS => ?_)
      refine lv_iinc (v := x + 1) (lv' := [(1, .int (x + 1)), (0, .ref (ad 0))]) (k := 1) (pc := 131) hx hb dX10_init_131 hl rfl rfl (by decide) rfl (fun ls hl => ?_)
      refine lv_goto (tgt := 113) (pc := 134) hx hb dX10_init_134 (by decide) ?_
      have en : 209 + 3 * i + 1 + 2 = 209 + 3 * (i + 1) := by omega
      rw [en] at hH
      exact ih (i + 1) (by omega) (by rw [ex]; exact nI_1 i) (by omega) (by omega) hH hS (lv_sub hl [1, 0] rfl)
set_option maxRecDepth 100000 in
set_option maxHeartbeats 4000000 in
theorem nX10 {st' : gS} (hA : cAd 0 B ad) (hf : fX10_beginAnew (csB 3).1 = some st') : Met l yX10_init (gws yX10_init cX10_init 2 none) (cRm 4 217 4034) (dPc B D cA ad) (dQc 0 B D cA ad st') 217 4034 (cB B) := by
  refine Met.ofW (cc := cX10_init) (maxL := 2) (ret := none) (by decide) rfl ?_
  intro p e s m args below meth c s₁ Bd hml hv
  obtain ⟨rfl, hU, hB, hH, hX⟩ := hv
  have hts := atoms_spec (ws := gws yX10_init cX10_init 2 none) Bd.pre
  have hown : s.vm.findClass RX10 = some m.cls := findClass_of_methodNamed Bd.named
  have hl := lv_entry [Value.ref (ad 0)] (n := 2) (Nat.le_of_ble_eq_true rfl)
  rw [lg_entry_eq]
  generalize (lg_sl [Value.ref (ad 0)] ++ List.replicate (2 - (lg_sl [Value.ref (ad 0)]).length) Slot.unset).toArray = ls at hl ⊢
  have hl : lv_has ls 2 [(0, .ref (ad 0))] := hl
  have hC : CallFix p m c cX10_init 2 s [Value.ref (ad 0)].toArray lw_good RX10 := ⟨Bd.exec, Bd.bytes, hml, hown, fun w h => hts w (List.mem_cons_of_mem _ h)⟩
  have hret := Bd.returns
  have hlk := Bd.notSynchronized
  have hin : meth.name = "<init>" := (name_of_methodNamed Bd.named Bd.method).1
  have hS : va_S (cB B) s.heap s.heap [] := va_S.rf
  obtain ⟨hx, hb, hml, hown, hts⟩ := id hC
  refine lv_aload_n (pc := 0) hx hb dX10_init_0 rfl (lv_at hl 0 rfl) ?_
  refine c_objInit (pc := 1) hC hl.1 km_X10_1 koi koc (Nat.le_of_ble_eq_true rfl) (Nat.le_of_ble_eq_true rfl) dX10_init_1 _ ?_
  refine lv_aload_n (pc := 4) hx hb dX10_init_4 rfl (lv_at hl 0 rfl) ?_
  refine c_new (pc := 5) hC hU hA (by decide) hH hS hB gk0_1 g_cl6 cdf6 kcl_X10_7 kin6 kit6 (Nat.le_of_ble_eq_true rfl) (Nat.le_of_ble_eq_true rfl) dX10_init_5 (fun H hH hS => ?_)
  refine lv_dup (pc := 8) hx hb dX10_init_8 rfl ?_
  refine c_callI (pc := 9) (np := 0) (k := 1) (rest := [.ref (ad (1)), .ref (ad 0)]) hC hU hH hS hB hl.1 (nX6 hA) kic6 kit6 kii6 rfl (by decide) (Or.inr ⟨"CradleTreaty", List.mem_of_getElem? (i := 0) rfl⟩) ⟨(Nat.le_of_ble_eq_true rfl), (Nat.le_of_ble_eq_true rfl)⟩ ⟨(Nat.le_of_ble_eq_true rfl), (Nat.le_of_ble_eq_true rfl)⟩ rfl (Nat.le_of_ble_eq_true rfl) dX10_init_9 rfl (fun H locs hH hS => ?_)
  refine c_putr (v := 1) (pc := 12) hC hin hU hA (by decide) hH hS (by decide) gk0_0 g_cl10 rfl ct10 0 (by decide) kg_X10_10 rfl rfl rfl rfl dX10_init_12 (fun H locs hH hS => ?_)
  refine lv_aload_n (pc := 15) hx hb dX10_init_15 rfl (lv_at hl 0 rfl) ?_
  refine c_new (pc := 16) hC hU hA (by decide) hH hS hB gk0_3 g_cl4 cdf4 kcl_X10_16 kin4 kit4 (Nat.le_of_ble_eq_true rfl) (Nat.le_of_ble_eq_true rfl) dX10_init_16 (fun H hH hS => ?_)
  refine lv_dup (pc := 19) hx hb dX10_init_19 rfl ?_
  refine lv_aload_n (pc := 20) hx hb dX10_init_20 rfl (lv_at hl 0 rfl) ?_
  refine c_get (pc := 21) (v := .ref (ad 1)) hC hU hH (by decide) gk0_0 g_cl10 0 (by decide) kg_X10_10 rfl dX10_init_21 ?_
  refine c_callI (pc := 24) (np := 1) (k := 3) (rest := [.ref (ad (3)), .ref (ad 0)]) hC hU hH hS hB hl.1 (nX4 hA) kic4 kit4 kii4 rfl (by decide) (Or.inl km_X10_18) ⟨(Nat.le_of_ble_eq_true rfl), (Nat.le_of_ble_eq_true rfl)⟩ ⟨(Nat.le_of_ble_eq_true rfl), (Nat.le_of_ble_eq_true rfl)⟩ rfl (Nat.le_of_ble_eq_true rfl) dX10_init_24 rfl (fun H locs hH hS => ?_)
  refine c_putr (v := 3) (pc := 27) hC hin hU hA (by decide) hH hS (by decide) gk0_0 g_cl10 rfl ct10 1 (by decide) kg_X10_21 rfl rfl rfl rfl dX10_init_27 (fun H locs hH hS => ?_)
  refine lv_aload_n (pc := 30) hx hb dX10_init_30 rfl (lv_at hl 0 rfl) ?_
  refine c_new (pc := 31) hC hU hA (by decide) hH hS hB gk0_20 g_cl5 cdf5 kcl_X10_25 kin5 kit5 (Nat.le_of_ble_eq_true rfl) (Nat.le_of_ble_eq_true rfl) dX10_init_31 (fun H hH hS => ?_)
  refine lv_dup (pc := 34) hx hb dX10_init_34 rfl ?_
  refine c_callI (pc := 35) (np := 0) (k := 20) (rest := [.ref (ad (20)), .ref (ad 0)]) hC hU hH hS hB hl.1 (nX5 (k := 20) hA gk0_20 (by decide)) kic5 kit5 kii5 rfl (by decide) (Or.inr ⟨"CradleTreaty", List.mem_of_getElem? (i := 3) rfl⟩) ⟨(Nat.le_of_ble_eq_true rfl), (Nat.le_of_ble_eq_true rfl)⟩ ⟨(Nat.le_of_ble_eq_true rfl), (Nat.le_of_ble_eq_true rfl)⟩ rfl (Nat.le_of_ble_eq_true rfl) dX10_init_35 rfl (fun H locs hH hS => ?_)
  refine c_putr (v := 20) (pc := 38) hC hin hU hA (by decide) hH hS (by decide) gk0_0 g_cl10 rfl ct10 2 (by decide) kg_X10_28 rfl rfl rfl rfl dX10_init_38 (fun H locs hH hS => ?_)
  refine lv_aload_n (pc := 41) hx hb dX10_init_41 rfl (lv_at hl 0 rfl) ?_
  refine c_new (pc := 42) hC hU hA (by decide) hH hS hB gk0_23 g_cl1 cdf1 kcl_X10_32 kin1 kit1 (Nat.le_of_ble_eq_true rfl) (Nat.le_of_ble_eq_true rfl) dX10_init_42 (fun H hH hS => ?_)
  refine lv_dup (pc := 45) hx hb dX10_init_45 rfl ?_
  refine c_callI (pc := 46) (np := 0) (k := 23) (rest := [.ref (ad (23)), .ref (ad 0)]) hC hU hH hS hB hl.1 (nX1 hA) kic1 kit1 kii1 rfl (by decide) (Or.inl km_X10_34) ⟨(Nat.le_of_ble_eq_true rfl), (Nat.le_of_ble_eq_true rfl)⟩ ⟨(Nat.le_of_ble_eq_true rfl), (Nat.le_of_ble_eq_true rfl)⟩ rfl (Nat.le_of_ble_eq_true rfl) dX10_init_46 rfl (fun H locs hH hS => ?_)
  refine c_putr (v := 23) (pc := 49) hC hin hU hA (by decide) hH hS (by decide) gk0_0 g_cl10 rfl ct10 3 (by decide) kg_X10_35 rfl rfl rfl rfl dX10_init_49 (fun H locs hH hS => ?_)
  refine lv_aload_n (pc := 52) hx hb dX10_init_52 rfl (lv_at hl 0 rfl) ?_
  refine lv_iconst (v := 3) (pc := 53) hx hb dX10_init_53 (by decide) ?_
  refine c_newq (pc := 54) hC hU hA (by decide) hH hS hB gk0_148 gn0_148 kcl_X10_25 (by decide) rfl (by decide) (Nat.le_of_ble_eq_true rfl) (Nat.le_of_ble_eq_true rfl) dX10_init_54 (fun H hH hS => ?_)
  refine c_putr (v := 148) (pc := 57) hC hin hU hA (by decide) hH hS (by decide) gk0_0 g_cl10 rfl ct10 4 (by decide) kg_X10_39 rfl rfl rfl rfl dX10_init_57 (fun H locs hH hS => ?_)
  refine lv_aload_n (pc := 60) hx hb dX10_init_60 rfl (lv_at hl 0 rfl) ?_
  refine lv_iconst (v := 3) (pc := 61) hx hb dX10_init_61 (by decide) ?_
  refine c_newa (atype := .boolean) (ty := .boolean) (c0 := 21) (pc := 62) hC hU hA (by decide) hH hS hB gk0_149 gn0_149 (by decide) (by decide) rfl rfl rfl (fun _ => Iff.rfl) kac_boolean (by decide) rfl (by decide) (Nat.le_of_ble_eq_true rfl) (Nat.le_of_ble_eq_true rfl) dX10_init_62 (fun H hH hS => ?_)
  refine c_putr (v := 149) (pc := 64) hC hin hU hA (by decide) hH hS (by decide) gk0_0 g_cl10 rfl ct10 5 (by decide) kg_X10_43 rfl rfl rfl rfl dX10_init_64 (fun H locs hH hS => ?_)
  refine lv_aload_n (pc := 67) hx hb dX10_init_67 rfl (lv_at hl 0 rfl) ?_
  refine c_new (pc := 68) hC hU hA (by decide) hH hS hB gk0_150 g_cl9 cdf9 kcl_X10_47 kin9 kit9 (Nat.le_of_ble_eq_true rfl) (Nat.le_of_ble_eq_true rfl) dX10_init_68 (fun H hH hS => ?_)
  refine lv_dup (pc := 71) hx hb dX10_init_71 rfl ?_
  refine c_callI (pc := 72) (np := 0) (k := 150) (rest := [.ref (ad (150)), .ref (ad 0)]) hC hU hH hS hB hl.1 (nX9 hA) kic9 kit9 kii9 rfl (by decide) (Or.inr ⟨"CradleTreaty", List.mem_of_getElem? (i := 5) rfl⟩) ⟨(Nat.le_of_ble_eq_true rfl), (Nat.le_of_ble_eq_true rfl)⟩ ⟨(Nat.le_of_ble_eq_true rfl), (Nat.le_of_ble_eq_true rfl)⟩ rfl (Nat.le_of_ble_eq_true rfl) dX10_init_72 rfl (fun H locs hH hS => ?_)
  refine c_putr (v := 150) (pc := 75) hC hin hU hA (by decide) hH hS (by decide) gk0_0 g_cl10 rfl ct10 6 (by decide) kg_X10_50 rfl rfl rfl rfl dX10_init_75 (fun H locs hH hS => ?_)
  refine lv_aload_n (pc := 78) hx hb dX10_init_78 rfl (lv_at hl 0 rfl) ?_
  refine c_new (pc := 79) hC hU hA (by decide) hH hS hB gk0_167 g_cl3 cdf3 kcl_X10_54 kin3 kit3 (Nat.le_of_ble_eq_true rfl) (Nat.le_of_ble_eq_true rfl) dX10_init_79 (fun H hH hS => ?_)
  refine lv_dup (pc := 82) hx hb dX10_init_82 rfl ?_
  refine c_callI (pc := 83) (np := 0) (k := 167) (rest := [.ref (ad (167)), .ref (ad 0)]) hC hU hH hS hB hl.1 (nX3 hA) kic3 kit3 kii3 rfl (by decide) (Or.inr ⟨"CradleTreaty", List.mem_of_getElem? (i := 6) rfl⟩) ⟨(Nat.le_of_ble_eq_true rfl), (Nat.le_of_ble_eq_true rfl)⟩ ⟨(Nat.le_of_ble_eq_true rfl), (Nat.le_of_ble_eq_true rfl)⟩ rfl (Nat.le_of_ble_eq_true rfl) dX10_init_83 rfl (fun H locs hH hS => ?_)
  refine c_putr (v := 167) (pc := 86) hC hin hU hA (by decide) hH hS (by decide) gk0_0 g_cl10 rfl ct10 7 (by decide) kg_X10_57 rfl rfl rfl rfl dX10_init_86 (fun H locs hH hS => ?_)
  refine lv_aload_n (pc := 89) hx hb dX10_init_89 rfl (lv_at hl 0 rfl) ?_
  refine c_new (pc := 90) hC hU hA (by decide) hH hS hB gk0_169 g_cl2 cdf2 kcl_X10_61 kin2 kit2 (Nat.le_of_ble_eq_true rfl) (Nat.le_of_ble_eq_true rfl) dX10_init_90 (fun H hH hS => ?_)
  refine lv_dup (pc := 93) hx hb dX10_init_93 rfl ?_
  refine c_callI (pc := 94) (np := 0) (k := 169) (rest := [.ref (ad (169)), .ref (ad 0)]) hC hU hH hS hB hl.1 (nX2 hA) kic2 kit2 kii2 rfl (by decide) (Or.inr ⟨"CradleTreaty", List.mem_of_getElem? (i := 7) rfl⟩) ⟨(Nat.le_of_ble_eq_true rfl), (Nat.le_of_ble_eq_true rfl)⟩ ⟨(Nat.le_of_ble_eq_true rfl), (Nat.le_of_ble_eq_true rfl)⟩ rfl (Nat.le_of_ble_eq_true rfl) dX10_init_94 rfl (fun H locs hH hS => ?_)
  refine c_putr (v := 169) (pc := 97) hC hin hU hA (by decide) hH hS (by decide) gk0_0 g_cl10 rfl ct10 8 (by decide) kg_X10_64 rfl rfl rfl rfl dX10_init_97 (fun H locs hH hS => ?_)
  refine lv_aload_n (pc := 100) hx hb dX10_init_100 rfl (lv_at hl 0 rfl) ?_
  refine c_new (pc := 101) hC hU hA (by decide) hH hS hB gk0_194 g_cl8 cdf8 kcl_X10_68 kin8 kit8 (Nat.le_of_ble_eq_true rfl) (Nat.le_of_ble_eq_true rfl) dX10_init_101 (fun H hH hS => ?_)
  refine lv_dup (pc := 104) hx hb dX10_init_104 rfl ?_
  refine c_callI (pc := 105) (np := 0) (k := 194) (rest := [.ref (ad (194)), .ref (ad 0)]) hC hU hH hS hB hl.1 (nX8 (k := 194) hA gk0_194 (by decide)) kic8 kit8 kii8 rfl (by decide) (Or.inr ⟨"CradleTreaty", List.mem_of_getElem? (i := 8) rfl⟩) ⟨(Nat.le_of_ble_eq_true rfl), (Nat.le_of_ble_eq_true rfl)⟩ ⟨(Nat.le_of_ble_eq_true rfl), (Nat.le_of_ble_eq_true rfl)⟩ rfl (Nat.le_of_ble_eq_true rfl) dX10_init_105 rfl (fun H locs hH hS => ?_)
  refine c_putq (v := 194) (pc := 108) hC hin hU hA (by decide) hH hS (by decide) gk0_0 g_cl10 rfl ct10 9 (by decide) kg_X10_71 rfl rfl rfl dX10_init_108 (fun H locs hH hS => ?_)
  refine lv_iconst (v := 0) (pc := 111) hx hb dX10_init_111 (by decide) ?_
  refine lv_istore_n (lv' := [(1, .int 0), (0, .ref (ad 0))]) (pc := 112) hx hb dX10_init_112 rfl hl (by decide) rfl (fun ls hl => ?_)
  exact x10_loop hf hC hret hlk hU hA hB hX 3 0 (by decide) rfl rfl rfl hH hS (lv_sub hl [1, 0] rfl)
end CX
