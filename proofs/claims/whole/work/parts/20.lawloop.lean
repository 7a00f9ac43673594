/-! THE CLAIM OUT OF ONE WALK OF THE LAW'S BODY. Your part is whole_start (and what it stands on); all else here is the same for every law, but numbers. -/
def R_law : String := "CradleTreatyLaw"
def lw_P (b : Addr) (xs : List Int32) (args : Array Value) (s : State) : Prop := args = #[.ref b] ∧ s.IntsAt b xs ∧ xs.length ≤ 3072 ∧ (Jvm.Cond.and given_1 narrow_1).before args s = true
def lw_Q (_ : Array Value) (s : State) (o : Outcome) (t : State) : Prop := o = .returned (some (.int 1)) ∧ Framed s o t [] 600000 7302250
def lw_Z (below : List Frame) (a : Array Value) (s : State) : State → Prop := fun t => ∃ o, t.status = .running ∧ Ended t below o ∧ lw_Q a s o t
/-- the law's own end, with 1 on the stack, nothing written that was there before, its room as the claim has it -/
theorem lw_ret {p : Program} {l : Launch} {e : Env} {s : State} {m : MethodId} {below : List Frame} {meth : Method} {c : Code} {b : Nat} (hx : p.tables.exec = Jvm.exec) (hb : c.code = code) (hr : meth.sig.returnType = ret) (hlocks : meth.locks = false) {pc : Nat} {H : Heap} {ls : Array Slot} (hdg : decode code pc = .ok (.ireturn, 1)) : W p l e room_1 s m #[Value.ref b] below meth c H [] 600000 7302250 (lw_Z below #[Value.ref b] s) (F0 m pc ls [.int 1]) := by
  intro T hT X
  obtain ⟨fs, hret, hrun, hended, hW, hframe⟩ := X.leave (v := some (.int 1)) (hlocks := hlocks) (fun h => by rw [hr] at h; cases h)
  have hmeth' : T.vm.method? m = some meth := X.method'
  refine ⟨T.setFrames fs, ?_, .returned (some (.int 1)), hrun, hended, rfl, ⟨_, rfl⟩, hW, hframe⟩
  jvm_step X.here [X.here.top, hx, hb, hdg, hmeth', hr, ret, narrow_b1]
  (try refine ⟨rfl, ?_⟩); (try refine ⟨rfl, ?_⟩)
  first | (intro acts; rw [hret _ acts rfl rfl rfl]) | rw [hret _ _ rfl rfl rfl]
  exact Steps.refl _
/-- what holds at the law's entry: the machine, the code, the tables' words (any of lw_tbl by 'hts w (by decide +kernel)'), the script of L ints xs at the cell b, what the Statement gives of the start (any of its parts by flat_of_before) -/
def lw_At (p : Program) (s : State) (m : MethodId) (meth : Method) (c : Code) (b L : Nat) (xs : Nat → Int32) : Prop :=
  p.tables.exec = Jvm.exec ∧ c.code = code ∧ meth.sig.returnType = ret ∧ c.maxLocals = 4 ∧ s.vm.findClass R_law = some m.cls ∧ (∀ w ∈ lw_tbl, w.before #[Value.ref b] s = true) ∧ va_X b L xs s s.heap ∧ b < s.heap.size ∧ meth.locks = false ∧ (Jvm.Cond.and given_1 narrow_1).before #[Value.ref b] s = true
/-- every call: what is to be shown of the two programs as functions -/
def StepAll (I : gS → gS → Prop) : Prop :=
  (∀ a1 a2 a3 a4 a5 : Int32, sOK I (fX10_feed a1 a2 a3 a4 a5) (fX11_feed a1 a2 a3 a4 a5)) ∧
  (∀ a1 : Int32, sOK I (fX10_end a1) (fX11_end a1)) ∧
  (sOK I fX10_treaty fX11_treaty) ∧
  (∀ a1 : Int32, sOK I (fX10_fault a1) (fX11_fault a1)) ∧
  (∀ a1 a2 : Int32, sOK I (fX10_tribe a1 a2) (fX11_tribe a1 a2)) ∧
  (∀ a1 a2 : Int32, sOK I (fX10_move a1 a2) (fX11_move a1 a2)) ∧
  (∀ a1 a2 : Int32, sOK I (fX10_worth a1 a2) (fX11_worth a1 a2)) ∧
  (∀ a1 a2 : Int32, sOK I (fX10_slip a1 a2) (fX11_slip a1 a2)) ∧
  (∀ a1 a2 : Int32, sOK I (fX10_take a1 a2) (fX11_take a1 a2)) ∧
  (sOK I fX10_rain fX11_rain) ∧
  (∀ a1 : Int32, sOK I (fX10_give a1) (fX11_give a1)) ∧
  (sOK I fX10_night fX11_night) ∧
  (sOK I fX10_undo fX11_undo) ∧
  (sOK I fX10_redo fX11_redo) ∧
  (∀ a1 a2 : Int32, sOK I (fX10_way a1 a2) (fX11_way a1 a2)) ∧
  (∀ a1 a2 a3 : Int32, sOK I (fX10_surest a1 a2 a3) (fX11_surest a1 a2 a3)) ∧
  (∀ a1 : Int32, sOK I (fX10_makes a1) (fX11_makes a1)) ∧
  (∀ a1 a2 : Int32, sOK I (fX10_hands a1 a2) (fX11_hands a1 a2)) ∧
  (∀ a1 a2 : Int32, sOK I (fX10_deal a1 a2) (fX11_deal a1 a2)) ∧
  (sOK I fX10_fair fX11_fair) ∧
  (sOK I fX10_good fX11_good) ∧
  (∀ a1 : Int32, sOK I (fX10_round a1) (fX11_round a1)) ∧
  (∀ a1 : Int32, sOK I (fX10_near a1) (fX11_near a1)) ∧
  (∀ a1 a2 : Int32, sOK I (fX10_both a1 a2) (fX11_both a1 a2)) ∧
  (∀ a1 : Int32, sOK I (fX10_clumsy a1) (fX11_clumsy a1)) ∧
  (sOK I fX10_idle fX11_idle) ∧
  (sOK I fX10_ends fX11_ends) ∧
  (sOK I fX10_sources fX11_sources) ∧
  (∀ a1 a2 : Int32, sOK I (fX10_will a1 a2) (fX11_will a1 a2)) ∧
  (∀ a1 : Int32, sOK I (fX10_mirror a1) (fX11_mirror a1)) ∧
  (∀ a1 : Int32, sOK I (fX10_lies a1) (fX11_lies a1)) ∧
  (∀ a1 a2 a3 : Int32, gB a3 → sOK I (fX10_seen a1 a2 a3) (fX11_seen a1 a2 a3)) ∧
  (∀ a1 a2 a3 : Int32, gB a3 → sOK I (fX10_felt a1 a2 a3) (fX11_felt a1 a2 a3)) ∧
  (∀ a1 : Int32, sOK I (fX10_untell a1) (fX11_untell a1)) ∧
  (∀ a1 : Int32, sOK I (fX10_later a1) (fX11_later a1)) ∧
  (∀ a1 : Int32, sOK I (fX10_rows a1) (fX11_rows a1)) ∧
  (∀ a1 a2 : Int32, sOK I (fX10_sure a1 a2) (fX11_sure a1 a2)) ∧
  (∀ a1 a2 : Int32, sOK I (fX10_ask a1 a2) (fX11_ask a1 a2)) ∧
  (∀ a1 : Int32, sOK I (fX10_image a1) (fX11_image a1)) ∧
  (∀ a1 : Int32, sOK I (fX10_back a1) (fX11_back a1)) ∧
  (∀ a1 : Int32, sOK I (fX10_about a1) (fX11_about a1))
theorem law_out {i L : Nat} {x3 : Int32} (hL : L ≤ 3072) (hi : i ≤ 3072) (ex : x3 = nI i) (h : L < i + 6) : Int32.ofNat L - 6 < x3 := by
  subst ex
  rw [Int32.lt_iff_toInt_lt]
  have e1 : (Int32.ofNat L - 6).toInt = (L : Int) - 6 := by
    have := pk_sub_toInt (a := L) (b := 6) (by omega) (by omega)
    exact this
  rw [e1, nI_toInt (by omega)]
  omega
section
variable {p : Program} {l : Launch} {e : Env} {s : State} {m : MethodId} {below : List Frame} {meth : Method} {c : Code} {D : va_G} {cA : Nat → ClassId} {adx adm : Nat → Nat} {b L B2 : Nat} {xs : Nat → Int32} {I : gS → gS → Prop}
set_option maxRecDepth 100000 in
set_option maxHeartbeats 4000000 in
/-- the law's loop -/
theorem law_loop (hL : L ≤ 3072) (hA : StepAll I) (K : lawK p s m meth c b L xs D cA adx adm B2) (hr : meth.sig.returnType = ret) (hlk : meth.locks = false) : ∀ (n i : Nat), i ≤ 3072 → L < i + 6 * n + 6 → ∀ {x3 : Int32} {x y : gS} {H : Heap} {locs : List Loc} {ls : Array Slot}, x3 = nI i → I x y → lawH s D cA adx adm x y H locs → lv_has ls 4 [(0, .ref b), (1, .ref (adx 0)), (2, .ref (adm 0)), (3, .int x3)] →
    W p l e room_1 s m #[Value.ref b] below meth c H locs 265 8728 (lw_Z below #[Value.ref b] s) (F0 m 18 ls []) := by
  obtain ⟨hx, hb, hml, hown, hts⟩ := id K.1
  intro n
  induction n with
  | zero =>
    intro i hi hn x3 x y H locs ls ex hI hH hl
    refine lv_iload_n (pc := 18) hx hb dL_law_18 rfl (lv_at hl 3 rfl) ?_
    refine lv_aload_n (pc := 19) hx hb dL_law_19 rfl (lv_at hl 0 rfl) ?_
    refine l_slen (pc := 20) K hH dL_law_20 ?_
    refine lv_bipush (v := 6) (pc := 21) hx hb dL_law_21 (by decide) ?_
    refine lv_isub (pc := 23) hx hb dL_law_23 ?_
    refine lv_icmp_gt (tgt := 1313) (pc := 24) hx hb dL_law_24 (by decide) (fun hc => ?_) (fun hc => ?_)
    · refine lv_iconst (v := 1) (pc := 1313) hx hb dL_law_1313 (by decide) ?_
      refine va_forget (fun q hq => hH.2.2.2.2 q hq) ?_
      refine W.widen (k := 600000) (n := 7302250) (Nat.le_of_ble_eq_true rfl) (Nat.le_of_ble_eq_true rfl) ?_
      exact lw_ret hx hb hr hlk dL_law_1314
    · exact absurd (law_out (by omega) (by omega) ex (by omega)) hc
  | succ n ih =>
    intro i hi hn x3 x y H locs ls ex hI hH hl
    refine lv_iload_n (pc := 18) hx hb dL_law_18 rfl (lv_at hl 3 rfl) ?_
    refine lv_aload_n (pc := 19) hx hb dL_law_19 rfl (lv_at hl 0 rfl) ?_
    refine l_slen (pc := 20) K hH dL_law_20 ?_
    refine lv_bipush (v := 6) (pc := 21) hx hb dL_law_21 (by decide) ?_
    refine lv_isub (pc := 23) hx hb dL_law_23 ?_
    refine lv_icmp_gt (tgt := 1313) (pc := 24) hx hb dL_law_24 (by decide) (fun hc => ?_) (fun hc => ?_)
    · refine lv_iconst (v := 1) (pc := 1313) hx hb dL_law_1313 (by decide) ?_
      refine va_forget (fun q hq => hH.2.2.2.2 q hq) ?_
      refine W.widen (k := 600000) (n := 7302250) (Nat.le_of_ble_eq_true rfl) (Nat.le_of_ble_eq_true rfl) ?_
      exact lw_ret hx hb hr hlk dL_law_1314
    · have hin : i + 6 ≤ L := Nat.not_lt.mp fun h => hc (law_out (by omega) (by omega) ex (by omega))
      have hI0 : ∀ k : Nat, k < 6 → vp_in (x3 + nI k) L := fun k hk => by rw [ex, nI_add]; exact vp_in_nI (by omega) (by omega)
      have hk : ∀ {x y : gS} {H : Heap} {locs : List Loc} {ls : Array Slot}, I x y → lawH s D cA adx adm x y H locs → lv_has ls 4 [(0, .ref b), (1, .ref (adx 0)), (2, .ref (adm 0)), (3, .int x3)] → W p l e room_1 s m #[Value.ref b] below meth c H locs 265 8728 (lw_Z below #[Value.ref b] s) (F0 m 1307 ls []) := by
        intro x y H locs ls hI hH hl
        refine lv_iinc (v := x3 + 6) (lv' := [(3, .int (x3 + 6)), (0, .ref b), (1, .ref (adx 0)), (2, .ref (adm 0))]) (k := 3) (pc := 1307) hx hb dL_law_1307 hl rfl rfl (by decide) rfl (fun ls hl => ?_)
        refine lv_goto (tgt := 18) (pc := 1310) hx hb dL_law_1310 (by decide) ?_
        exact ih (i + 6) (by omega) (by omega) (by rw [ex]; exact nI_add i 6) hI hH (lv_sub hl [1, 2, 3, 0] rfl)
      have h1 : vp_in (x3 + 1) L := hI0 1 (by decide)
      have h2 : vp_in (x3 + 2) L := hI0 2 (by decide)
      have h3 : vp_in (x3 + 3) L := hI0 3 (by decide)
      have h4 : vp_in (x3 + 4) L := hI0 4 (by decide)
      have h5 : vp_in (x3 + 5) L := hI0 5 (by decide)
      refine lv_aload_n (pc := 27) hx hb dL_law_27 rfl (lv_at hl 0 rfl) ?_
      refine lv_iload_n (pc := 28) hx hb dL_law_28 rfl (lv_at hl 3 rfl) ?_
      refine l_sld (pc := 29) K hH (by rw [ex]; exact vp_in_nI (by omega) (by omega)) dL_law_29 ?_
      refine lv_bipush (v := 63) (pc := 30) hx hb dL_law_30 (by decide) ?_
      refine lv_iand (pc := 32) hx hb dL_law_32 ?_
      refine lv_topi (pc := 33) (fun z ez => ?_)
      by_cases z0 : z = 0
      · refine g_tswI (tgt := 212) (off := 179) (pc := 33) hx hb z0 dL_law_33 (by decide) (by decide) (by decide) (by decide) ?_
        exact lc_feed hA.1 K h1 h2 h3 h4 h5 hk hI hH hl
      by_cases z1 : z = 1
      · refine g_tswI (tgt := 275) (off := 242) (pc := 33) hx hb z1 dL_law_33 (by decide) (by decide) (by decide) (by decide) ?_
        exact lc_end hA.2.1 K h1 h2 h3 h4 h5 hk hI hH hl
      by_cases z2 : z = 2
      · refine g_tswI (tgt := 298) (off := 265) (pc := 33) hx hb z2 dL_law_33 (by decide) (by decide) (by decide) (by decide) ?_
        exact lc_treaty hA.2.2.1 K h1 h2 h3 h4 h5 hk hI hH hl
      by_cases z3 : z = 3
      · refine g_tswI (tgt := 311) (off := 278) (pc := 33) hx hb z3 dL_law_33 (by decide) (by decide) (by decide) (by decide) ?_
        exact lc_fault hA.2.2.2.1 K h1 h2 h3 h4 h5 hk hI hH hl
      by_cases z4 : z = 4
      · refine g_tswI (tgt := 334) (off := 301) (pc := 33) hx hb z4 dL_law_33 (by decide) (by decide) (by decide) (by decide) ?_
        exact lc_tribe hA.2.2.2.2.1 K h1 h2 h3 h4 h5 hk hI hH hl
      by_cases z5 : z = 5
      · refine g_tswI (tgt := 367) (off := 334) (pc := 33) hx hb z5 dL_law_33 (by decide) (by decide) (by decide) (by decide) ?_
        exact lc_move hA.2.2.2.2.2.1 K h1 h2 h3 h4 h5 hk hI hH hl
      by_cases z6 : z = 6
      · refine g_tswI (tgt := 400) (off := 367) (pc := 33) hx hb z6 dL_law_33 (by decide) (by decide) (by decide) (by decide) ?_
        exact lc_worth hA.2.2.2.2.2.2.1 K h1 h2 h3 h4 h5 hk hI hH hl
      by_cases z7 : z = 7
      · refine g_tswI (tgt := 433) (off := 400) (pc := 33) hx hb z7 dL_law_33 (by decide) (by decide) (by decide) (by decide) ?_
        exact lc_slip hA.2.2.2.2.2.2.2.1 K h1 h2 h3 h4 h5 hk hI hH hl
      by_cases z8 : z = 8
      · refine g_tswI (tgt := 466) (off := 433) (pc := 33) hx hb z8 dL_law_33 (by decide) (by decide) (by decide) (by decide) ?_
        exact lc_take hA.2.2.2.2.2.2.2.2.1 K h1 h2 h3 h4 h5 hk hI hH hl
      by_cases z9 : z = 9
      · refine g_tswI (tgt := 499) (off := 466) (pc := 33) hx hb z9 dL_law_33 (by decide) (by decide) (by decide) (by decide) ?_
        exact lc_rain hA.2.2.2.2.2.2.2.2.2.1 K h1 h2 h3 h4 h5 hk hI hH hl
      by_cases z10 : z = 10
      · refine g_tswI (tgt := 512) (off := 479) (pc := 33) hx hb z10 dL_law_33 (by decide) (by decide) (by decide) (by decide) ?_
        exact lc_give hA.2.2.2.2.2.2.2.2.2.2.1 K h1 h2 h3 h4 h5 hk hI hH hl
      by_cases z11 : z = 11
      · refine g_tswI (tgt := 535) (off := 502) (pc := 33) hx hb z11 dL_law_33 (by decide) (by decide) (by decide) (by decide) ?_
        exact lc_night hA.2.2.2.2.2.2.2.2.2.2.2.1 K h1 h2 h3 h4 h5 hk hI hH hl
      by_cases z12 : z = 12
      · refine g_tswI (tgt := 548) (off := 515) (pc := 33) hx hb z12 dL_law_33 (by decide) (by decide) (by decide) (by decide) ?_
        exact lc_undo hA.2.2.2.2.2.2.2.2.2.2.2.2.1 K h1 h2 h3 h4 h5 hk hI hH hl
      by_cases z13 : z = 13
      · refine g_tswI (tgt := 561) (off := 528) (pc := 33) hx hb z13 dL_law_33 (by decide) (by decide) (by decide) (by decide) ?_
        exact lc_redo hA.2.2.2.2.2.2.2.2.2.2.2.2.2.1 K h1 h2 h3 h4 h5 hk hI hH hl
      by_cases z14 : z = 14
      · refine g_tswI (tgt := 574) (off := 541) (pc := 33) hx hb z14 dL_law_33 (by decide) (by decide) (by decide) (by decide) ?_
        exact lc_way hA.2.2.2.2.2.2.2.2.2.2.2.2.2.2.1 K h1 h2 h3 h4 h5 hk hI hH hl
      by_cases z15 : z = 15
      · refine g_tswI (tgt := 607) (off := 574) (pc := 33) hx hb z15 dL_law_33 (by decide) (by decide) (by decide) (by decide) ?_
        exact lc_surest hA.2.2.2.2.2.2.2.2.2.2.2.2.2.2.2.1 K h1 h2 h3 h4 h5 hk hI hH hl
      by_cases z16 : z = 16
      · refine g_tswI (tgt := 650) (off := 617) (pc := 33) hx hb z16 dL_law_33 (by decide) (by decide) (by decide) (by decide) ?_
        exact lc_makes hA.2.2.2.2.2.2.2.2.2.2.2.2.2.2.2.2.1 K h1 h2 h3 h4 h5 hk hI hH hl
      by_cases z17 : z = 17
      · refine g_tswI (tgt := 673) (off := 640) (pc := 33) hx hb z17 dL_law_33 (by decide) (by decide) (by decide) (by decide) ?_
        exact lc_hands hA.2.2.2.2.2.2.2.2.2.2.2.2.2.2.2.2.2.1 K h1 h2 h3 h4 h5 hk hI hH hl
      by_cases z18 : z = 18
      · refine g_tswI (tgt := 706) (off := 673) (pc := 33) hx hb z18 dL_law_33 (by decide) (by decide) (by decide) (by decide) ?_
        exact lc_deal hA.2.2.2.2.2.2.2.2.2.2.2.2.2.2.2.2.2.2.1 K h1 h2 h3 h4 h5 hk hI hH hl
      by_cases z19 : z = 19
      · refine g_tswI (tgt := 739) (off := 706) (pc := 33) hx hb z19 dL_law_33 (by decide) (by decide) (by decide) (by decide) ?_
        exact lc_fair hA.2.2.2.2.2.2.2.2.2.2.2.2.2.2.2.2.2.2.2.1 K h1 h2 h3 h4 h5 hk hI hH hl
      by_cases z20 : z = 20
      · refine g_tswI (tgt := 752) (off := 719) (pc := 33) hx hb z20 dL_law_33 (by decide) (by decide) (by decide) (by decide) ?_
        exact lc_good hA.2.2.2.2.2.2.2.2.2.2.2.2.2.2.2.2.2.2.2.2.1 K h1 h2 h3 h4 h5 hk hI hH hl
      by_cases z21 : z = 21
      · refine g_tswI (tgt := 765) (off := 732) (pc := 33) hx hb z21 dL_law_33 (by decide) (by decide) (by decide) (by decide) ?_
        exact lc_round hA.2.2.2.2.2.2.2.2.2.2.2.2.2.2.2.2.2.2.2.2.2.1 K h1 h2 h3 h4 h5 hk hI hH hl
      by_cases z22 : z = 22
      · refine g_tswI (tgt := 788) (off := 755) (pc := 33) hx hb z22 dL_law_33 (by decide) (by decide) (by decide) (by decide) ?_
        exact lc_near hA.2.2.2.2.2.2.2.2.2.2.2.2.2.2.2.2.2.2.2.2.2.2.1 K h1 h2 h3 h4 h5 hk hI hH hl
      by_cases z23 : z = 23
      · refine g_tswI (tgt := 811) (off := 778) (pc := 33) hx hb z23 dL_law_33 (by decide) (by decide) (by decide) (by decide) ?_
        exact lc_both hA.2.2.2.2.2.2.2.2.2.2.2.2.2.2.2.2.2.2.2.2.2.2.2.1 K h1 h2 h3 h4 h5 hk hI hH hl
      by_cases z24 : z = 24
      · refine g_tswI (tgt := 844) (off := 811) (pc := 33) hx hb z24 dL_law_33 (by decide) (by decide) (by decide) (by decide) ?_
        exact lc_clumsy hA.2.2.2.2.2.2.2.2.2.2.2.2.2.2.2.2.2.2.2.2.2.2.2.2.1 K h1 h2 h3 h4 h5 hk hI hH hl
      by_cases z25 : z = 25
      · refine g_tswI (tgt := 867) (off := 834) (pc := 33) hx hb z25 dL_law_33 (by decide) (by decide) (by decide) (by decide) ?_
        exact lc_idle hA.2.2.2.2.2.2.2.2.2.2.2.2.2.2.2.2.2.2.2.2.2.2.2.2.2.1 K h1 h2 h3 h4 h5 hk hI hH hl
      by_cases z26 : z = 26
      · refine g_tswI (tgt := 880) (off := 847) (pc := 33) hx hb z26 dL_law_33 (by decide) (by decide) (by decide) (by decide) ?_
        exact lc_ends hA.2.2.2.2.2.2.2.2.2.2.2.2.2.2.2.2.2.2.2.2.2.2.2.2.2.2.1 K h1 h2 h3 h4 h5 hk hI hH hl
      by_cases z27 : z = 27
      · refine g_tswI (tgt := 893) (off := 860) (pc := 33) hx hb z27 dL_law_33 (by decide) (by decide) (by decide) (by decide) ?_
        exact lc_sources hA.2.2.2.2.2.2.2.2.2.2.2.2.2.2.2.2.2.2.2.2.2.2.2.2.2.2.2.1 K h1 h2 h3 h4 h5 hk hI hH hl
      by_cases z28 : z = 28
      · refine g_tswI (tgt := 906) (off := 873) (pc := 33) hx hb z28 dL_law_33 (by decide) (by decide) (by decide) (by decide) ?_
        exact lc_will hA.2.2.2.2.2.2.2.2.2.2.2.2.2.2.2.2.2.2.2.2.2.2.2.2.2.2.2.2.1 K h1 h2 h3 h4 h5 hk hI hH hl
      by_cases z29 : z = 29
      · refine g_tswI (tgt := 939) (off := 906) (pc := 33) hx hb z29 dL_law_33 (by decide) (by decide) (by decide) (by decide) ?_
        exact lc_mirror hA.2.2.2.2.2.2.2.2.2.2.2.2.2.2.2.2.2.2.2.2.2.2.2.2.2.2.2.2.2.1 K h1 h2 h3 h4 h5 hk hI hH hl
      by_cases z30 : z = 30
      · refine g_tswI (tgt := 962) (off := 929) (pc := 33) hx hb z30 dL_law_33 (by decide) (by decide) (by decide) (by decide) ?_
        exact lc_lies hA.2.2.2.2.2.2.2.2.2.2.2.2.2.2.2.2.2.2.2.2.2.2.2.2.2.2.2.2.2.2.1 K h1 h2 h3 h4 h5 hk hI hH hl
      by_cases z31 : z = 31
      · refine g_tswI (tgt := 985) (off := 952) (pc := 33) hx hb z31 dL_law_33 (by decide) (by decide) (by decide) (by decide) ?_
        exact lc_seen hA.2.2.2.2.2.2.2.2.2.2.2.2.2.2.2.2.2.2.2.2.2.2.2.2.2.2.2.2.2.2.2.1 K h1 h2 h3 h4 h5 hk hI hH hl
      by_cases z32 : z = 32
      · refine g_tswI (tgt := 1044) (off := 1011) (pc := 33) hx hb z32 dL_law_33 (by decide) (by decide) (by decide) (by decide) ?_
        exact lc_felt hA.2.2.2.2.2.2.2.2.2.2.2.2.2.2.2.2.2.2.2.2.2.2.2.2.2.2.2.2.2.2.2.2.1 K h1 h2 h3 h4 h5 hk hI hH hl
      by_cases z33 : z = 33
      · refine g_tswI (tgt := 1103) (off := 1070) (pc := 33) hx hb z33 dL_law_33 (by decide) (by decide) (by decide) (by decide) ?_
        exact lc_untell hA.2.2.2.2.2.2.2.2.2.2.2.2.2.2.2.2.2.2.2.2.2.2.2.2.2.2.2.2.2.2.2.2.2.1 K h1 h2 h3 h4 h5 hk hI hH hl
      by_cases z34 : z = 34
      · refine g_tswI (tgt := 1126) (off := 1093) (pc := 33) hx hb z34 dL_law_33 (by decide) (by decide) (by decide) (by decide) ?_
        exact lc_later hA.2.2.2.2.2.2.2.2.2.2.2.2.2.2.2.2.2.2.2.2.2.2.2.2.2.2.2.2.2.2.2.2.2.2.1 K h1 h2 h3 h4 h5 hk hI hH hl
      by_cases z35 : z = 35
      · refine g_tswI (tgt := 1149) (off := 1116) (pc := 33) hx hb z35 dL_law_33 (by decide) (by decide) (by decide) (by decide) ?_
        exact lc_rows hA.2.2.2.2.2.2.2.2.2.2.2.2.2.2.2.2.2.2.2.2.2.2.2.2.2.2.2.2.2.2.2.2.2.2.2.1 K h1 h2 h3 h4 h5 hk hI hH hl
      by_cases z36 : z = 36
      · refine g_tswI (tgt := 1172) (off := 1139) (pc := 33) hx hb z36 dL_law_33 (by decide) (by decide) (by decide) (by decide) ?_
        exact lc_sure hA.2.2.2.2.2.2.2.2.2.2.2.2.2.2.2.2.2.2.2.2.2.2.2.2.2.2.2.2.2.2.2.2.2.2.2.2.1 K h1 h2 h3 h4 h5 hk hI hH hl
      by_cases z37 : z = 37
      · refine g_tswI (tgt := 1205) (off := 1172) (pc := 33) hx hb z37 dL_law_33 (by decide) (by decide) (by decide) (by decide) ?_
        exact lc_ask hA.2.2.2.2.2.2.2.2.2.2.2.2.2.2.2.2.2.2.2.2.2.2.2.2.2.2.2.2.2.2.2.2.2.2.2.2.2.1 K h1 h2 h3 h4 h5 hk hI hH hl
      by_cases z38 : z = 38
      · refine g_tswI (tgt := 1238) (off := 1205) (pc := 33) hx hb z38 dL_law_33 (by decide) (by decide) (by decide) (by decide) ?_
        exact lc_image hA.2.2.2.2.2.2.2.2.2.2.2.2.2.2.2.2.2.2.2.2.2.2.2.2.2.2.2.2.2.2.2.2.2.2.2.2.2.2.1 K h1 h2 h3 h4 h5 hk hI hH hl
      by_cases z39 : z = 39
      · refine g_tswI (tgt := 1261) (off := 1228) (pc := 33) hx hb z39 dL_law_33 (by decide) (by decide) (by decide) (by decide) ?_
        exact lc_back hA.2.2.2.2.2.2.2.2.2.2.2.2.2.2.2.2.2.2.2.2.2.2.2.2.2.2.2.2.2.2.2.2.2.2.2.2.2.2.2.1 K h1 h2 h3 h4 h5 hk hI hH hl
      by_cases z40 : z = 40
      · refine g_tswI (tgt := 1284) (off := 1251) (pc := 33) hx hb z40 dL_law_33 (by decide) (by decide) (by decide) (by decide) ?_
        exact lc_about hA.2.2.2.2.2.2.2.2.2.2.2.2.2.2.2.2.2.2.2.2.2.2.2.2.2.2.2.2.2.2.2.2.2.2.2.2.2.2.2.2 K h1 h2 h3 h4 h5 hk hI hH hl
      refine g_tswO (tgt := 1307) (n := 41) (pc := 33) hx hb dL_law_33 (by intro j hj; match j, hj with | 0, _ => exact z0 | 1, _ => exact z1 | 2, _ => exact z2 | 3, _ => exact z3 | 4, _ => exact z4 | 5, _ => exact z5 | 6, _ => exact z6 | 7, _ => exact z7 | 8, _ => exact z8 | 9, _ => exact z9 | 10, _ => exact z10 | 11, _ => exact z11 | 12, _ => exact z12 | 13, _ => exact z13 | 14, _ => exact z14 | 15, _ => exact z15 | 16, _ => exact z16 | 17, _ => exact z17 | 18, _ => exact z18 | 19, _ => exact z19 | 20, _ => exact z20 | 21, _ => exact z21 | 22, _ => exact z22 | 23, _ => exact z23 | 24, _ => exact z24 | 25, _ => exact z25 | 26, _ => exact z26 | 27, _ => exact z27 | 28, _ => exact z28 | 29, _ => exact z29 | 30, _ => exact z30 | 31, _ => exact z31 | 32, _ => exact z32 | 33, _ => exact z33 | 34, _ => exact z34 | 35, _ => exact z35 | 36, _ => exact z36 | 37, _ => exact z37 | 38, _ => exact z38 | 39, _ => exact z39 | 40, _ => exact z40 | n + 41, h => exact absurd h (by omega)) rfl (by decide) ?_
      exact hk hI hH hl
end
