theorem cV_congr {w k c i : Nat} {ad : Nat → Nat} {cs cs' : gC} (h1 : cs'.1.1 k i = cs.1.1 k i) (h2 : cs'.1.2.1 k i = cs.1.2.1 k i) (h3 : cs'.1.2.2 k i = cs.1.2.2 k i) (h4 : cs'.2 k i = cs.2 k i) : cV w ad cs' k c i = cV w ad cs k c i := by
  unfold cV
  rw [h1, h2, h3, h4]
section CI
variable {p : Program} {l : Launch} {e : Env} {R : Room} {s : State} {m : MethodId} {args : Array Value} {below : List Frame} {meth : Method} {c : Code} {H : Heap} {locs : List Loc} {cells slots : Nat} {Q : State → Prop}
variable {cc : ByteArray} {pc nL : Nat} {ls : Array Slot} {rest : List Value} {D : va_G} {cA : Nat → ClassId} {ad : Nat → Nat} {w n k B : Nat} {cs cs' : gC} {own : String}
variable {cn N : Nat} {C0 : String} {T : u_T} {ty0 : Nat → FieldType} {idx : Nat}
theorem c_put0 (C : CallFix p m c cc nL s args lw_good own) (hin : meth.name = "<init>") (U : cU D cA s) (A : cAd w B ad) (hn : n ≤ gNC w) (hH : cP w n D cA ad cs H) (hS : va_S (cB B) s.heap H locs) (hkn : k < n) (hk : gK w k = cn) (K : gCl cn C0 T N ty0) (hC0 : C0 = own) (hT1 : ∀ j, j < N → (T j).1 = C0) (j : Nat) (hj : j < N) (L : Cond.fieldLink own idx (T j).1 (T j).2.1 (T j).2.2.1 ∈ lw_good) {v : Value} (hnar : narrow (ty0 j) v = v) (hfit : fits (ty0 j) v = true)
    (h1 : cV w ad cs' k cn j = v) (h2 : ∀ i, i ≠ j → cV w ad cs' k cn i = cV w ad cs k cn i) (h3 : ∀ i, i ≠ k → cE w cA ad cs' i = cE w cA ad cs i) (hdg : decode cc pc = .ok (.putfield idx, 3))
    (kk : ∀ (H1 : Heap) (locs1 : List Loc), cP w n D cA ad cs' H1 → va_S (cB B) s.heap H1 locs1 → W p l e R s m args below meth c H1 locs1 cells slots Q (F0 m (pc + 3) ls rest)) : W p l e R s m args below meth c H locs cells slots Q (F0 m pc ls (v :: .ref (ad k) :: rest)) := by
  obtain ⟨hx, hb, hml, hown, hts⟩ := C
  obtain ⟨hc, hin0, hty, hnm, hl, h20⟩ := K
  have hD := cW_D (cA := cA) (cs := cs) A hn
  have he : (cW w n cA ad cs)[k]? = some (ad k, .inr (cn, (List.range (gft.getD cn []).length).map (cV w ad cs k cn))) := by rw [cW_at hkn, cE_obj hk h20]
  have hlen : j < ((List.range (gft.getD cn []).length).map (cV w ad cs k cn)).length := by rw [List.length_map, List.length_range, hl]; exact hj
  have hset : (cW w n cA ad cs).set k (ad k, .inr (cn, ((List.range (gft.getD cn []).length).map (cV w ad cs k cn)).set j v)) = cW w n cA ad cs' := by
    refine cW_set ?_ h3
    rw [cE_obj hk h20, cV_set h1 h2]
  have hsz : ∀ (H1 : Heap) (locs1 : List Loc), va_P D vwCl ((cW w n cA ad cs).set k (ad k, .inr (cn, ((List.range (gft.getD cn []).length).map (cV w ad cs k cn)).set j v))) H1 → H1.size = H.size → cP w n D cA ad cs' H1 := by
    intro H1 locs1 hP hz
    rw [hset] at hP
    exact ⟨hP, hz.trans hH.2⟩
  have hKn := U.1.1 cn _ hc
  obtain ⟨r, r1, cell, q1, q2, q3, q4⟩ := hH.1 k _ he
  have hr : r = (C0, T, N) := Option.some.inj (r1.symm.trans hc)
  subst hr
  have hap := va_apart (own := own) hts hin0 ty0 hty hnm U.1 hc
  obtain ⟨hSs, hfc, kC, hkC, hkind⟩ := hKn
  obtain ⟨cf, kf, fi, f, hi, hsl⟩ := hSs j hj
  have hst := (u_facts hfc hkC (u_lays hts hin0 hj) hi).1
  have hlay := hts _ (hin0 _ (u_in_lay hj))
  unfold u_lay at hlay
  have fin : ∀ H' : Heap, H'[ad k]? = some (cell.setSlot (D.2 cn j) v) → H'.size = H.size → (∀ q, q ≠ ad k → H'[q]? = H[q]?) → ∀ locs1, (∀ l ∈ locs1, cB B l.base) → W p l e R s m args below meth c H' locs1 cells slots Q (F0 m (pc + 3) ls rest) := by
    intro H' e1 e2 e3 locs1 hlo
    refine kk H' locs1 (hsz H' locs1 (hH.1.set hD he ⟨_, hc, t_OB.to (V := updV (vp_V _) j v) ⟨_, e1, q2, q3, t_set q4 hap hj v⟩ (fun i _ => vp_updV_set hlen v i)⟩ e3) e2) ⟨by rw [e2]; exact hS.1, fun q g1 g2 => ?_, hlo⟩
    rw [e3 q (fun z => g2 (by rw [z]; exact hD.2 k _ he))]
    exact hS.2.1 q g1 g2
  by_cases hfin : (T j).2.2.2 = true
  · rw [if_pos hfin] at hlay
    have hcf : m.cls = cf := by
      obtain ⟨_, _, c', _, _, _, -, -, hf', -, -, -, hown2, -⟩ := Cond.laysFinal_spec hlay
      have e1 : c' = cf := by have := hi.symm.trans hf'; simp at this; exact this.1.symm
      rw [hT1 j hj, hC0] at hown2
      rw [← e1]; exact Option.some.inj (hown.symm.trans hown2)
    have h6 := u_fits hfc hkC hkind (Or.inr hlay) hi (hty j hj) hnar hfit
    refine W.putFinK hx hb hown (hts _ L) hi hst hcf hin (by rw [q2]; exact h6) q1 q3 (by rw [hsl]; exact k2_hasslot (q4 j hj)) rfl rfl hdg fun H' e1 e2 e3 => ?_
    rw [hsl] at e1
    refine fin H' e1 e2 e3 _ ?_
    intro q hq
    rcases List.mem_append.mp hq with h | h
    · exact hS.2.2 q h
    · rw [List.mem_singleton.mp h]
      exact hD.2 k _ he
  · rw [if_neg hfin] at hlay
    have h6 := u_store hfc hkC hkind hlay hi (hty j hj) hnar hfit
    refine W.putK hx hb (f := f) ⟨hown, hts _ L, ⟨_, _, _, hi⟩, hst⟩ (by rw [q2]; exact h6) q1 q3 (by rw [hsl]; exact k2_hasslot (q4 j hj)) rfl rfl hdg fun H' e1 e2 e3 => ?_
    rw [hsl] at e1
    refine fin H' e1 e2 e3 _ ?_
    intro q hq
    rcases List.mem_append.mp hq with h | h
    · exact hS.2.2 q h
    · rw [List.mem_singleton.mp h]
      exact hD.2 k _ he
theorem c_puti {v : Int32} (C : CallFix p m c cc nL s args lw_good own) (hin : meth.name = "<init>") (U : cU D cA s) (A : cAd w B ad) (hn : n ≤ gNC w) (hH : cP w n D cA ad cs H) (hS : va_S (cB B) s.heap H locs) (hkn : k < n) (hk : gK w k = cn) (K : gCl cn C0 T N ty0) (hC0 : C0 = own) (hT1 : ∀ j, j < N → (T j).1 = C0) (j : Nat) (hj : j < N) (L : Cond.fieldLink own idx (T j).1 (T j).2.1 (T j).2.2.1 ∈ lw_good) (hF : gF cn j = 0) (hnar : narrow (ty0 j) (.int v) = .int v) (hfit : fits (ty0 j) (.int v) = true) (hdg : decode cc pc = .ok (.putfield idx, 3))
    (kk : ∀ (H1 : Heap) (locs1 : List Loc), cP w n D cA ad (ci cs k j v) H1 → va_S (cB B) s.heap H1 locs1 → W p l e R s m args below meth c H1 locs1 cells slots Q (F0 m (pc + 3) ls rest)) : W p l e R s m args below meth c H locs cells slots Q (F0 m pc ls (.int v :: .ref (ad k) :: rest)) :=
  c_put0 (cs' := ci cs k j v) C hin U A hn hH hS hkn hk K hC0 hT1 j hj L hnar hfit (by simp [cV, hF, ci, wi, upd]) (fun i hi => cV_congr (by simp [ci, wi, upd, hi]) rfl rfl rfl) (fun i hi => ci_ne hi) hdg kk
theorem c_putl {v : Int64} (C : CallFix p m c cc nL s args lw_good own) (hin : meth.name = "<init>") (U : cU D cA s) (A : cAd w B ad) (hn : n ≤ gNC w) (hH : cP w n D cA ad cs H) (hS : va_S (cB B) s.heap H locs) (hkn : k < n) (hk : gK w k = cn) (K : gCl cn C0 T N ty0) (hC0 : C0 = own) (hT1 : ∀ j, j < N → (T j).1 = C0) (j : Nat) (hj : j < N) (L : Cond.fieldLink own idx (T j).1 (T j).2.1 (T j).2.2.1 ∈ lw_good) (hF : gF cn j = 1) (hnar : narrow (ty0 j) (.long v) = .long v) (hfit : fits (ty0 j) (.long v) = true) (hdg : decode cc pc = .ok (.putfield idx, 3))
    (kk : ∀ (H1 : Heap) (locs1 : List Loc), cP w n D cA ad (cl cs k j v) H1 → va_S (cB B) s.heap H1 locs1 → W p l e R s m args below meth c H1 locs1 cells slots Q (F0 m (pc + 3) ls rest)) : W p l e R s m args below meth c H locs cells slots Q (F0 m pc ls (.long v :: .ref (ad k) :: rest)) :=
  c_put0 (cs' := cl cs k j v) C hin U A hn hH hS hkn hk K hC0 hT1 j hj L hnar hfit (by simp [cV, hF, cl, wl, vp_updL]) (fun i hi => cV_congr rfl (by simp [cl, wl, vp_updL, hi]) rfl rfl) (fun i hi => cl_ne hi) hdg kk
theorem c_putr {v : Nat} (C : CallFix p m c cc nL s args lw_good own) (hin : meth.name = "<init>") (U : cU D cA s) (A : cAd w B ad) (hn : n ≤ gNC w) (hH : cP w n D cA ad cs H) (hS : va_S (cB B) s.heap H locs) (hkn : k < n) (hk : gK w k = cn) (K : gCl cn C0 T N ty0) (hC0 : C0 = own) (hT1 : ∀ j, j < N → (T j).1 = C0) (j : Nat) (hj : j < N) (L : Cond.fieldLink own idx (T j).1 (T j).2.1 (T j).2.2.1 ∈ lw_good) (hF : gF cn j = 2) (hv : gR w cn k j = v) (hnar : narrow (ty0 j) (.ref (ad v)) = .ref (ad v)) (hfit : fits (ty0 j) (.ref (ad v)) = true) (hdg : decode cc pc = .ok (.putfield idx, 3))
    (kk : ∀ (H1 : Heap) (locs1 : List Loc), cP w n D cA ad (cr cs k j) H1 → va_S (cB B) s.heap H1 locs1 → W p l e R s m args below meth c H1 locs1 cells slots Q (F0 m (pc + 3) ls rest)) : W p l e R s m args below meth c H locs cells slots Q (F0 m pc ls (.ref (ad v) :: .ref (ad k) :: rest)) :=
  c_put0 (cs' := cr cs k j) C hin U A hn hH hS hkn hk K hC0 hT1 j hj L hnar hfit (by simp [cV, hF, cr, hv]) (fun i hi => cV_congr rfl rfl rfl (by simp [cr, hi])) (fun i hi => cr_ne hi) hdg kk
theorem c_putq {v : Nat} (C : CallFix p m c cc nL s args lw_good own) (hin : meth.name = "<init>") (U : cU D cA s) (A : cAd w B ad) (hn : n ≤ gNC w) (hH : cP w n D cA ad cs H) (hS : va_S (cB B) s.heap H locs) (hkn : k < n) (hk : gK w k = cn) (K : gCl cn C0 T N ty0) (hC0 : C0 = own) (hT1 : ∀ j, j < N → (T j).1 = C0) (j : Nat) (hj : j < N) (L : Cond.fieldLink own idx (T j).1 (T j).2.1 (T j).2.2.1 ∈ lw_good) (hF : gF cn j = 3) (hnar : narrow (ty0 j) (.ref (ad v)) = .ref (ad v)) (hfit : fits (ty0 j) (.ref (ad v)) = true) (hdg : decode cc pc = .ok (.putfield idx, 3))
    (kk : ∀ (H1 : Heap) (locs1 : List Loc), cP w n D cA ad (cq cs k j v) H1 → va_S (cB B) s.heap H1 locs1 → W p l e R s m args below meth c H1 locs1 cells slots Q (F0 m (pc + 3) ls rest)) : W p l e R s m args below meth c H locs cells slots Q (F0 m pc ls (.ref (ad v) :: .ref (ad k) :: rest)) :=
  c_put0 (cs' := cq cs k j v) C hin U A hn hH hS hkn hk K hC0 hT1 j hj L hnar hfit (by simp [cV, hF, cq, cr, wr, va_up]) (fun i hi => cV_congr rfl rfl (by simp [cq, wr, va_up, hi]) (by simp [cq, cr, hi])) (fun i hi => cq_ne hi) hdg kk
theorem c_get (C : CallFix p m c cc nL s args lw_good own) (U : cU D cA s) (hH : cP w n D cA ad cs H) (hkn : k < n) (hk : gK w k = cn) (K : gCl cn C0 T N ty0) (j : Nat) (hj : j < N) (L : Cond.fieldLink own idx (T j).1 (T j).2.1 (T j).2.2.1 ∈ lw_good) {v : Value} (hv : cV w ad cs k cn j = v) (hdg : decode cc pc = .ok (.getfield idx, 3))
    (kk : W p l e R s m args below meth c H locs cells slots Q (F0 m (pc + 3) ls (v :: rest))) : W p l e R s m args below meth c H locs cells slots Q (F0 m pc ls (.ref (ad k) :: rest)) := by
  obtain ⟨hx, hb, hml, hown, hts⟩ := C
  obtain ⟨hc, hin, hty, hnm, hl, h20⟩ := K
  have hv' : ((List.range (gft.getD cn []).length).map (cV w ad cs k cn))[j]? = some v := by
    rw [hl]
    simp [List.getElem?_map, List.getElem?_range, hj, hv]
  exact va_get hx hb hts hin hown U.1 hH.1 k (by rw [cW_at hkn, cE_obj hk h20]) hc j hj (hts _ L) (fun _ h => h) hv' hdg kk
/-- what a new cell needs: the next number, the next address -/
theorem c_grow {H1 : Heap} {e1 : va_E} (hH : cP w n D cA ad cs H) (A : cAd w B ad) (hn : n < gNC w) (hS : va_S (cB B) s.heap H locs) (hk : ∀ i, i < n → cE w cA ad cs' i = cE w cA ad cs i) (he : cE w cA ad cs' n = e1) (ha : va_at D vwCl (H.size, e1) H1) (hz : H1.size = H.size + 1) (ho : ∀ q, q < H.size → H1[q]? = H[q]?) : cP w (n + 1) D cA ad cs' H1 ∧ va_S (cB B) s.heap H1 locs := by
  refine ⟨⟨?_, ?_⟩, ?_⟩
  · rw [cW_push hk, he]
    refine (hH.1.kept (fun i x hx => ho x.1 ((hH.1 i x hx).lt))).app (fun i x hx => ?_)
    have h0 : i < 1 := (List.getElem?_eq_some_iff.mp hx).1
    rw [show i = 0 by omega] at hx
    cases hx
    rw [← hH.2]
    exact ha
  · rw [hz, hH.2, A n (by omega), A (n + 1) (by omega)]
    omega
  · refine ⟨by have := hS.1; omega, fun q h1 h2 => ?_, hS.2.2⟩
    rw [ho q (by have := hS.1; omega)]
    exact hS.2.1 q h1 h2
theorem c_new0 (C : CallFix p m c cc nL s args lw_good own) (U : cU D cA s) (A : cAd w B ad) (hn : n < gNC w) (hH : cP w n D cA ad cs H) (hS : va_S (cB B) s.heap H locs) (hk : gK w n = cn) (K : gCl cn C0 T N ty0) (hdf : ∀ j, j < N → defaultValue (ty0 j) = if gF cn j = 0 then .int 0 else if gF cn j = 1 then .long 0 else .null) (L1 : Cond.classLink own idx C0 ∈ lw_good) (L2 : Cond.instantiable C0 N ∈ lw_good) (L3 : Cond.initialized C0 ∈ lw_good) (hcells : cells + 1 ≤ R.cells) (hslots : slots + N ≤ R.slots) (hdg : decode cc pc = .ok (.new idx, 3))
    (kk : ∀ (H1 : Heap), cP w (n + 1) D cA ad (cz cs n) H1 → va_S (cB B) s.heap H1 locs → (∀ q, q < H.size → H1[q]? = H[q]?) → W p l e R s m args below meth c H1 locs (cells + 1) (slots + N) Q (F0 m (pc + 3) ls (.ref (ad n) :: rest))) : W p l e R s m args below meth c H locs cells slots Q (F0 m pc ls rest) := by
  obtain ⟨hx, hb, hml, hown, hts⟩ := C
  obtain ⟨hc, hin, hty, hnm, hl, h20⟩ := K
  have hKn := U.1.1 cn _ hc
  refine W.newcK hx hb hown (hts _ L1) (hts _ L2) (hts _ L3) rfl hdg hcells hslots hKn.2.1 rfl fun H1 kC hkC e1 z1 o1 => ?_
  have g := c_grow (cs' := cz cs n) (e1 := .inr (cn, (List.range (gft.getD cn []).length).map (cV w ad (cz cs n) n cn))) hH A hn hS (fun i hi => cz_ne (by omega)) (cE_obj hk h20) ⟨_, hc, (u_born ty0 hts hin hKn hkC e1 hty).to (fun j hj => by
    rw [hdf j hj]
    have e2 : ((List.range (gft.getD cn []).length).map (cV w ad (cz cs n) n cn))[j]? = some (cV w ad (cz cs n) n cn j) := by
      rw [hl]
      simp [List.getElem?_map, List.getElem?_range, hj]
    unfold vp_V
    rw [List.getD_eq_getElem?_getD, e2]
    simp [cV, cz])⟩ z1 o1
  have := kk H1 g.1 g.2 o1
  rw [← hH.2] at this
  exact this
theorem c_new (C : CallFix p m c cc nL s args lw_good own) (U : cU D cA s) (A : cAd w B ad) (hn : n < gNC w) (hH : cP w n D cA ad cs H) (hS : va_S (cB B) s.heap H locs) (hB : B ≤ s.heap.size) (hk : gK w n = cn) (K : gCl cn C0 T N ty0) (hdf : ∀ j, j < N → defaultValue (ty0 j) = if gF cn j = 0 then .int 0 else if gF cn j = 1 then .long 0 else .null) (L1 : Cond.classLink own idx C0 ∈ lw_good) (L2 : Cond.instantiable C0 N ∈ lw_good) (L3 : Cond.initialized C0 ∈ lw_good) (hcells : cells + 1 ≤ R.cells) (hslots : slots + N ≤ R.slots) (hdg : decode cc pc = .ok (.new idx, 3))
    (kk : ∀ (H1 : Heap), cP w (n + 1) D cA ad (cz cs n) H1 → va_S (cB B) s.heap H1 locs → W p l e R s m args below meth c H1 locs (cells + 1) (slots + N) Q (F0 m (pc + 3) ls (.ref (ad n) :: rest))) : W p l e R s m args below meth c H locs cells slots Q (F0 m pc ls rest) :=
  c_new0 C U A hn hH hS hk K hdf L1 L2 L3 hcells hslots hdg (fun H1 h1 h2 _ => kk H1 h1 h2)
theorem c_newa {atype : ArrayType} {ty : FieldType} {z : Int32} {c0 : Nat} {M : Nat} (C : CallFix p m c cc nL s args lw_good own) (U : cU D cA s) (A : cAd w B ad) (hn : n < gNC w) (hH : cP w n D cA ad cs H) (hS : va_S (cB B) s.heap H locs) (hB : B ≤ s.heap.size) (hk : gK w n = c0) (hN : gN w n = M) (h1 : 20 ≤ c0) (h2 : c0 < 23) (hty : newarray.typeOf atype = ty) (ht : (gty cA)[c0 - 20]? = some (cA c0, ty)) (hdv : defaultValue ty = .int 0) (hra : ∀ c1, va_RA s c1 ty ↔ s.vm.findClass ("[" ++ ty.toString) = some c1) (L1 : Cond.arrayClass ty ∈ lw_good) (hz : ¬ z < 0) (hzN : z.toNatClampNeg = M) (hby : M * componentBytes ty ≤ 536870912) (hcells : cells + 1 ≤ R.cells) (hslots : slots + M ≤ R.slots) (hdg : decode cc pc = .ok (.newarray atype, 2))
    (kk : ∀ (H1 : Heap), cP w (n + 1) D cA ad (cz cs n) H1 → va_S (cB B) s.heap H1 locs → W p l e R s m args below meth c H1 locs (cells + 1) (slots + M) Q (F0 m (pc + 2) ls (.ref (ad n) :: rest))) : W p l e R s m args below meth c H locs cells slots Q (F0 m pc ls (.int z :: rest)) := by
  obtain ⟨hx, hb, hml, hown, hts⟩ := C
  subst hty
  refine va_newaK hx hb (hts _ L1) rfl hdg rfl hz hzN hby hcells hslots rfl fun H1 c1 e1 z1 o1 hAr hNm => ?_
  have ec : c1 = cA c0 := by
    have h3 := (hra (cA c0)).mp (U.1.2 _ _ ht).2
    exact Option.some.inj (hNm.symm.trans h3)
  subst ec
  have g := c_grow (cs' := cz cs n) (e1 := .inl (cA c0, M, .inl (fun _ => 0))) hH A hn hS (fun i hi => cz_ne (by omega)) (by rw [cE_arr hk hN h1 h2]; simp [cz]) (show H1[H.size]? = some (vp_cell _ _) by rw [e1, hdv, vp_cell_i]) z1 o1
  have := kk H1 g.1 g.2
  rw [← hH.2] at this
  exact this
theorem c_newl {z : Int32} {M : Nat} (C : CallFix p m c cc nL s args lw_good own) (U : cU D cA s) (A : cAd w B ad) (hn : n < gNC w) (hH : cP w n D cA ad cs H) (hS : va_S (cB B) s.heap H locs) (hB : B ≤ s.heap.size) (hk : gK w n = 23) (hN : gN w n = M) (L1 : Cond.arrayClass .long ∈ lw_good) (hz : ¬ z < 0) (hzN : z.toNatClampNeg = M) (hby : M * componentBytes .long ≤ 536870912) (hcells : cells + 1 ≤ R.cells) (hslots : slots + M ≤ R.slots) (hdg : decode cc pc = .ok (.newarray .long, 2))
    (kk : ∀ (H1 : Heap), cP w (n + 1) D cA ad (cz cs n) H1 → va_S (cB B) s.heap H1 locs → W p l e R s m args below meth c H1 locs (cells + 1) (slots + M) Q (F0 m (pc + 2) ls (.ref (ad n) :: rest))) : W p l e R s m args below meth c H locs cells slots Q (F0 m pc ls (.int z :: rest)) := by
  obtain ⟨hx, hb, hml, hown, hts⟩ := C
  refine va_newaK (atype := .long) hx hb (hts _ L1) rfl hdg rfl hz hzN hby hcells hslots rfl fun H1 c1 e1 z1 o1 hAr hNm => ?_
  have ec : c1 = cA 23 := Option.some.inj (hNm.symm.trans (U.1.2 3 _ rfl).2)
  subst ec
  have g := c_grow (cs' := cz cs n) (e1 := .inl (cA 23, M, .inr (.inl (fun _ => 0)))) hH A hn hS (fun i hi => cz_ne (by omega)) (by rw [cE_arl hk hN]; simp [cz]) (show H1[H.size]? = some (vp_cell _ _) by rw [e1, vp_cell_l]; rfl) z1 o1
  have := kk H1 g.1 g.2
  rw [← hH.2] at this
  exact this
theorem c_newq {z : Int32} {M : Nat} (C : CallFix p m c cc nL s args lw_good own) (U : cU D cA s) (A : cAd w B ad) (hn : n < gNC w) (hH : cP w n D cA ad cs H) (hS : va_S (cB B) s.heap H locs) (hB : B ≤ s.heap.size) (hk : gK w n = 24) (hN : gN w n = M) (L1 : Cond.classLink own idx RX5 ∈ lw_good) (hz : ¬ z < 0) (hzN : z.toNatClampNeg = M) (hby : M * 4 ≤ 536870912) (hcells : cells + 1 ≤ R.cells) (hslots : slots + M ≤ R.slots) (hdg : decode cc pc = .ok (.anewarray idx, 3))
    (kk : ∀ (H1 : Heap), cP w (n + 1) D cA ad (cz cs n) H1 → va_S (cB B) s.heap H1 locs → W p l e R s m args below meth c H1 locs (cells + 1) (slots + M) Q (F0 m (pc + 3) ls (.ref (ad n) :: rest))) : W p l e R s m args below meth c H locs cells slots Q (F0 m pc ls (.int z :: rest)) := by
  obtain ⟨hx, hb, hml, hown, hts⟩ := C
  subst hzN
  refine W.anew hx hb hown (hts _ L1) (va_AO.use U.2.2.2.1) rfl hdg rfl hz hby hcells hslots fun c1 kA comp f1 f2 f3 f4 => ?_
  generalize hH1 : H.push ({ cls := c1, slots := Array.replicate z.toNatClampNeg .null, vm := .none } : Cell) = H1
  have z1 : H1.size = H.size + 1 := by rw [← hH1, Array.size_push]
  have e1 : H1[H.size]? = some (arrV c1 z.toNatClampNeg (fun _ => .null)) := by rw [← hH1, Array.getElem?_push_size, ← arrV_new]
  have o1 : ∀ q : Nat, q < H.size → H1[q]? = H[q]? := fun q hq => by rw [← hH1, Array.getElem?_push, if_neg (Nat.ne_of_lt hq)]
  have ec : c1 = cA 24 := by
    obtain ⟨kB, cmp, -, -, -, h4⟩ := (U.1.2 4 _ rfl).2
    exact Option.some.inj (f1.symm.trans h4)
  subst ec
  have g := c_grow (cs' := cz cs n) (e1 := .inl (cA 24, z.toNatClampNeg, .inr (.inr (.inr (.inr (fun _ => none)))))) hH A hn hS (fun i hi => cz_ne (by omega)) (by rw [cE_arq hk hN]; simp [cz]) (show H1[H.size]? = some (vp_cell _ _) by rw [e1, vp_cell_q]; rfl) z1 o1
  have := kk H1 g.1 g.2
  rw [← hH.2] at this
  exact this
theorem c_iast {i v : Int32} {M : Nat} (C : CallFix p m c cc nL s args lw_good own) (U : cU D cA s) (A : cAd w B ad) (hn : n ≤ gNC w) (hH : cP w n D cA ad cs H) (hS : va_S (cB B) s.heap H locs) (hkn : k < n) (hk : gK w k = 20) (hN : gN w k = M) (hi : gI i M) (j : Nat) (hj : i.toNatClampNeg = j) (hdg : decode cc pc = .ok (.iastore, 1))
    (kk : ∀ (H1 : Heap) (locs1 : List Loc), cP w n D cA ad (ci cs k j v) H1 → va_S (cB B) s.heap H1 locs1 → W p l e R s m args below meth c H1 locs1 cells slots Q (F0 m (pc + 1) ls rest)) : W p l e R s m args below meth c H locs cells slots Q (F0 m pc ls (.int v :: .int i :: .ref (ad k) :: rest)) := by
  subst hj
  have he : (cW w n cA ad cs)[k]? = some (ad k, .inl (cA 20, M, .inl (cs.1.1 k))) := by rw [cW_at hkn, cE_arr hk hN (by decide) (by decide)]
  have hD := cW_D (cA := cA) (cs := cs) A hn
  refine W.iast C.1 C.2.1 (hH.1 k _ he) ((U.1.2 0 _ rfl).1 M (fun j => .int (cs.1.1 k j))) (fun q => by cases q) (by show ¬ (i < 0 ∨ (arrV _ _ _).slots.size ≤ _); rw [arrV_size]; exact hi.in) rfl rfl hdg fun H1 e1 z1 oq => ?_
  refine kk H1 _ ⟨?_, z1.trans hH.2⟩ (hS.put z1 oq (hD.2 k _ he))
  have hset : (cW w n cA ad cs).set k (ad k, .inl (cA 20, M, .inl (upd (cs.1.1 k) i.toNatClampNeg v))) = cW w n cA ad (ci cs k i.toNatClampNeg v) := by
    refine cW_set ?_ (fun i hi => ci_ne hi)
    rw [cE_arr hk hN (by decide) (by decide)]
    simp [ci, wi]
  rw [← hset]
  refine hH.1.set hD he ?_ oq
  show H1[ad k]? = some (vp_cell _ _)
  rw [e1, vp_cell_i, vp_cell_i, arrV_store]
  congr 2
  funext q
  by_cases hq : q = i.toNatClampNeg
  · subst hq
    simp [updV, upd]
  · simp [updV, upd, hq]
theorem c_aast {i : Int32} {v M : Nat} (C : CallFix p m c cc nL s args lw_good own) (U : cU D cA s) (A : cAd w B ad) (hn : n ≤ gNC w) (hH : cP w n D cA ad cs H) (hS : va_S (cB B) s.heap H locs) (hkn : k < n) (hk : gK w k = 24) (hN : gN w k = M) (hvn : v < n) (hv : gK w v = 5) (hi : gI i M) (j : Nat) (hj : i.toNatClampNeg = j) (hdg : decode cc pc = .ok (.aastore, 1))
    (kk : ∀ (H1 : Heap) (locs1 : List Loc), cP w n D cA ad (cq cs k j v) H1 → va_S (cB B) s.heap H1 locs1 → W p l e R s m args below meth c H1 locs1 cells slots Q (F0 m (pc + 1) ls rest)) : W p l e R s m args below meth c H locs cells slots Q (F0 m pc ls (.ref (ad v) :: .int i :: .ref (ad k) :: rest)) := by
  subst hj
  have he : (cW w n cA ad cs)[k]? = some (ad k, .inl (cA 24, M, .inr (.inr (.inr (.inr (fun i => if cs.2 k i = true then none else some (ad (cs.1.2.2 k i)))))))) := by rw [cW_at hkn, cE_arq hk hN]
  have hev : (cW w n cA ad cs)[v]? = some (ad v, .inr (5, (List.range (gft.getD 5 []).length).map (cV w ad cs v 5))) := by rw [cW_at hvn, cE_obj hv (by decide)]
  have hD := cW_D (cA := cA) (cs := cs) A hn
  have hlt : i.toNatClampNeg < M := gI_nat hi
  have h0 : ¬ i < 0 := fun q => hi.in (Or.inl q)
  obtain ⟨r', hr', cellV, g1, g2, g3, -⟩ := hH.1 v _ hev
  have hcls := (U.1.1 5 (RX5, TX5, 10) rfl).2
  obtain ⟨kA, comp, k1, k2, k3, -⟩ := (U.1.2 4 _ rfl).2
  have hcomp : comp = D.1 5 := Option.some.inj (k3.symm.trans hcls.1)
  subst hcomp
  obtain ⟨kC, hkC, -⟩ := hcls.2
  refine W.aast C.1 C.2.1 (hH.1 k _ he) (fun q h => by cases h) (fun h => by cases h) k1 k2 rfl hkC ⟨h0, by show _ < (arrV _ _ _).slots.size; rw [arrV_size]; exact hlt⟩ g1 (fun q h => by rw [g3] at h; cases h) (by rw [g2]; exact hkC) (by rw [g2]; exact va_assign hcls) rfl rfl hdg fun H1 e1 z1 oq => ?_
  refine kk H1 _ ⟨?_, z1.trans hH.2⟩ (hS.put z1 oq (hD.2 k _ he))
  have hset : (cW w n cA ad cs).set k (ad k, .inl (cA 24, M, .inr (.inr (.inr (.inr (va_up (fun i => if cs.2 k i = true then none else some (ad (cs.1.2.2 k i))) i.toNatClampNeg (some (ad v)))))))) = cW w n cA ad (cq cs k i.toNatClampNeg v) := by
    refine cW_set ?_ (fun i hi => cq_ne hi)
    rw [cE_arq hk hN]
    congr 7
    funext q
    by_cases hq : q = i.toNatClampNeg
    · simp [cq, cr, wr, va_up, hq]
    · simp [cq, cr, wr, va_up, hq]
  rw [← hset]
  refine hH.1.set hD he ?_ oq
  show H1[ad k]? = some (vp_cell _ _)
  rw [e1]
  rw [vp_cell_q, vp_cell_q, arrV_store]
  congr 2
  funext q
  by_cases hq : q = i.toNatClampNeg
  · subst hq
    simp [updV, va_up, va_rf]
  · simp [updV, va_up, hq]
theorem c_objInit (C : CallFix p m c cc nL s args lw_good own) (hsz : ls.size = nL) (L1 : Cond.methodLink own idx objectInit ∈ lw_good) (L2 : Cond.instanceMethod objectInit ∈ lw_good) (L3 : Cond.code objectInit ⟨#[0xb1]⟩ 1 none ∈ lw_good) (hfr : 1 ≤ R.frames) (hlo : 40 ≤ R.locals) (hdg : decode cc pc = .ok (.invokespecial idx, 3)) (a : Nat)
    (kk : W p l e R s m args below meth c H locs cells slots Q (F0 m (pc + 3) ls [])) : W p l e R s m args below meth c H locs cells slots Q (F0 m pc ls [.ref a]) :=
  W.objInit C.1 C.2.1 C.2.2.2.1 (C.2.2.2.2 _ L1) (C.2.2.2.2 _ L2) (C.2.2.2.2 _ L3) rfl (hsz.trans C.2.2.1.symm) rfl hdg hfr (by show 2 * 0 + _ + 12 ≤ _; simp; omega) kk
theorem c_vret {mc ms : Nat} (C : CallFix p m c cc nL s args lw_good own) (hr : meth.sig.returnType = none) (hlk : meth.locks = false) (hH : cP w n D cA ad cs H) (hS : va_S (cB B) s.heap H locs) (hc : cells = mc) (hs : slots = ms) (hdg : decode cc pc = .ok (.return_, 1)) :
    W p l e R s m args below meth c H locs cells slots (MQ below (cQc w n B D cA ad cs) args s mc ms (cB B)) (F0 m pc ls []) := by
  subst hc; subst hs
  exact W.vret C.1 C.2.1 hr (fun t ht _ => ⟨rfl, by rw [ht]; exact hH, hS.F ht⟩) hS.2.2 hdg hlk
theorem cPc.blind {av : List Value} : FrameBlind (cPc w n B D cA ad cs av) := by
  intro a U g mk h
  obtain ⟨h0, ⟨h1, h2, h3, h4, h5⟩, h6⟩ := h
  have ha : Vm.Alike U.vm (U.calling g mk a).vm := Vm.Alike.refl U.vm
  exact ⟨h0, ⟨va_K.moved ha h1, fun q hq => va_Nw.same rfl rfl (h2 q hq), fun q hq => va_Nw.same rfl rfl (h3 q hq), h4.moved ha, over_moved ha h5⟩, h6⟩
theorem c_met {L mc ms nL n' : Nat} {y : MethodName} {b : ByteArray} {av : List Value} (hy : plainName y.cls = true) (hyn : y.name = "<init>") (hlen : (lg_sl av).length ≤ nL)
    (body : ∀ (p : Program) (e : Env) (s : State) (m : MethodId) (args : Array Value) (below : List Frame) (meth : Method) (c : Code) (ls : Array Slot), CallFix p m c b nL s args lw_good y.cls → meth.sig.returnType = none → meth.locks = false → meth.name = "<init>" → cU D cA s → B ≤ s.heap.size → cP w n D cA ad cs s.heap → lv_has ls nL (lv_args 0 av) → W p l e (cRm L mc ms) s m args below meth c s.heap [] 0 0 (MQ below (cQc w n' B D cA ad cs') args s mc ms (cB B)) (F0 m 0 ls [])) : cM l y b nL L mc ms w B D cA ad n cs av n' cs' := by
  refine Met.ofW (cc := b) (maxL := nL) (ret := none) hy rfl ?_
  intro p e s m args below meth c s₁ Bd hml hv
  obtain ⟨rfl, hU, hB, hH⟩ := hv
  have hts := atoms_spec (ws := gws y b nL none) Bd.pre
  have hown : s.vm.findClass y.cls = some m.cls := findClass_of_methodNamed Bd.named
  have hl := lv_entry av (n := nL) hlen
  rw [lg_entry_eq]
  generalize (lg_sl av ++ List.replicate (nL - (lg_sl av).length) Slot.unset).toArray = ls at hl ⊢
  exact body p e s m av.toArray below meth c ls ⟨Bd.exec, Bd.bytes, hml, hown, fun w h => hts w (List.mem_cons_of_mem _ h)⟩ Bd.returns Bd.notSynchronized ((name_of_methodNamed Bd.named Bd.method).1.trans hyn) hU hB hH hl
theorem c_after {mc ms n' : Nat} {st0 : List Value} {a : Array Value} (hr : va_Run p l e R s m args below meth c H locs cells slots mc ms (F0 m pc ls st0) rest (cQc w n' B D cA ad cs' a) (cB B)) (hS : va_S (cB B) s.heap H locs)
    (kk : ∀ (H1 : Heap) (locs1 : List Loc), cP w n' D cA ad cs' H1 → va_S (cB B) s.heap H1 locs1 → W p l e R s m args below meth c H1 locs1 (cells + mc) (slots + ms) Q (F0 m (pc + 3) ls rest)) : W p l e R s m args below meth c H locs cells slots Q (F0 m pc ls st0) := by
  intro T hT X
  obtain ⟨v, st₀, t, T', L, h0, X', hL, e1, e2, ⟨hv, hp, hz, hk⟩, stp⟩ := hr T hT X
  cases hv
  rw [h0] at hz hk
  obtain ⟨t2, a1, b1⟩ := kk T'.heap (locs ++ L) (by rw [e1]; exact hp)
    ⟨Nat.le_trans hS.1 (by rw [e1]; exact hz), fun q h1 h2 => by rw [e1, hk q (Nat.lt_of_lt_of_le h1 hS.1) h2]; exact hS.2.1 q h1 h2, fun q hq => by
      rcases List.mem_append.mp hq with h | h
      · exact hS.2.2 q h
      · exact hL q h⟩ T' rfl X'
  exact ⟨t2, stp t2 a1, b1⟩
variable {y : MethodName} {bytes : ByteArray} {maxL L mc ms n' np : Nat} {As : List Value}
/-- a constructor of this world is called: its own, or a nest mate's -/
theorem c_callI (C : CallFix p m c cc nL s args lw_good own) (U : cU D cA s) (hH : cP w n D cA ad cs H) (hS : va_S (cB B) s.heap H locs) (hB : B ≤ s.heap.size) (hsz : ls.size = nL)
    (hM : cM l y bytes maxL L mc ms w B D cA ad n cs (.ref (ad k) :: As) n' cs') (L1 : Cond.code y bytes maxL none ∈ lw_good) (L2 : Cond.initialized y.cls ∈ lw_good) (L3 : Cond.instanceMethod y ∈ lw_good) (hyn : y.name = "<init>") (hd : y.cls ≠ "java/lang/invoke/MethodHandle" ∧ y.cls ≠ "java/lang/invoke/VarHandle" ∧ (parseMethodDescriptor y.desc).map (fun d => d.parameters.length) = some np) (hl : Cond.methodLink own idx y ∈ lw_good ∨ ∃ h, (own, idx, y, h) ∈ gnM)
    (hroom : L + 1 ≤ R.frames ∧ 8 + (maxL + 11) + 40 * L ≤ R.locals) (hf : cells + mc ≤ R.cells ∧ slots + ms ≤ R.slots) (hn : As.length = np) (hW : (rest.map fun v => v.category).sum ≤ 8) (hdg : decode cc pc = .ok (.invokespecial idx, 3))
    {stk : List Value} (hstk : stk = As.reverse ++ .ref (ad k) :: rest)
    (kk : ∀ (H1 : Heap) (locs1 : List Loc), cP w n' D cA ad cs' H1 → va_S (cB B) s.heap H1 locs1 → W p l e R s m args below meth c H1 locs1 (cells + mc) (slots + ms) Q (F0 m (pc + 3) ls rest)) : W p l e R s m args below meth c H locs cells slots Q (F0 m pc ls stk) := by
  have hts := C.2.2.2.2
  have hG : GoodIn lw_good (gws y bytes maxL none) := lw_good_in (fun w h => by
      rcases List.mem_cons.mp h with rfl | h
      · exact L1
      · exact h)
  have hp : PreS s H (cPc w n B D cA ad cs (.ref (ad k) :: As)) (.ref (ad k) :: As) :=
    ⟨cPc.blind, fun u hu hW => ⟨rfl, U.call hW (over_moved hW.alike U.2.2.2.2), by rw [hu]; exact Nat.le_trans hB hS.1, by rw [hu]; exact hH⟩⟩
  rcases hl with hl | ⟨h, hl⟩
  · exact c_after (va_runI (As := As) (rest := rest) C hM (cwI np hts hG rfl rfl rfl (hts _ L2) (hts _ hl) (hts _ L3) hyn hd hroom) hp rfl hn hsz hstk (lv_room hW) hdg hf) hS kk
  · exact c_after (va_runIN (As := As) (rest := rest) C hM ⟨va_cnB np hts hG rfl rfl rfl (U.2.2.1 _ hl) (hts _ L2) hd hroom, hyn, hts _ L3⟩ hp rfl hn hsz hstk (lv_room hW) hdg hf) hS kk
end CI
