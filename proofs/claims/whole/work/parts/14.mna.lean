theorem cg_outer (c : ClassId) (N h0 : Nat) : ∀ i : Nat, Jvm.Free.Multi.outerC c N h0 i = arrV c N (fun j => va_rf (if j < i then some (h0 + 1 + j) else none))
  | 0 => by
    show ({ cls := c, slots := Array.replicate N .null, vm := .none } : Cell) = _
    rw [arrV_new]
    refine congrArg (arrV c N) (funext fun j => ?_)
    simp [va_rf]
  | i + 1 => by
    show (Jvm.Free.Multi.outerC c N h0 i).setSlot i (.ref (h0 + 1 + i)) = _
    rw [cg_outer c N h0 i, arrV_store]
    refine congrArg (arrV c N) (funext fun j => ?_)
    by_cases e : j = i
    · subst e
      simp [updV, va_rf]
    · by_cases h : j < i
      · simp [updV, e, h, Nat.lt_succ_of_lt h]
      · simp [updV, e, h, show ¬ j < i + 1 by omega]
section MN
variable {p : Program} {l : Launch} {e : Env} {R : Room} {s : State} {m : MethodId} {args : Array Value} {below : List Frame} {meth : Method} {c : Code} {H : Heap} {locs : List Loc} {cells slots : Nat} {Q : State → Prop}
variable {cc : ByteArray} {pc nL : Nat} {ls : Array Slot} {rest : List Value} {D : va_G} {cA : Nat → ClassId} {ad : Nat → Nat} {w n B : Nat} {cs : gC} {own : String} {idx : Nat}
theorem c_mna {N K : Nat} {y z : Int32} (C : CallFix p m c cc nL s args lw_good own) (U : cU D cA s) (A : cAd w B ad) (hn : n + 1 + N ≤ gNC w) (hH : cP w n D cA ad cs H) (hS : va_S (cB B) s.heap H locs) (hk : gK w n = 25) (hN : gN w n = N) (hin : ∀ i, i < N → gK w (n + 1 + i) = 20 ∧ gN w (n + 1 + i) = K) (L1 : Cond.classLink own idx "[[I" ∈ lw_good) (L2 : Cond.arrayClass .int ∈ lw_good) (hy : ¬ y < 0) (hz : ¬ z < 0) (hyN : y.toNatClampNeg = N) (hzK : z.toNatClampNeg = K) (hb1 : N ≤ 1000) (hb2 : K ≤ 1000) (hcells : cells + (1 + N) ≤ R.cells) (hslots : slots + (N + N * K) ≤ R.slots) (hdg : decode cc pc = .ok (.multianewarray idx 2, 4))
    (kk : ∀ (H1 : Heap), cP w (n + 1 + N) D cA ad (cg cs n N) H1 → va_S (cB B) s.heap H1 locs → W p l e R s m args below meth c H1 locs (cells + 1 + N) (slots + N + N * K) Q (F0 m (pc + 4) ls (.ref (ad n) :: rest))) : W p l e R s m args below meth c H locs cells slots Q (F0 m pc ls (.int z :: .int y :: rest)) := by
  subst hyN
  subst hzK
  obtain ⟨hx, hb, hml, hown, hts⟩ := C
  intro T hT Xs
  obtain ⟨vm₁, c1, comp, -, fA, fC, -, -, X', step⟩ := Xs.multianewarray2F (ty := .int) hx hown (hts _ L1) (over_moved (Vm.Alike.refl _) U.2.2.2.2) (hts _ L2) (g := F0 m pc ls (.int z :: .int y :: rest)) rfl (by rw [hb]; exact hdg) rfl hy hz (by omega) (by show z.toNatClampNeg * 4 ≤ _; omega) (by omega) rfl rfl hcells hslots
  have e20 : comp = cA 20 := Option.some.inj (fC.symm.trans (U.1.2 0 _ rfl).2)
  have e25 : c1 = cA 25 := Option.some.inj (fA.symm.trans (U.1.2 5 _ rfl).2)
  subst e20
  subst e25
  generalize hF : Jvm.Free.Multi.fill (T.setVm vm₁) (cA 25) (cA 20) y.toNatClampNeg z.toNatClampNeg (defaultValue .int) y.toNatClampNeg = F at X' step
  have hTh : (T.setVm vm₁).heap = H := hT
  obtain ⟨f1, f2, -, -⟩ := Jvm.Free.Multi.fill_facts (T.setVm vm₁) (cA 25) (cA 20) y.toNatClampNeg z.toNatClampNeg (defaultValue .int) y.toNatClampNeg
  rw [hF, hTh] at f1 f2
  have hold : ∀ x : Nat, x < H.size → F.heap[x]? = H[x]? := fun x hx => by
    have := Jvm.Free.Multi.fill_old (T.setVm vm₁) (cA 25) (cA 20) y.toNatClampNeg z.toNatClampNeg (defaultValue .int) (a := x) (by rw [hTh]; exact hx) y.toNatClampNeg
    rw [hF, hTh] at this
    exact this
  have hrow : ∀ j : Nat, j < y.toNatClampNeg → F.heap[H.size + 1 + j]? = some (arrV (cA 20) z.toNatClampNeg (fun _ => .int 0)) := fun j hj => by
    have := Jvm.Free.Multi.fill_inner (T.setVm vm₁) (cA 25) (cA 20) y.toNatClampNeg z.toNatClampNeg (defaultValue .int) y.toNatClampNeg j hj
    rw [hF, hTh] at this
    rw [this]
    show some ({ cls := cA 20, slots := Array.replicate _ (Value.int 0), vm := .none } : Cell) = _
    rw [arrV_new]
  rw [cg_outer] at f2
  have ec : ∀ k, (k < n ∨ n + 1 + y.toNatClampNeg ≤ k) → cE w cA ad (cg cs n y.toNatClampNeg) k = cE w cA ad cs k := by
    intro k h
    obtain ⟨a1, a2, a3, a4⟩ := czs_ne (n := n + 1) (i := k) (cs := cz cs n) y.toNatClampNeg (by omega)
    have hne : k ≠ n := by omega
    exact cE_congr (a1.trans (if_neg hne)) (a2.trans (if_neg hne)) a3 ((if_neg hne).trans (a4.trans (if_neg hne)))
  have hP1 : cP w (n + 1 + y.toNatClampNeg) D cA ad (cg cs n y.toNatClampNeg) F.heap := by
    refine ⟨fun k q hkq => ?_, ?_⟩
    · have hkl : k < n + 1 + y.toNatClampNeg := by
        rcases Nat.lt_or_ge k (n + 1 + y.toNatClampNeg) with h | h
        · exact h
        · rw [cW_none h] at hkq
          cases hkq
      rw [cW_at hkl] at hkq
      cases hkq
      rcases Nat.lt_trichotomy k n with h | h | h
      · rw [ec k (Or.inl h)]
        have h0 := hH.1 k _ (cW_at h)
        exact h0.kept (hold _ h0.lt)
      · subst h
        rw [cE_arg hk hN]
        show F.heap[ad k]? = some (vp_cell _ _)
        rw [← hH.2, f2, vp_cell_q]
        congr 1
        apply ca_congr
        intro i hi
        have ea : ad (k + 1 + i) = H.size + 1 + i := by
          rw [hH.2, A (k + 1 + i) (by omega), A k (by omega)]
          omega
        show va_rf _ = va_rf _
        simp only [hi, if_true, ea]
      · obtain ⟨j, rfl⟩ : ∃ j, k = n + 1 + j := ⟨k - (n + 1), by omega⟩
        have hj : j < y.toNatClampNeg := by omega
        obtain ⟨k1, k2⟩ := hin j hj
        rw [cE_arr k1 k2 (by decide) (by decide)]
        show F.heap[ad (n + 1 + j)]? = some (vp_cell _ _)
        have ea : ad (n + 1 + j) = H.size + 1 + j := by
          rw [hH.2, A (n + 1 + j) (by omega), A n (by omega)]
          omega
        rw [ea, hrow j hj, vp_cell_i]
        congr 1
        apply ca_congr
        intro i hi
        have h5 : (cg cs n y.toNatClampNeg).1.1 (n + 1 + j) = fun _ => 0 := czs_in (n := n + 1) (i := n + 1 + j) (cs := cz cs n) y.toNatClampNeg (by omega) (by omega)
        rw [h5]
    · rw [f1, hH.2, A n (by omega), A (n + 1 + y.toNatClampNeg) (by omega)]
      omega
  obtain ⟨t, a1, b1⟩ := kk F.heap hP1 ⟨by rw [f1]; have := hS.1; omega, fun q h1 h2 => by rw [hold q (by have := hS.1; omega)]; exact hS.2.1 q h1 h2, hS.2.2⟩ F rfl X'
  refine ⟨t, step t ?_, b1⟩
  rw [← hH.2] at a1
  rw [hT]
  exact a1
end MN
