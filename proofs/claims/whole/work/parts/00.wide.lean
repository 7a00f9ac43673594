/-! ===== names of the whole library that part 14 uses: here, so that a round reads all parts over it from the first on ===== -/
theorem wd_0 (c : ClassId) (N h0 : Nat) : Jvm.Free.Multi.outerC c N h0 0 = Jvm.Free.Multi.outerC c N h0 0 := rfl
theorem wd_1 (c : ClassId) (M : Nat) (v : Value) : Jvm.Free.Multi.innerC c M v = Jvm.Free.Multi.innerC c M v := rfl
theorem wd_2 (s : State) (c d : ClassId) (N M : Nat) (v : Value) : Jvm.Free.Multi.fill s c d N M v 0 = Jvm.Free.Multi.fill s c d N M v 0 := rfl
theorem wd_3 : True := have _h := @Jvm.Free.Multi.outerC_facts; trivial
theorem wd_4 : True := have _h := @Jvm.Free.Multi.fill_facts; trivial
theorem wd_5 : True := have _h := @Jvm.Free.Multi.outerC_slot; trivial
