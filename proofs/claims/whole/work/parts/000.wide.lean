/-- names the whole library, so that the first round goes wide at once -/
theorem wide_names (c : ClassId) (N h0 i : Nat) : Jvm.Free.Multi.outerC c N h0 i = Jvm.Free.Multi.outerC c N h0 i := rfl
