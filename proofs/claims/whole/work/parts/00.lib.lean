/-! ===== the library's rows for an array of arrays (they lie outside the short library: this part stands first, so that a round is read over the whole of it from the start) ===== -/
theorem cn_lib1 (c : ClassId) (N h0 i : Nat) : (Jvm.Free.Multi.outerC c N h0 i).cls = c := (Jvm.Free.Multi.outerC_facts c N h0 i).1
