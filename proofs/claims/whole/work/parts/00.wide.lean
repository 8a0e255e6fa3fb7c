/-! the first row names a word of the library's rest, so that a first round on a new machine is read over the whole library from its first part on -/
theorem wide_word (c : ClassId) (N h0 : Nat) : Jvm.Free.Multi.outerC c N h0 0 = Jvm.Free.Multi.outerC c N h0 0 := rfl
