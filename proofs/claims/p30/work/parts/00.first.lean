/-! a name of the whole library at once: the round is read over it from its first part -/
theorem fst_w : @Jvm.Free.Multi.outerC = @Jvm.Free.Multi.outerC := rfl
