/-! the members of String -/
theorem zstub : (1 : Nat) = 2 := rfl
