theorem pr_0 : (1 : Nat) = 1 := rfl
