theorem rl_x0 : (0 : Nat) = 0 := rfl
