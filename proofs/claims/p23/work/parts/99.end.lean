theorem jx_probe : (1 : Nat) + 1 = 2 := rfl
