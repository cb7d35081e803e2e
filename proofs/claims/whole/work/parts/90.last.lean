theorem aa_last : (1:Nat) = 1 := rfl
