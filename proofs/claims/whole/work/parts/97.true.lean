theorem law_true {L : Nat} (hL : L ≤ 3584) (xs : Nat → Int32) (N : Nat) : b_L_law_0 L xs N 0 0 (fun _ => none) = some 1 := sorry
