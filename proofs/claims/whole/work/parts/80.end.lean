theorem law_fn {L : Nat} (hL : L ≤ 2560) (sz : Nat) (xs : Nat → Int32) : f_L_law (fun _ => none) sz L xs = some 1 := sorry
