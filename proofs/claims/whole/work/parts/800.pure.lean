theorem fr_pure (L : Nat) (xs : Nat → Int32) (hL : L ≤ 2560) : ∃ k, f_law L xs k 0 (fun _ _ => 0) (fun _ _ => 0) = some true := sorry
