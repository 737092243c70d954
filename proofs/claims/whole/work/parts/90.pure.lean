theorem pure0 : ∀ (L : Nat) (xs : Nat → Int32), L ≤ 2560 → ∃ n, vl_L_law L xs ξ0 n 0 γ0 γ0 ξ0 σ0 ξ0 ξ0 0 := sorry
