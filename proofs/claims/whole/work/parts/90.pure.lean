theorem pure0 : ∀ (L : Nat) (xs : Nat → Int32), L ≤ 2560 → ∃ n, vl_L_law L xs ξ0 n 0 γ0 γ0 ξ0 σ0 ξ0 ξ0 0 := fun L xs hL => ⟨1540, law_loop hL 513 0 γ0 γ0 ξ0 σ0 ξ0 ξ0 1540 (by omega) (by omega) inv0⟩
