theorem e_rin (Q : Int32 → Prop) (x a b : Int32) : vc_X8_in Q x a b ↔ Q (if a ≤ x ∧ x ≤ b then 1 else 0) := e_win Q x a b
theorem r_rng {Q : Int32 → Prop} {x n : Int32} (h : Q (if rng x n then 1 else 0)) : ((x < 0) → Q 0) ∧ ((¬ x < 0) → ((n ≤ x → Q 0) ∧ (¬ n ≤ x → Q 1))) := by
  unfold rng at h
  by_cases h1 : x < 0
  · rw [if_neg (by grind)] at h
    exact br_t h1 h
  · by_cases h2 : n ≤ x
    · rw [if_neg (by grind)] at h
      exact br_f h1 (br_t h2 h)
    · rw [if_pos (by grind)] at h
      exact br_f h1 (br_f h2 h)
theorem r_isP {Q : Int32 → Prop} {P : Nat} {g ρ : Mem} {x : Int32} (h : RR P g ρ) (hq : Q (if rng x (g 1 0) then 1 else 0)) : vc_X8_isPlayer Q ρ x := by
  rw [← h.r 1 0 (j := 0) (by simp [liv]) rfl] at hq
  exact r_rng hq
theorem r_isT {Q : Int32 → Prop} {P : Nat} {g ρ : Mem} {x : Int32} (h : RR P g ρ) (hq : Q (if rng x (g 12 0) then 1 else 0)) : vc_X8_isTask Q ρ x := by
  rw [← h.r 12 0 (j := 1) (by simp [liv]) rfl] at hq
  exact r_rng hq
theorem r_isC {Q : Int32 → Prop} {P : Nat} {g ρ : Mem} {x : Int32} (h : RR P g ρ) (hq : Q (if rng x (g 18 0) then 1 else 0)) : vc_X8_isContract Q ρ x := by
  rw [← h.r 18 0 (j := 2) (by simp [liv]) rfl] at hq
  exact r_rng hq
theorem r_isW {Q : Int32 → Prop} {P : Nat} {g ρ : Mem} {x y : Int32} (h : RR P g ρ) (hq : Q (if isW g x y then 1 else 0)) : vc_X8_isWorker Q ρ x y := by
  refine r_isP h ?_
  by_cases c : rng x (g 1 0)
  · rw [if_pos c]
    refine ⟨fun q => absurd q (by decide), fun _ => ?_⟩
    rw [e_rin]
    by_cases c2 : 0 ≤ y ∧ y ≤ 2
    · rw [if_pos ⟨c, c2⟩] at hq
      rw [if_pos c2]
      exact ⟨fun q => absurd q (by decide), fun _ => hq⟩
    · rw [if_neg (fun q => c2 q.2)] at hq
      rw [if_neg c2]
      exact ⟨fun _ => hq, fun q => absurd rfl q⟩
  · rw [if_neg (fun q => c q.1)] at hq
    rw [if_neg c]
    exact ⟨fun _ => hq, fun q => absurd rfl q⟩
/-- what `changes` does to the reference -/
def chg (ρ : Mem) (n : Nat) : Mem := if n = 4 then lay (shf ρ) 3 else lay ρ n
theorem chg_c (ρ : Mem) (n : Nat) {c : Nat} (h0 : c ≠ 0) (h2 : c ≠ 2) : chg ρ n c = ρ c := by
  funext f
  unfold chg lay shf
  split
  · rw [up_n _ _ _ h0]
    unfold cpr
    rw [if_neg (fun q => h2 q.1), up_n _ _ _ h0, if_neg (fun q => h2 q.1)]
  · rw [up_n _ _ _ h0]
    unfold cpr
    rw [if_neg (fun q => h2 q.1)]
theorem chg_0 (ρ : Mem) (n : Nat) {f : Nat} (h : f ≠ 4) : chg ρ n 0 f = ρ 0 f := by
  unfold chg lay shf
  split
  · rw [up_at, if_neg (fun q => h q.2)]
    unfold cpr
    rw [if_neg (by omega), up_at, if_neg (fun q => h q.2), if_neg (by omega)]
  · rw [up_at, if_neg (fun q => h q.2)]
    unfold cpr
    rw [if_neg (by omega)]
theorem chg_4 (ρ : Mem) {n : Nat} (hn : n ≤ 4) : chg ρ n 0 4 = nI (if n = 4 then 4 else n + 1) := by
  unfold chg lay
  split
  · next h => rw [up_at, if_pos ⟨rfl, rfl⟩]
  · next h => rw [up_at, if_pos ⟨rfl, rfl⟩]
/-- the states that the reference keeps: the i-th of its past -/
theorem chg_past (ρ : Mem) {n : Nat} (hn : n ≤ 4) {i j : Nat} (hi : i < (if n = 4 then 4 else n + 1)) (hj : j < 164) : chg ρ n 2 (164 * i + j) = if n = 4 then (if i = 3 then ρ 1 j else ρ 2 (164 * (i + 1) + j)) else if i = n then ρ 1 j else ρ 2 (164 * i + j) := by
  unfold chg lay shf
  by_cases c : n = 4
  · rw [if_pos c] at hi
    rw [if_pos c, if_pos c, up_n _ _ _ (show 2 ≠ 0 by omega)]
    unfold cpr
    by_cases c2 : i = 3
    · rw [if_pos (by omega), if_pos c2, up_n _ _ _ (show 1 ≠ 0 by omega), if_neg (by omega)]
      exact congrArg (ρ 1) (show 164 * i + j - 164 * 3 + 0 = j by omega)
    · rw [if_neg (by omega), if_neg c2, up_n _ _ _ (show 2 ≠ 0 by omega), if_pos (by omega)]
      exact congrArg (ρ 2) (show 164 * i + j - 0 + 164 = 164 * (i + 1) + j by omega)
  · rw [if_neg c] at hi
    rw [if_neg c, if_neg c, up_n _ _ _ (show 2 ≠ 0 by omega)]
    unfold cpr
    by_cases c2 : i = n
    · rw [if_pos (by omega), if_pos c2]
      exact congrArg (ρ 1) (show 164 * i + j - 164 * n + 0 = j by omega)
    · rw [if_neg (by omega), if_neg c2]
theorem RR.chg {P : Nat} {g ρ : Mem} (h : RR P g ρ) (n : Nat) : RR P g (chg ρ n) := h.fr (chg_c _ _ (by omega) (by omega))
