/-- the first n ints of a row at d are row a's from e on -/
def cpr (ρ : Mem) (a e b d n : Nat) : Mem := fun c f => if c = b ∧ d ≤ f ∧ f < d + n then ρ a (f - d + e) else ρ c f
theorem cpr_0 (ρ : Mem) (a e b d : Nat) : cpr ρ a e b d 0 = ρ := by
  funext c f
  unfold cpr
  rw [if_neg (by omega)]
theorem cpr_up (ρ : Mem) {a e b d n : Nat} : up (cpr ρ a e b d n) b (d + n) (ρ a (n + e)) = cpr ρ a e b d (n + 1) := by
  funext c f
  rw [up_at]
  unfold cpr
  by_cases h : c = b ∧ f = d + n
  · rw [if_pos h, if_pos (by omega), h.2, show d + n - d + e = n + e by omega]
  · rw [if_neg h]
    by_cases h2 : c = b ∧ d ≤ f ∧ f < d + n
    · rw [if_pos h2, if_pos (by omega)]
    · rw [if_neg h2, if_neg (by omega)]
theorem r_copies {Q : Mem → Prop} {ρ : Mem} {a b : Nat} (hab : a ≠ b) (hq : Q (cpr ρ a 0 b 0 164)) : vc_X8_copies Q ρ a b := by
  have st : ∀ j n, n + j = 164 → vl_X8_copies Q a b (j + 1) 0 (cpr ρ a 0 b 0 n) (nI n) := by
    intro j
    induction j with
    | zero =>
      intro n hn
      refine br_t (gec (a := n) (b := 164) (by omega)) ?_
      rw [show n = 164 by omega]
      exact hq
    | succ j ih =>
      intro n hn
      refine br_f (ltc (a := n) (b := 164) (by omega)) ⟨vp_in_nI (by omega) (by omega), nm_e (nm_e ?_)⟩
      rw [nI_1, nI_clamp (by omega)]
      have e : cpr ρ a 0 b 0 n a n = ρ a (n + 0) := by
        unfold cpr
        rw [if_neg (by omega)]
        rfl
      have e2 := cpr_up ρ (a := a) (e := 0) (b := b) (d := 0) (n := n)
      rw [Nat.zero_add] at e2
      rw [e, e2]
      exact ih (n + 1) (by omega)
  refine ⟨165, ?_⟩
  have := st 164 0 (by omega)
  rw [cpr_0] at this
  exact this
/-- the past, one state further -/
def shf (ρ : Mem) : Mem := up (cpr ρ 2 164 2 0 492) 0 4 (nI 3)
/-- a state laid by -/
def lay (ρ : Mem) (n : Nat) : Mem := up (cpr ρ 1 0 2 (164 * n) 164) 0 4 (nI (n + 1))
theorem shift_eq (ρ : Mem) {n : Nat} : ∀ f, n ≤ f → cpr ρ 2 164 2 0 n 2 f = ρ 2 f := fun f h => by
  unfold cpr
  rw [if_neg (by omega)]
theorem r_lay {Q : Mem → Prop} {ρ : Mem} {n : Nat} (hn : n < 4) (e : ρ 0 4 = nI n) (hq : Q (lay ρ n)) : vl_X8_changes Q 165 1 ρ 0 := by
  have st : ∀ j k, k + j = 164 → vl_X8_changes Q (j + 1) 1 (cpr ρ 1 0 2 (164 * n) k) (nI k) := by
    intro j
    induction j with
    | zero =>
      intro k hk
      have e4 : cpr ρ 1 0 2 (164 * n) k 0 4 = nI n := by unfold cpr; rw [if_neg (by omega)]; exact e
      refine br_t (gec (a := k) (b := 164) (by omega)) (nm_e ?_)
      rw [e4, nI_1, show k = 164 by omega]
      exact hq
    | succ j ih =>
      intro k hk
      have e4 : cpr ρ 1 0 2 (164 * n) k 0 4 = nI n := by unfold cpr; rw [if_neg (by omega)]; exact e
      have ei : (164 : Int32) * nI n + nI k = nI (164 * n + k) := by rw [show (164 : Int32) = nI 164 from rfl, pk_mul, nI_add]
      refine br_f (ltc (a := k) (b := 164) (by omega)) ⟨vp_in_nI (by omega) (by omega), ?_⟩
      rw [e4, ei, nI_clamp (by omega), nI_clamp (by omega)]
      refine ⟨vp_in_nI (by omega) (by omega), nm_e (nm_e ?_)⟩
      have e1 : cpr ρ 1 0 2 (164 * n) k 1 k = ρ 1 (k + 0) := by unfold cpr; rw [if_neg (by omega)]; rfl
      rw [nI_1, e1, cpr_up]
      exact ih (k + 1) (by omega)
  have := st 164 0 (by omega)
  rw [cpr_0] at this
  exact this
theorem r_changes {Q : Mem → Prop} {ρ : Mem} {n : Nat} (hn : n ≤ 4) (e : ρ 0 4 = nI n) (h5 : ρ 0 5 = 0) (hq : Q (if n = 4 then lay (shf ρ) 3 else lay ρ n)) : vc_X8_changes Q ρ := by
  by_cases c : n = 4
  · subst c
    rw [if_pos rfl] at hq
    refine ⟨493 + 165, fun _ => ⟨fun q => absurd e q, fun _ => ?_⟩, fun q => absurd h5 q⟩
    have st : ∀ j k, k + j = 492 → vl_X8_changes Q (j + 1 + 165) 0 (cpr ρ 2 164 2 0 k) (nI k) := by
      intro j
      induction j with
      | zero =>
        intro k hk
        have e4 : cpr ρ 2 164 2 0 k 0 4 = nI 4 := by unfold cpr; rw [if_neg (by omega)]; exact e
        rw [show 0 + 1 + 165 = 165 + 1 from rfl]
        refine br_t (gec (a := k) (b := 492) (by omega)) (nm_e ?_)
        rw [e4, show nI 4 - 1 = nI 3 from rfl, show k = 492 by omega]
        exact r_lay (n := 3) (by omega) (by rw [up_at, if_pos ⟨rfl, rfl⟩]) hq
      | succ j ih =>
        intro k hk
        rw [show j + 1 + 1 + 165 = (j + 1 + 165) + 1 by omega]
        have ei : nI k + (164 : Int32) = nI (k + 164) := by rw [show (164 : Int32) = nI 164 from rfl, nI_add]
        refine br_f (ltc (a := k) (b := 492) (by omega)) ?_
        rw [ei, nI_clamp (by omega), nI_clamp (by omega), shift_eq _ _ (by omega)]
        refine ⟨vp_in_nI (by omega) (by omega), vp_in_nI (by omega) (by omega), nm_e (nm_e ?_)⟩
        have e2 := cpr_up ρ (a := 2) (e := 164) (b := 2) (d := 0) (n := k)
        rw [Nat.zero_add] at e2
        rw [nI_1, e2]
        exact ih (k + 1) (by omega)
    have := st 492 0 (by omega)
    rw [cpr_0] at this
    exact this
  · rw [if_neg c] at hq
    refine ⟨165, fun _ => ⟨fun _ => r_lay (by omega) e hq, fun q => ?_⟩, fun q => absurd h5 q⟩
    rw [e] at q
    have := nI_clamp (n := n) (by omega)
    rw [q] at this
    have : n = 4 := this.symm.trans rfl
    omega
theorem r_undo {Q : Int32 → Mem → Prop} {ρ : Mem} {n : Nat} (hn : n < 4) (e : ρ 0 4 = nI (n + 1)) (hq : Q (nI n) (cpr (up ρ 0 4 (nI n)) 2 (164 * n) 1 0 164)) : vc_X8_undo Q ρ := by
  have n0 : ¬ ρ 0 4 = 0 := by
    rw [e]
    intro q
    have := nI_clamp (n := n + 1) (by omega)
    rw [q] at this
    have : n + 1 = 0 := this.symm.trans rfl
    omega
  refine ⟨165, fun _ => nm_e ?_, fun q => absurd q n0⟩
  rw [e, show nI (n + 1) - 1 = nI n from by rw [show (1 : Int32) = nI 1 from rfl, nI_sub (by omega)]; rfl]
  generalize hμ : up ρ 0 4 (nI n) = μ at hq
  have e4 : μ 0 4 = nI n := by rw [← hμ, up_at, if_pos ⟨rfl, rfl⟩]
  have st : ∀ j k, k + j = 164 → vl_X8_undo Q (j + 1) 0 (cpr μ 2 (164 * n) 1 0 k) (nI k) := by
    intro j
    induction j with
    | zero =>
      intro k hk
      have e4' : cpr μ 2 (164 * n) 1 0 k 0 4 = nI n := by unfold cpr; rw [if_neg (by omega)]; exact e4
      refine br_t (gec (a := k) (b := 164) (by omega)) ?_
      rw [e4', show k = 164 by omega]
      exact hq
    | succ j ih =>
      intro k hk
      have e4' : cpr μ 2 (164 * n) 1 0 k 0 4 = nI n := by unfold cpr; rw [if_neg (by omega)]; exact e4
      have ei : (164 : Int32) * nI n + nI k = nI (164 * n + k) := by rw [show (164 : Int32) = nI 164 from rfl, pk_mul, nI_add]
      refine br_f (ltc (a := k) (b := 164) (by omega)) ?_
      rw [e4', ei, nI_clamp (by omega), nI_clamp (by omega)]
      refine ⟨vp_in_nI (by omega) (by omega), vp_in_nI (by omega) (by omega), nm_e (nm_e ?_)⟩
      have e1 : cpr μ 2 (164 * n) 1 0 k 2 (164 * n + k) = μ 2 (k + 164 * n) := by unfold cpr; rw [if_neg (by omega), Nat.add_comm]
      have e2 := cpr_up μ (a := 2) (e := 164 * n) (b := 1) (d := 0) (n := k)
      rw [Nat.zero_add] at e2
      rw [nI_1, e1, e2]
      exact ih (k + 1) (by omega)
  have := st 164 0 (by omega)
  rw [cpr_0] at this
  exact this
