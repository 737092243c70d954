/-! many seconds at once -/
theorem up_at (γ : Mem) (c f : Nat) (v : Int32) (a b : Nat) : up γ c f v a b = if a = c ∧ b = f then v else γ a b := by
  unfold up
  by_cases h : a = c
  · subst h
    rw [if_pos rfl]
    unfold upd
    by_cases h2 : b = f
    · rw [if_pos h2, if_pos ⟨rfl, h2⟩]
    · rw [if_neg h2, if_neg (fun q => h2 q.2)]
  · rw [if_neg h, if_neg (fun q => h q.1)]
theorem due1_ne {γ : Mem} {w : Nat} (h : γ 7 w ≠ 0) : due1 γ w = γ := if_neg h
/-- k seconds for n glasses of which none runs out -/
def pw (γ : Mem) (k : Int32) (n : Nat) : Mem := fun c f => if f < n then (if c = 7 then (if γ 7 f = 0 then 0 else γ 7 f - k) else if c = 10 then (if γ 7 f = 0 then γ 10 f + k else γ 10 f) else γ c f) else γ c f
theorem tks_ne {γ : Mem} : ∀ n, (∀ i, i < n → γ 7 i = 0 ∨ 1 < γ 7 i) → tks γ 1 n = pw γ 1 n
  | 0, _ => by funext c f; simp [tks, pw]
  | n + 1, h => by
    show tk1 (tks γ 1 n) 1 n = _
    rw [tks_ne n (fun i hi => h i (by omega))]
    have e7 : pw γ 1 n 7 n = γ 7 n := by simp [pw]
    have e10 : pw γ 1 n 10 n = γ 10 n := by simp [pw]
    unfold tk1
    rw [e7, e10]
    by_cases c : γ 7 n = 0
    · rw [if_pos c]
      funext a b
      rw [up_at]
      unfold pw
      grind
    · rw [if_neg c]
      have c1 : 1 < γ 7 n := (h n (by omega)).resolve_left c
      have c2 : (0 : Int32) < γ 7 n - 1 := by
        have hi := Int32.le_of_lt c1
        rw [Int32.lt_iff_toInt_lt] at *
        rw [Int32.toInt_sub]
        have := (γ 7 n).toInt_lt
        rw [show (1 : Int32).toInt = 1 from rfl] at *
        rw [show (0 : Int32).toInt = 0 from rfl] at *
        rw [Int.bmod_eq_of_le (by omega) (by omega)]
        omega
      rw [if_pos c2, due1_ne (by rw [up_at, if_pos ⟨rfl, rfl⟩]; grind)]
      funext a b
      rw [up_at]
      unfold pw
      grind
theorem due1_at (γ : Mem) (w c f : Nat) : due1 γ w c f = if γ 7 w = 0 ∧ ¬ 12 ≤ γ 0 6 then (if c = 0 ∧ f = 6 then γ 0 6 + 1 else if c = 21 ∧ f = (γ 0 6).toNatClampNeg then nI w else γ c f) else γ c f := by
  unfold due1
  by_cases h : γ 7 w = 0
  · rw [if_pos h]
    by_cases h2 : 12 ≤ γ 0 6
    · rw [if_pos h2, if_neg (fun q => q.2 h2)]
    · rw [if_neg h2, if_pos ⟨h, h2⟩, up_at, up_at]
  · rw [if_neg h, if_neg (fun q => h q.1)]
theorem tks_ge (γ : Mem) (k : Int32) {c f : Nat} (hc : c = 7 ∨ c = 10) : ∀ n, n ≤ f → tks γ k n c f = γ c f
  | 0, _ => rfl
  | n + 1, h => by
    show tk1 (tks γ k n) k n c f = _
    have ih := tks_ge γ k (f := f) hc n (by omega)
    unfold tk1
    split
    · rw [up_at, if_neg (by omega)]; exact ih
    · rw [due1_n _ _ (by omega) (by omega), up_at, if_neg (by omega)]; exact ih
/-- a memory in which one second is past, save for the glasses below m -/
def shd (γ : Mem) (N m : Nat) (μ : Mem) : Mem := fun c f => if c = 0 ∧ f = 0 then μ 0 0 + 1 else if m ≤ f ∧ f < N ∧ (c = 7 ∨ c = 10) then pw γ 1 N c f else μ c f
theorem nI_sub {a b : Nat} (h : b ≤ a) : nI a - nI b = nI (a - b) := by
  have : nI (a - b) + nI b = nI a := by rw [nI_add, Nat.sub_add_cancel h]
  rw [← this, Int32.add_sub_cancel]
theorem tks_shd {γ : Mem} {N k : Nat} (hk1 : 1 ≤ k) (hk : k ≤ 1000000) (h : ∀ i, i < N → ∃ a, a ≤ 1000000 ∧ γ 7 i = nI a ∧ (a = 0 ∨ k + 1 ≤ a)) : ∀ m, m ≤ N → tks (sec (pw γ 1 N) 1) (nI k) m = shd γ N m (tks γ (nI (k + 1)) m)
  | 0, _ => by
    funext c f
    show up (pw γ 1 N) 0 0 (pw γ 1 N 0 0 + 1) c f = shd γ N 0 γ c f
    rw [up_at]
    unfold shd
    have e : pw γ 1 N 0 0 = γ 0 0 := by simp [pw]
    rw [e]
    by_cases c1 : c = 0 ∧ f = 0
    · rw [if_pos c1, if_pos c1]
    · rw [if_neg c1, if_neg c1]
      unfold pw
      grind
  | m + 1, hm => by
    show tk1 (tks (sec (pw γ 1 N) 1) (nI k) m) (nI k) m = shd γ N (m + 1) (tk1 (tks γ (nI (k + 1)) m) (nI (k + 1)) m)
    rw [tks_shd hk1 hk h m (by omega)]
    have g7 : tks γ (nI (k + 1)) m 7 m = γ 7 m := tks_ge _ _ (by omega) m (by omega)
    have g10 : tks γ (nI (k + 1)) m 10 m = γ 10 m := tks_ge _ _ (by omega) m (by omega)
    generalize tks γ (nI (k + 1)) m = μ at g7 g10
    obtain ⟨a, ha, ea, hka⟩ := h m (by omega)
    have s7 : shd γ N m μ 7 m = if γ 7 m = 0 then 0 else γ 7 m - 1 := by simp [shd, pw, show m < N by omega]
    have s10 : shd γ N m μ 10 m = if γ 7 m = 0 then γ 10 m + 1 else γ 10 m := by simp [shd, pw, show m < N by omega]
    unfold tk1
    rw [s7, s10, g7, g10]
    by_cases c : γ 7 m = 0
    · rw [if_pos c, if_pos c, if_pos rfl, if_pos c, ← nI_1]
      funext c' f'
      rw [up_at]
      unfold shd
      rw [up_at, up_at]
      have p7 : pw γ 1 N 7 m = 0 := by simp [pw, show m < N by omega, c]
      grind
    · have ha0 : a ≠ 0 := fun q => c (by rw [ea, q]; rfl)
      have e1 : γ 7 m - 1 = nI (a - 1) := by rw [ea, show (1 : Int32) = nI 1 from rfl, nI_sub (by omega)]
      have e2 : nI (a - 1) - nI k = nI (a - (k + 1)) := by rw [nI_sub (by omega)]; congr 1; omega
      have e3 : γ 7 m - nI (k + 1) = nI (a - (k + 1)) := by rw [ea, nI_sub (by omega)]
      have n0 : ¬ nI (a - 1) = 0 := by
        intro q
        have := nI_clamp (n := a - 1) (by omega)
        rw [q] at this
        have : a - 1 = 0 := this.symm.trans rfl
        omega
      simp only [if_neg c]
      rw [e1, e2, e3, if_neg n0]
      have p10 : pw γ 1 N 10 m = γ 10 m := by simp [pw, show m < N by omega, c]
      generalize (if 0 < nI (a - (k + 1)) then nI (a - (k + 1)) else 0) = v
      clear h e1 e2 e3 s7 s10 hka ea n0 c ha0 g7
      funext c' f'
      unfold shd
      rw [due1_at, due1_at, due1_at]
      simp only [up_at]
      grind
