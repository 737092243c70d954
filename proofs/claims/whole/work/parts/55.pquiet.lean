/-! seconds in which nothing runs out, and the one in which something does -/
def qt (γ : Mem) (N j : Nat) : Mem := fun c f => if c = 0 ∧ f = 0 then γ 0 0 + nI j else if f < N ∧ c = 7 then (if γ 7 f = 0 then 0 else γ 7 f - nI j) else if f < N ∧ c = 10 then (if γ 7 f = 0 then γ 10 f + nI j else γ 10 f) else γ c f
theorem qt_0 (γ : Mem) (N : Nat) : qt γ N 0 = γ := by
  funext c f
  unfold qt
  rw [show nI 0 = 0 from rfl]
  grind
theorem qt_n (γ : Mem) (N j : Nat) {c : Nat} (h0 : c ≠ 0) (h7 : c ≠ 7) (h10 : c ≠ 10) : qt γ N j c = γ c := by
  funext f
  unfold qt
  rw [if_neg (by omega), if_neg (by omega), if_neg (by omega)]
theorem qt_06 (γ : Mem) (N j : Nat) : qt γ N j 0 6 = γ 0 6 := by
  unfold qt
  rw [if_neg (by omega), if_neg (by omega), if_neg (by omega)]
theorem qt_7 (γ : Mem) {N j f : Nat} (h : f < N) : qt γ N j 7 f = if γ 7 f = 0 then 0 else γ 7 f - nI j := by
  unfold qt
  rw [if_neg (by omega), if_pos ⟨h, rfl⟩]
theorem qt_7o (γ : Mem) {N j f : Nat} (h : N ≤ f) : qt γ N j 7 f = γ 7 f := by
  unfold qt
  rw [if_neg (by omega), if_neg (by omega), if_neg (by omega)]
theorem quiet {P u : Nat} {γ : Mem} (h0 : γ 0 6 = 0) (h : ∀ i, i < 3 * P → ∃ a, a ≤ 1000000 ∧ γ 7 i = nI a ∧ (a = 0 ∨ u ≤ a)) : ∀ j, j < u → advs P j γ = (0, qt γ (3 * P) j)
  | 0, _ => by rw [qt_0]; rfl
  | j + 1, hj => by
    have ih := quiet h0 h j (by omega)
    rw [advs_add P j 1, ih]
    show (0 + ((stp (qt γ (3 * P) j) P 1).1 + 0), (stp (qt γ (3 * P) j) P 1).2) = _
    have hn : ∀ i, i < 3 * P → qt γ (3 * P) j 7 i = 0 ∨ 1 < qt γ (3 * P) j 7 i := by
      intro i hi
      obtain ⟨a, ha, ea, c⟩ := h i hi
      rw [qt_7 _ hi]
      rcases c with c | c
      · exact Or.inl (by rw [if_pos (by rw [ea, c]; rfl)])
      · rw [if_neg (by rw [ea]; exact ai0 (by omega) (by omega)), ea, nI_sub (by omega)]
        exact Or.inr (by rw [show (1 : Int32) = nI 1 from rfl]; exact nI_lt (by omega) (by omega))
    rw [stp_ne (by rw [qt_06]; exact h0) hn]
    refine Prod.ext (by simp) ?_
    show sec (pw (qt γ (3 * P) j) 1 (3 * P)) 1 = qt γ (3 * P) (j + 1)
    have e7 : ∀ f, f < 3 * P → qt γ (3 * P) j 7 f = if γ 7 f = 0 then 0 else γ 7 f - nI j := fun f hf => qt_7 _ hf
    have nz : ∀ f, f < 3 * P → (qt γ (3 * P) j 7 f = 0 ↔ γ 7 f = 0) := by
      intro f hf
      rw [e7 f hf]
      obtain ⟨a, ha, ea, c⟩ := h f hf
      rcases c with c | c
      · rw [ea, c]; simp [show nI 0 = 0 from rfl]
      · have q1 : ¬ γ 7 f = 0 := by rw [ea]; exact ai0 (by omega) (by omega)
        rw [if_neg q1, ea, nI_sub (by omega)]
        exact ⟨fun q => absurd q (ai0 (by omega) (by omega)), fun q => absurd q (ai0 (by omega) (by omega))⟩
    funext c f
    unfold sec
    rw [up_at]
    by_cases c00 : c = 0 ∧ f = 0
    · rw [if_pos c00, c00.1, c00.2]
      have : pw (qt γ (3 * P) j) 1 (3 * P) 0 0 = qt γ (3 * P) j 0 0 := by simp [pw]
      rw [this]
      show qt γ (3 * P) j 0 0 + 1 = qt γ (3 * P) (j + 1) 0 0
      unfold qt
      rw [if_pos ⟨rfl, rfl⟩, if_pos ⟨rfl, rfl⟩, ← nI_1]
      grind
    · rw [if_neg c00]
      unfold pw
      by_cases hf : f < 3 * P
      · rw [if_pos hf]
        by_cases c7 : c = 7
        · subst c7
          rw [if_pos rfl, qt_7 (j := j + 1) γ hf]
          have z := nz f hf
          by_cases q : γ 7 f = 0
          · rw [if_pos (z.mpr q), if_pos q]
          · rw [if_neg (fun w => q (z.mp w)), if_neg q, e7 f hf, if_neg q, ← nI_1]
            grind
        · rw [if_neg c7]
          by_cases c10 : c = 10
          · subst c10
            have z := nz f hf
            rw [if_pos rfl]
            by_cases q : γ 7 f = 0
            · rw [if_pos (z.mpr q)]
              unfold qt
              rw [if_neg (by omega), if_neg (by omega), if_pos ⟨hf, rfl⟩, if_pos q, if_neg (by omega), if_neg (by omega), if_pos ⟨hf, rfl⟩, if_pos q, ← nI_1]
              grind
            · rw [if_neg (fun w => q (z.mp w))]
              unfold qt
              rw [if_neg (by omega), if_neg (by omega), if_pos ⟨hf, rfl⟩, if_neg q, if_neg (by omega), if_neg (by omega), if_pos ⟨hf, rfl⟩, if_neg q]
          · rw [if_neg c10]
            unfold qt
            rw [if_neg c00, if_neg (by omega), if_neg (by omega), if_neg c00, if_neg (by omega), if_neg (by omega)]
      · rw [if_neg hf]
        unfold qt
        rw [if_neg c00, if_neg (by omega), if_neg (by omega), if_neg c00, if_neg (by omega), if_neg (by omega)]
/-! what is out stays out -/
theorem z_tk1 {g : Mem} {w i : Nat} {k : Int32} (h : g 7 w = 0) : tk1 g k i 7 w = 0 := by
  unfold tk1
  split
  · rw [up_n _ _ _ (by omega)]; exact h
  · next c =>
    rw [due1_n _ _ (by omega) (by omega), up_at, if_neg (fun q => c (by rw [← q.2]; exact h))]
    exact h
theorem z_tks {g : Mem} {w : Nat} {k : Int32} (h : g 7 w = 0) : ∀ n, tks g k n 7 w = 0
  | 0 => h
  | n + 1 => z_tk1 (z_tks h n)
theorem z_stp {g : Mem} {P w : Nat} {k : Int32} (h : g 7 w = 0) : (stp g P k).2 7 w = 0 :=
  z_finD _ _ _ (by rw [sec_n _ _ (by omega)]; exact z_tks h _)
theorem z_advs {P w : Nat} : ∀ n g, g 7 w = 0 → (advs P n g).2 7 w = 0
  | 0, _, h => h
  | n + 1, g, h => z_advs n _ (z_stp h)
theorem l_tks {g : Mem} {w : Nat} (h : g 7 w = 1) : ∀ n, w < n → tks g 1 n 7 w = 0
  | 0, hn => by omega
  | n + 1, hn => by
    show tk1 (tks g 1 n) 1 n 7 w = 0
    by_cases e : w = n
    · subst e
      have e7 : tks g 1 w 7 w = 1 := (tks_ge _ _ (by omega) w (by omega)).trans h
      unfold tk1
      rw [e7, if_neg (by decide), due1_n _ _ (by omega) (by omega), up_at, if_pos ⟨rfl, rfl⟩]
      decide
    · exact z_tk1 (l_tks h n (by omega))
theorem l_stp {g : Mem} {P w : Nat} (h : g 7 w = 1) (hw : w < 3 * P) : (stp g P 1).2 7 w = 0 :=
  z_finD _ _ _ (by rw [sec_n _ _ (by omega)]; exact l_tks h _ hw)
theorem ac_le {r r' : Nat → Int32} (h : ∀ i, r i = 0 → r' i = 0) : ∀ n, ac r' n ≤ ac r n
  | 0 => Nat.le_refl _
  | n + 1 => by
    have ih := ac_le h n
    have hn := h n
    unfold ac
    by_cases c : r n = 0
    · rw [if_pos c, if_pos (hn c)]; exact ih
    · rw [if_neg c]
      split <;> omega
theorem ac_lt {r r' : Nat → Int32} (h : ∀ i, r i = 0 → r' i = 0) {b : Nat} (hb : r b ≠ 0) (hb' : r' b = 0) : ∀ n, b < n → ac r' n < ac r n
  | 0, hn => by omega
  | n + 1, hn => by
    have il := ac_le h n
    have hq := h n
    unfold ac
    by_cases e : b = n
    · subst e
      rw [if_neg hb, if_pos hb']
      omega
    · have ih := ac_lt h hb hb' n (by omega)
      by_cases c : r n = 0
      · rw [if_pos c, if_pos (hq c)]; exact ih
      · rw [if_neg c]
        split <;> omega
theorem ac_zero {r : Nat → Int32} : ∀ n, ac r n = 0 → ∀ i, i < n → r i = 0
  | 0, _, i, hi => by omega
  | n + 1, h, i, hi => by
    unfold ac at h
    by_cases c : r n = 0
    · rw [if_pos c] at h
      by_cases e : i = n
      · rw [e]; exact c
      · exact ac_zero n (by omega) i (by omega)
    · rw [if_neg c] at h
      omega
/-- the next event: the glass b is out after u seconds -/
theorem event {P u b : Nat} {γ : Mem} (h0 : γ 0 6 = 0) (h : ∀ i, i < 12 → ∃ a, a ≤ 300 ∧ γ 7 i = nI a ∧ (a = 0 ∨ u ≤ a)) (hP : P ≤ 4) (hb : b < 3 * P) (eb : γ 7 b = nI u) (hu : 1 ≤ u) (hu3 : u ≤ 300) : (advs P u γ).2 7 b = 0 ∧ ac ((advs P u γ).2 7) 12 < ac (γ 7) 12 := by
  have e : (advs P u γ).2 7 b = 0 := by
    have hq := quiet (P := P) (u := u) h0 (fun i hi => by
      obtain ⟨a, h1, h2, h3⟩ := h i (by omega)
      exact ⟨a, by omega, h2, h3⟩) (u - 1) (by omega)
    have := advs_add P (u - 1) 1 γ
    rw [Nat.sub_add_cancel hu, hq] at this
    rw [this]
    show (stp (qt γ (3 * P) (u - 1)) P 1).2 7 b = 0
    refine l_stp ?_ hb
    rw [qt_7 _ hb, if_neg (by rw [eb]; exact ai0 (by omega) (by omega)), eb, nI_sub (by omega), show u - (u - 1) = 1 by omega]
    rfl
  exact ⟨e, ac_lt (r := γ 7) (r' := (advs P u γ).2 7) (b := b) (fun i hi => z_advs u γ hi) (by rw [eb]; exact ai0 (by omega) (by omega)) e 12 (by omega)⟩
