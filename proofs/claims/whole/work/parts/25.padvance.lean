/-! advance: the class's steps are the single seconds -/
/-- sizes and sand -/
def GS (γ : Mem) : Prop := ∀ i, i < 12 → ∃ z a, γ 5 i = nI z ∧ γ 7 i = nI a ∧ a ≤ z ∧ z ≤ 300
theorem up_id {γ : Mem} {c f : Nat} {v : Int32} (h : γ c f = v) : up γ c f v = γ := by
  funext a b
  rw [up_at]
  by_cases q : a = c ∧ b = f
  · rw [if_pos q, q.1, q.2, h]
  · rw [if_neg q]
theorem finD_0 {γ : Mem} (h : γ 0 6 = 0) : finD 12 γ 0 = (0, γ) := by
  show (if γ 0 6 ≤ nI 0 then (nI 0, up γ 0 6 0) else _) = _
  rw [if_pos (by rw [h]; exact Int32.le_refl _), up_id h]
  rfl
theorem stp_ne {γ : Mem} {P : Nat} (h0 : γ 0 6 = 0) (h : ∀ i, i < 3 * P → γ 7 i = 0 ∨ 1 < γ 7 i) : stp γ P 1 = (0, sec (pw γ 1 (3 * P)) 1) := by
  unfold stp
  rw [tks_ne _ h]
  exact finD_0 (by unfold sec; rw [up_at, if_neg (by omega)]; simp [pw]; exact h0)
theorem stp_shd {γ : Mem} {P k : Nat} (hk1 : 1 ≤ k) (hk : k ≤ 1000000) (h : ∀ i, i < 3 * P → ∃ a, a ≤ 1000000 ∧ γ 7 i = nI a ∧ (a = 0 ∨ k + 1 ≤ a)) : stp (sec (pw γ 1 (3 * P)) 1) P (nI k) = stp γ P (nI (k + 1)) := by
  unfold stp
  rw [tks_shd hk1 hk h _ (Nat.le_refl _)]
  generalize tks γ (nI (k + 1)) (3 * P) = μ
  have : sec (shd γ (3 * P) (3 * P) μ) (nI k) = sec μ (nI (k + 1)) := by
    funext c f
    unfold sec
    rw [up_at, up_at, ← nI_1]
    unfold shd
    grind
  rw [this]
theorem bulk {P : Nat} : ∀ (k : Nat) (γ : Mem), 1 ≤ k → k ≤ 1000000 → γ 0 6 = 0 → (∀ i, i < 3 * P → ∃ a, a ≤ 1000000 ∧ γ 7 i = nI a ∧ (a = 0 ∨ k ≤ a)) → advs P k γ = stp γ P (nI k)
  | 0, _, h, _, _, _ => by omega
  | 1, γ, _, _, _, _ => by
    show ((stp γ P 1).1 + 0, (stp γ P 1).2) = stp γ P 1
    rw [Int32.add_zero]
  | k + 2, γ, _, hk, h0, h => by
    have hn : ∀ i, i < 3 * P → γ 7 i = 0 ∨ 1 < γ 7 i := by
      intro i hi
      obtain ⟨a, ha, ea, c⟩ := h i hi
      rcases c with c | c
      · exact Or.inl (by rw [ea, c]; rfl)
      · exact Or.inr (by rw [ea, show (1 : Int32) = nI 1 from rfl]; exact nI_lt (by omega) (by omega))
    show ((stp γ P 1).1 + (advs P (k + 1) (stp γ P 1).2).1, (advs P (k + 1) (stp γ P 1).2).2) = _
    rw [stp_ne h0 hn]
    have s06 : sec (pw γ 1 (3 * P)) 1 0 6 = 0 := by
      unfold sec
      rw [up_at, if_neg (by omega)]
      simp [pw]
      exact h0
    rw [bulk (k + 1) (sec (pw γ 1 (3 * P)) 1) (by omega) (by omega) s06 ?_]
    · show (0 + (stp (sec (pw γ 1 (3 * P)) 1) P (nI (k + 1))).1, (stp (sec (pw γ 1 (3 * P)) 1) P (nI (k + 1))).2) = _
      rw [stp_shd (by omega) (by omega) h, Int32.zero_add]
    · intro i hi
      obtain ⟨a, ha, ea, c⟩ := h i hi
      have e : sec (pw γ 1 (3 * P)) 1 7 i = if γ 7 i = 0 then 0 else γ 7 i - 1 := by
        unfold sec
        rw [up_at, if_neg (by omega)]
        simp [pw, hi]
      rw [e]
      rcases c with c | c
      · exact ⟨0, by omega, by rw [if_pos (by rw [ea, c]; rfl)]; rfl, Or.inl rfl⟩
      · refine ⟨a - 1, by omega, ?_, Or.inr (by omega)⟩
        have : ¬ γ 7 i = 0 := by
          rcases hn i hi with q | q
          · intro _
            rw [ea] at q
            have := nI_clamp (n := a) (by omega)
            rw [q] at this
            have : a = 0 := this.symm.trans rfl
            omega
          · intro q2; rw [q2] at q; exact absurd q (by decide)
        rw [if_neg this, ea, show (1 : Int32) = nI 1 from rfl, nI_sub (by omega)]

theorem gs_up {γ : Mem} (h : GS γ) (c f : Nat) (v : Int32) (h5 : c ≠ 5) (h7 : c ≠ 7) : GS (up γ c f v) := by
  intro i hi
  obtain ⟨z, a, h⟩ := h i hi
  exact ⟨z, a, by rw [up_n _ _ _ (Ne.symm h5), up_n _ _ _ (Ne.symm h7)]; exact h⟩
theorem gs_of {γ γ' : Mem} (h : GS γ) (h5 : γ' 5 = γ 5) (h7 : γ' 7 = γ 7) : GS γ' := by
  intro i hi
  rw [h5, h7]
  exact h i hi
theorem gs_due1 {γ : Mem} (h : GS γ) (w : Nat) : GS (due1 γ w) := gs_of h (due1_n _ _ (by omega) (by omega)) (due1_n _ _ (by omega) (by omega))
theorem gs_set {γ : Mem} (h : GS γ) {w a : Nat} (hw : ∀ z, γ 5 w = nI z → z ≤ 300 → a ≤ z) : GS (up γ 7 w (nI a)) := by
  intro i hi
  obtain ⟨z, b, h1, h2, h3, h4⟩ := h i hi
  rw [up_n _ _ _ (show 5 ≠ 7 by omega), up_s]
  by_cases e : i = w
  · subst e
    exact ⟨z, a, h1, pk_us, hw z h1 h4, h4⟩
  · exact ⟨z, b, h1, by rw [pk_un e]; exact h2, h3, h4⟩
theorem gs_fl1 {γ : Mem} (h : GS γ) {w : Nat} (hw : w < 12) : GS (fl1 γ w) := by
  obtain ⟨z, a, h1, h2, h3, h4⟩ := h w hw
  unfold fl1
  refine gs_up ?_ _ _ _ (by omega) (by omega)
  rw [h1, h2, nI_sub h3]
  refine gs_set h (fun z' e hz => ?_)
  rw [h1] at e
  have e1 := nI_clamp (n := z) (by omega)
  rw [e, nI_clamp (by omega)] at e1
  omega
theorem gs_fst1 {γ : Mem} (h : GS γ) {w : Nat} (hw : w < 12) : GS (fst1 γ w) := by
  unfold fst1
  split
  · exact h
  · exact gs_due1 (gs_fl1 h hw) w
theorem gs_fsts {γ : Mem} (h : GS γ) : ∀ n, n ≤ 12 → GS (fsts γ n)
  | 0, _ => h
  | n + 1, hn => gs_fst1 (gs_fsts h n (by omega)) (by omega)
theorem gs_eff {γ : Mem} (h : GS γ) (e : Int32) (p : Nat) : GS (eff γ e p) := by
  unfold eff
  split
  · exact gs_fsts h 12 (by omega)
  · split
    · exact gs_up h _ _ _ (by omega) (by omega)
    · exact h
theorem gs_dn1 {γ : Mem} (h : GS γ) (w : Nat) : GS (dn1 γ w) := by
  unfold dn1
  split
  · refine gs_eff (gs_of h ?_ ?_) _ _
    · rw [gain_n _ _ _ (by omega) (by omega)]; rfl
    · rw [gain_n _ _ _ (by omega) (by omega)]; rfl
  · exact h
theorem gs_finD : ∀ n γ k, GS γ → GS (finD n γ k).2
  | 0, γ, k, h => gs_up h _ _ _ (by omega) (by omega)
  | n + 1, γ, k, h => by
    unfold finD
    split
    · exact gs_up h _ _ _ (by omega) (by omega)
    · exact gs_finD n _ _ (gs_dn1 h _)
theorem d0_finD : ∀ n γ k, (finD n γ k).2 0 6 = 0
  | 0, γ, k => by show up γ 0 6 0 0 6 = 0; rw [up_at, if_pos ⟨rfl, rfl⟩]
  | n + 1, γ, k => by
    unfold finD
    split
    · show up γ 0 6 0 0 6 = 0; rw [up_at, if_pos ⟨rfl, rfl⟩]
    · exact d0_finD n _ _
theorem gs_tk1 {γ : Mem} (h : GS γ) {k i : Nat} (hk : k ≤ 1000000) (hi : i < 12) : GS (tk1 γ (nI k) i) := by
  obtain ⟨z, a, h1, h2, h3, h4⟩ := h i hi
  unfold tk1
  split
  · exact gs_up h _ _ _ (by omega) (by omega)
  · refine gs_due1 ?_ i
    have hz : ∀ b, b ≤ a → ∀ z, γ 5 i = nI z → z ≤ 300 → b ≤ z := by
      intro b hb z' e hz'
      rw [h1] at e
      have e1 := nI_clamp (n := z) (by omega)
      rw [e, nI_clamp (by omega)] at e1
      omega
    by_cases c : k ≤ a
    · rw [h2, nI_sub c]
      split
      · exact gs_set h (hz _ (by omega))
      · exact gs_set (a := 0) h (hz _ (by omega))
    · have : ¬ 0 < γ 7 i - nI k := by
        rw [h2]
        have e : nI k = nI (k - a) + nI a := by rw [nI_add]; congr 1; omega
        have e2 : nI a - nI k = - nI (k - a) := by rw [e]; grind
        rw [e2]
        have := nI_pos' (n := k - a) (by omega)
        have := nI_lt (a := k - a) (b := 1000001) (by omega) (by omega)
        rw [Int32.le_iff_toInt_le] at *
        rw [Int32.lt_iff_toInt_lt] at *
        rw [Int32.toInt_neg]
        rw [show (0 : Int32).toInt = 0 from rfl] at *
        rw [show (nI 1000001).toInt = 1000001 from rfl] at *
        rw [Int.bmod_eq_of_le (by omega) (by omega)]
        omega
      rw [if_neg this]
      exact gs_set (a := 0) h (hz _ (by omega))
theorem gs_tks {γ : Mem} (h : GS γ) {k : Nat} (hk : k ≤ 1000000) : ∀ n, n ≤ 12 → GS (tks γ (nI k) n)
  | 0, _ => h
  | n + 1, hn => gs_tk1 (gs_tks h hk n (by omega)) hk (by omega)
theorem gs_stp {γ : Mem} (h : GS γ) {P k : Nat} (hP : P ≤ 4) (hk : k ≤ 1000000) : GS (stp γ P (nI k)).2 :=
  gs_finD _ _ _ (gs_up (gs_tks h hk _ (by omega)) _ _ _ (by omega) (by omega))
theorem unt_spec {γ : Mem} (h : GS γ) : ∃ u, unt γ = nI u ∧ 1 ≤ u ∧ u ≤ 1000000 ∧ (∀ i, i < 12 → ∃ a, a ≤ 300 ∧ γ 7 i = nI a ∧ (a = 0 ∨ u ≤ a)) ∧ (u = 1000000 ∧ (∀ i, i < 12 → γ 7 i = 0) ∨ u ≤ 300 ∧ ∃ b, b < 12 ∧ nxo γ 12 = nI b ∧ γ 7 b = nI u ∧ ∀ i, i < b → γ 7 i ≠ 0 → γ 7 b < γ 7 i) := by
  rcases nxo_spec γ 12 (by omega) with ⟨h1, h2⟩ | ⟨b, hb, h1, h2, h3, h4⟩
  · refine ⟨1000000, by unfold unt; rw [if_pos h1]; rfl, by omega, by omega, fun i hi => ⟨0, by omega, by rw [h2 i hi]; rfl, Or.inl rfl⟩, Or.inl ⟨rfl, h2⟩⟩
  · obtain ⟨z, u, e5, e7, huz, hz⟩ := h b hb
    have hu : u ≠ 0 := fun q => h2 (by rw [e7, q]; rfl)
    refine ⟨u, ?_, by omega, by omega, fun i hi => ?_, Or.inr ⟨by omega, b, hb, h1, e7, h4⟩⟩
    · unfold unt
      rw [if_neg (by rw [h1]; exact nI_m1 (by omega)), h1, nI_clamp (by omega), e7]
    · obtain ⟨z', a, e5', e7', haz, hz'⟩ := h i hi
      refine ⟨a, by omega, e7', ?_⟩
      by_cases c : γ 7 i = 0
      · left
        rw [e7'] at c
        have := nI_clamp (n := a) (by omega)
        rw [c] at this
        exact this.symm.trans rfl
      · right
        have := h3 i hi c
        rw [e7, e7', nI_leI (by omega) (by omega)] at this
        exact this
