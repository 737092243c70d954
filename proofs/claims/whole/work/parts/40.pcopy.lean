/-- the rows of a game -/
def row (c : Nat) : Bool := c == 2 || c == 3 || (decide (5 ≤ c) && decide (c ≤ 11)) || (decide (13 ≤ c) && decide (c ≤ 17)) || c == 19 || c == 20
/-- the second game is a copy of the first -/
def Cp (g g' : Mem) : Prop := (∀ c, row c = true → g' c = g c) ∧ g' 0 0 = g 0 0 ∧ g' 1 0 = g 1 0 ∧ g' 1 1 = g 1 1 ∧ g' 4 0 = g 4 0 ∧ g' 12 0 = g 12 0 ∧ g' 18 0 = g 18 0
theorem Cp.r {g g' : Mem} (h : Cp g g') {c : Nat} (hc : row c = true) : g' c = g c := h.1 c hc
theorem Cp.tr {a b c : Mem} (h : Cp a b) (h' : Cp b c) : Cp a c := ⟨fun i hi => (h'.1 i hi).trans (h.1 i hi), h'.2.1.trans h.2.1, h'.2.2.1.trans h.2.2.1, h'.2.2.2.1.trans h.2.2.2.1, h'.2.2.2.2.1.trans h.2.2.2.2.1, h'.2.2.2.2.2.1.trans h.2.2.2.2.2.1, h'.2.2.2.2.2.2.trans h.2.2.2.2.2.2⟩
theorem cp_liv {g g' : Mem} (h : Cp g g') {c f : Nat} (hl : liv 4 c f = true) : g' c f = g c f := by
  obtain ⟨h0, h1, h2, h3, h4, h5, h6⟩ := h
  by_cases hr : row c = true
  · rw [h0 c hr]
  · simp [row] at hr
    simp [liv] at hl
    rcases (show (c = 1 ∧ f = 0) ∨ (c = 1 ∧ f = 1) ∨ (c = 12 ∧ f = 0) ∨ (c = 18 ∧ f = 0) ∨ (c = 0 ∧ f = 0) ∨ (c = 4 ∧ f = 0) by omega) with ⟨rfl, rfl⟩ | ⟨rfl, rfl⟩ | ⟨rfl, rfl⟩ | ⟨rfl, rfl⟩ | ⟨rfl, rfl⟩ | ⟨rfl, rfl⟩
    · exact h2
    · exact h3
    · exact h5
    · exact h6
    · exact h1
    · exact h4
theorem RR.cp {P : Nat} {g g' ρ : Mem} (h : RR P g ρ) (hc : Cp g g') : RR P g' ρ := h.of (fun c f hl => cp_liv hc hl) (hc.r rfl) (hc.r rfl)
theorem GO.cp {P : Nat} {g g' : Mem} (h : GO P g) (hc : Cp g g') (h0 : g' 0 6 = 0) : GO P g' := by
  obtain ⟨⟨a, b, c, d, e⟩, t, z⟩ := h
  have e12 : g' 12 0 = g 12 0 := hc.2.2.2.2.2.1
  refine ⟨⟨a, hc.2.2.1.trans b, c.of hc.2.2.1 e12 hc.2.2.2.2.2.2, h0, gs_of e (hc.r rfl) (hc.r rfl)⟩, fun i hi hn => ?_, fun i h1 h2 => by rw [hc.r (c := 6) rfl]; exact z i h1 h2⟩
  rw [hc.r (c := 7) rfl] at hn
  rw [hc.r (c := 6) rfl, e12]
  exact t i hi hn
theorem cp_at (γ : Mem) (k : Nat) (r : Nat → Int32) (c : Nat) : cp γ k r c = if c = k then r else γ c := rfl
theorem s_copyFrom {Q : Mem → Prop} {τ γ : Mem} (h : ∀ τ', Cp γ τ' → τ' 0 6 = τ 0 6 → Q τ') : vc_X1_copyFrom Q τ γ := by
  unfold vc_X1_copyFrom vc_X5_copyFrom vc_X2_copyFrom vc_X6_copyFrom vc_X0_copyFrom vc_X7_copyRow
  refine nm_e (nm_e (nm_e (nm_e (nm_e (nm_e (h _ ⟨fun c hc => ?_, ?_, ?_, ?_, ?_, ?_, ?_⟩ ?_))))))
  · simp [row] at hc
    simp only [cp_at, up]
    rcases (show c = 2 ∨ c = 3 ∨ c = 5 ∨ c = 6 ∨ c = 7 ∨ c = 8 ∨ c = 9 ∨ c = 10 ∨ c = 11 ∨ c = 13 ∨ c = 14 ∨ c = 15 ∨ c = 16 ∨ c = 17 ∨ c = 19 ∨ c = 20 by omega) with rfl | rfl | rfl | rfl | rfl | rfl | rfl | rfl | rfl | rfl | rfl | rfl | rfl | rfl | rfl | rfl <;> rfl
  all_goals (simp only [cp_at, up]; rfl)
