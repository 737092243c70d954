/-- absent players and their workers are as at the start -/
def AB (P : Nat) (g : Mem) : Prop := (∀ p, P ≤ p → p < 4 → g 3 p = 0) ∧ (∀ f, 3 * P ≤ f → f < 12 → g 2 f = 5 ∧ g 5 f = nI (30 * (f % 3) + 30) ∧ g 6 f = -1 ∧ g 7 f = 0 ∧ g 8 f = 0 ∧ g 9 f = 0 ∧ g 10 f = 0 ∧ g 11 f = 0)
theorem relF_w {F : Mem} {s : Nat → Int32} (h : ∀ c f, liv 4 c f = true → s (J c f) = F c f) {c f : Nat} (v : Int32) (hl : liv 4 c f = true) : ∀ a b, liv 4 a b = true → upd s (J c f) v (J a b) = up F c f v a b := by
  intro a b hab
  rw [up_at]
  by_cases e : J a b = J c f
  · rw [e, pk_us, if_pos (J_inj hab hl e)]
  · rw [pk_un e, if_neg (fun q => e (by rw [q.1, q.2]))]
    exact h a b hab
/-- the row agrees with the ints F, and its sums with the game -/
def RF (g F : Mem) (s : Nat → Int32) : Prop := (∀ c f, liv 4 c f = true → s (J c f) = F c f) ∧ s 4 = sm (g 9) 12 ∧ s 5 = sm (g 11) 12 ∧ ∀ p, p < 4 → s (8 + 5 * p + 4) = wks g p
theorem RF.w {g F : Mem} {s : Nat → Int32} (h : RF g F s) {c f : Nat} (v : Int32) (hl : liv 4 c f = true) : RF g (up F c f v) (upd s (J c f) v) := by
  obtain ⟨j1, j2, j3, j4⟩ := J_sum hl
  exact ⟨relF_w h.1 v hl, by rw [pk_un (Ne.symm j2)]; exact h.2.1, by rw [pk_un (Ne.symm j3)]; exact h.2.2.1, fun p hp => by rw [pk_un (Ne.symm (j4 p hp))]; exact h.2.2.2 p hp⟩
def FZ (P : Nat) (g : Mem) : Mem := fun c f => if liv P c f = true then g c f else 0
theorem r_player {Q : Int32 → Mem → Prop} {P n : Nat} {g ρ : Mem} (h : RR P g ρ) (ha : AB P g) (hn : n ≤ 4) (e : ρ 0 4 = nI n) (hq : (P = 4 → Q (-1000003) ρ) ∧ (P < 4 → ∀ ρ', RR (P + 1) (up g 1 0 (g 1 0 + 1)) ρ' → Fr (chz ρ n) ρ' → Q (nI P) ρ')) : vc_X8_player Q ρ := by
  have hP := h.1
  have e0 : ρ 1 0 = nI P := h.p
  refine ⟨4, ?_⟩
  rw [show (0 : Int32).toNatClampNeg = 0 from rfl, e0]
  refine nm_e ?_
  by_cases c : P = 4
  · subst c
    exact ⟨fun q => absurd rfl q, fun _ => hq.1 rfl⟩
  · have n4 : ¬ nI P = 4 := by
      intro q
      have := nI_clamp (n := P) (by omega)
      rw [q] at this
      exact c this.symm
    have hP3 : P < 4 := by omega
    refine ⟨fun _ => r_chz hn e ?_, fun q => absurd q n4⟩
    have hc := h.chz n
    have R0 : RF g (FZ P g) (chz ρ n 1) := hc.2.2
    have i21 : ∀ k m : Nat, ((28 : Int32) + 21 * nI P) + 7 * nI k + nI m = nI (28 + 21 * P + 7 * k + m) := fun k m => by
      rw [show (28 : Int32) = nI 28 from rfl, show (21 : Int32) = nI 21 from rfl, show (7 : Int32) = nI 7 from rfl, pk_mul, pk_mul, nI_add, nI_add, nI_add]
    have st : ∀ f k F ρ, k < 3 → RF g F (ρ 1) → (∀ ρ', RF g (up (up (up F 2 (3 * P + k) 5) 5 (3 * P + k) (nI (30 * k + 30))) 6 (3 * P + k) (-1)) (ρ' 1) → Fr ρ ρ' → vl_X8_player Q f 0 ρ' (nI P) (nI (k + 1))) → vl_X8_player Q (f + 1) 0 ρ (nI P) (nI k) := by
      intro f k F ρ hk hR hq
      refine br_f (ltc (a := k) (b := 3) hk) ?_
      rw [i8, show ((28 : Int32) + 21 * nI P) + 7 * nI k + 0 = nI (28 + 21 * P + 7 * k + 0) from i21 k 0, show ((28 : Int32) + 21 * nI P) + 7 * nI k + 1 = nI (28 + 21 * P + 7 * k + 1) from i21 k 1, nI_clamp (by omega), nI_clamp (by omega), nI_clamp (by omega)]
      refine ⟨vp_in_nI (by omega) (by omega), nm_e ⟨vp_in_nI (by omega) (by omega), nm_e ⟨vp_in_nI (by omega) (by omega), nm_e (nm_e ?_)⟩⟩⟩
      have R1 := hR.w (c := 2) (f := 3 * P + k) 5 (by simp [liv]; omega)
      have R2 := R1.w (c := 5) (f := 3 * P + k) (nI (30 * k + 30)) (by simp [liv]; omega)
      have R3 := R2.w (c := 6) (f := 3 * P + k) (-1) (by simp [liv]; omega)
      rw [show J 2 (3 * P + k) = 8 + 5 * P + k by simp [J]; omega, show J 5 (3 * P + k) = 28 + 21 * P + 7 * k + 0 by simp [J]; omega, show J 6 (3 * P + k) = 28 + 21 * P + 7 * k + 1 by simp [J]; omega] at R3
      rw [nI_1, show (30 : Int32) * nI k + 30 = nI (30 * k + 30) from by rw [show (30 : Int32) = nI 30 from rfl, pk_mul, nI_add]]
      refine hq _ ?_ ((fr_1 _ _ _).tr ((fr_1 _ _ _).tr (fr_1 _ _ _)))
      rw [up_s, up_s, up_s]
      exact R3
    refine st 3 0 _ _ (by omega) R0 fun ρ1 R1 f1 => st 2 1 _ ρ1 (by omega) R1 fun ρ2 R2 f2 => st 1 2 _ ρ2 (by omega) R2 fun ρ3 R3 f3 => br_t (gec (a := 3) (b := 3) (by omega)) (nm_e (hq.2 hP3 _ ?_ (f1.tr (f2.tr (f3.tr (fr_1 _ _ _))))))
    have e3 : ρ3 1 0 = nI P := by
      have := R3.1 1 0 (by decide)
      rw [show J 1 0 = 0 from rfl] at this
      rw [this]
      simp only [up_at, FZ]
      rw [if_neg (by omega), if_neg (by omega), if_neg (by omega), if_neg (by omega), if_neg (by omega), if_neg (by omega), if_neg (by omega), if_neg (by omega), if_neg (by omega), if_pos (by simp [liv])]
      exact h.2.1
    have R4 := R3.w (c := 1) (f := 0) (nI P + 1) (by decide)
    rw [show J 1 0 = 0 from rfl] at R4
    refine ⟨by omega, ?_, ?_⟩
    · rw [up_at, if_pos ⟨rfl, rfl⟩, h.2.1, nI_1]
    · rw [up_s, show (0 : Int32).toNatClampNeg = 0 from rfl, e3]
      refine ⟨fun a b hab => ?_, ?_, ?_, fun p hp => ?_⟩
      · rw [R4.1 a b hab]
        simp only [up_at, FZ, h.2.1]
        by_cases q1 : a = 1 ∧ b = 0
        · rw [if_pos q1, if_pos q1, if_pos (by rw [q1.1, q1.2]; simp [liv])]
        · rw [if_neg q1, if_neg q1]
          have hA := ha.2 b
          have hB := ha.1 b
          have e30 : ∀ k, k < 3 → b = 3 * P + k → b % 3 = k := fun k hk q => by omega
          by_cases q2 : liv P a b = true
          · have q3 : liv (P + 1) a b = true := by simp [liv] at q2 ⊢; omega
            have m : ¬ (3 * P ≤ b ∧ (a = 2 ∨ a = 5 ∨ a = 6)) := by simp [liv] at q2; omega
            rw [if_pos q2, if_pos q3, if_neg (by omega), if_neg (by omega), if_neg (by omega), if_neg (by omega), if_neg (by omega), if_neg (by omega), if_neg (by omega), if_neg (by omega), if_neg (by omega)]
          · rw [if_neg q2]
            by_cases q3 : liv (P + 1) a b = true
            · rw [if_pos q3]
              have m : (a = 2 ∧ 3 * P ≤ b ∧ b < 3 * P + 3) ∨ (a = 3 ∧ b = P) ∨ ((5 ≤ a ∧ a ≤ 11) ∧ 3 * P ≤ b ∧ b < 3 * P + 3) := by simp [liv] at q2 q3; omega
              rcases m with ⟨rfl, m1, m2⟩ | ⟨rfl, rfl⟩ | ⟨⟨m0, m0'⟩, m1, m2⟩
              · obtain ⟨a2, _⟩ := hA m1 (by omega)
                rw [a2]
                rcases (show b = 3 * P ∨ b = 3 * P + 1 ∨ b = 3 * P + 2 by omega) with rfl | rfl | rfl <;> simp
              · rw [hB (Nat.le_refl _) hP3]
                simp
              · obtain ⟨a2, a5, a6, a7, a8, a9, a10, a11⟩ := hA m1 (by omega)
                rcases (show a = 5 ∨ a = 6 ∨ a = 7 ∨ a = 8 ∨ a = 9 ∨ a = 10 ∨ a = 11 by omega) with rfl | rfl | rfl | rfl | rfl | rfl | rfl
                · rw [a5]
                  rcases (show b = 3 * P ∨ b = 3 * P + 1 ∨ b = 3 * P + 2 by omega) with rfl | rfl | rfl <;> simp
                · rw [a6]
                  rcases (show b = 3 * P ∨ b = 3 * P + 1 ∨ b = 3 * P + 2 by omega) with rfl | rfl | rfl <;> simp
                · rw [a7]; simp
                · rw [a8]; simp
                · rw [a9]; simp
                · rw [a10]; simp
                · rw [a11]; simp
            · rw [if_neg q3]
              have m : ¬ (3 * P ≤ b ∧ b < 3 * P + 3 ∧ (a = 2 ∨ a = 5 ∨ a = 6)) := by simp [liv] at q3; omega
              rw [if_neg (by omega), if_neg (by omega), if_neg (by omega), if_neg (by omega), if_neg (by omega), if_neg (by omega), if_neg (by omega), if_neg (by omega), if_neg (by omega)]
      · rw [R4.2.1]; rfl
      · rw [R4.2.2.1]; rfl
      · rw [R4.2.2.2 p hp]; rfl
