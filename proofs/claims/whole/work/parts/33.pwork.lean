theorem RR.of {P : Nat} {g g' ρ : Mem} (h : RR P g ρ) (e : ∀ c f, liv 4 c f = true → g' c f = g c f) (e9 : g' 9 = g 9) (e11 : g' 11 = g 11) : RR P g' ρ := by
  refine ⟨h.1, (e 1 0 (by decide)).trans h.2.1, fun c f hl => ?_, by rw [e9]; exact h.2.2.2.1, by rw [e11]; exact h.2.2.2.2.1, fun p hp => ?_⟩
  · rw [e c f hl]; exact h.2.2.1 c f hl
  · unfold wks
    rw [e9]
    exact h.2.2.2.2.2 p hp
theorem RR.due {P : Nat} {g ρ : Mem} (h : RR P g ρ) (w : Nat) : RR P (due1 g w) ρ := by
  refine h.of (fun c f hl => ?_) (due1_n _ _ (by omega) (by omega)) (due1_n _ _ (by omega) (by omega))
  have hc : c ≠ 21 := fun q => by subst q; simp [liv] at hl
  by_cases q : c = 0
  · subst q
    refine due1_0 _ _ (fun q => ?_)
    subst q
    simp [liv] at hl
  · rw [due1_n _ _ hc q]
/-- the reference beside a game in which works are due -/
def RQ (P : Nat) (g ρ : Mem) : Prop := RR P g ρ ∧ ρ 0 9 = g 0 6 ∧ ∀ n, n ≤ 12 → g 0 6 = nI n → ∀ j, j < n → ρ 6 j = g 21 j
theorem rq_push {P n w : Nat} {g ρ : Mem} (h : RQ P g ρ) (hn : n < 12) (e : g 0 6 = nI n) (h7 : g 7 w = 0) : RQ P (due1 g w) (up (up ρ 6 n (nI w)) 0 9 (up ρ 6 n (nI w) 0 9 + 1)) := by
  obtain ⟨h1, h2, h3⟩ := h
  have ng : ¬ (12 : Int32) ≤ nI n := nI_ge (b := 12) (a := n) (by omega) (by omega)
  refine ⟨(h1.due w).fr ?_, ?_, fun m hm em j hj => ?_⟩
  · rw [up_n _ _ _ (show 1 ≠ 0 by omega), up_n _ _ _ (show 1 ≠ 6 by omega)]
  · rw [up_at, if_pos ⟨rfl, rfl⟩, up_at, if_neg (by omega), h2, due1_at, if_pos ⟨h7, by rw [e]; exact ng⟩, if_pos ⟨rfl, rfl⟩]
  · rw [due1_at, if_pos ⟨h7, by rw [e]; exact ng⟩, if_pos ⟨rfl, rfl⟩, e, nI_1] at em
    have hmn : m = n + 1 := by
      have q := nI_clamp (n := m) (by omega)
      rw [← em, nI_clamp (by omega)] at q
      omega
    have eR : due1 g w 21 j = if j = n then nI w else g 21 j := by
      rw [due1_at, if_pos ⟨h7, by rw [e]; exact ng⟩, if_neg (by omega), e, nI_clamp (by omega)]
      by_cases q : j = n
      · rw [if_pos ⟨rfl, q⟩, if_pos q]
      · rw [if_neg (fun z => q z.2), if_neg q]
    have eL : up (up ρ 6 n (nI w)) 0 9 (up ρ 6 n (nI w) 0 9 + 1) 6 j = if j = n then nI w else ρ 6 j := by
      rw [up_n _ _ _ (show 6 ≠ 0 by omega), up_at]
      by_cases q : j = n
      · rw [if_pos ⟨rfl, q⟩, if_pos q]
      · rw [if_neg (fun z => q z.2), if_neg q]
    rw [eR, eL]
    by_cases q : j = n
    · rw [if_pos q, if_pos q]
    · rw [if_neg q, if_neg q]
      exact h3 n (by omega) e j (by omega)
theorem fl1_7 (g : Mem) (w : Nat) : fl1 g w 7 = upd (g 7) w (g 5 w - g 7 w) := by
  unfold fl1
  rw [up_n _ _ _ (show 7 ≠ 11 by omega), up_s]
theorem r_flips {Q : Mem → Prop} {P w : Nat} {g ρ : Mem} (h : RQ P g ρ) (hd : DQ P g) (ht : TI P g) (hw : w < 3 * P) (h7 : g 7 w ≠ 0) (hq : ∀ ρ', RQ P (due1 (fl1 g w) w) ρ' → Fr ρ ρ' → Q ρ') : vc_X8_flips Q ρ (nI w) := by
  obtain ⟨h1, h2, h3⟩ := h
  have hP := h1.1
  obtain ⟨n, hn, hm, _⟩ := hd
  have hpos := ac_pos h7 (show w < 12 by omega)
  refine r_of 0 (by omega) (by omega) (r_of 2 (by omega) (by omega) ?_)
  have a5 : ρ 1 (28 + 7 * w + 0) = g 5 w := h1.r 5 w (by simp [liv]; omega) rfl
  have a7 : ρ 1 (28 + 7 * w + 2) = g 7 w := h1.r 7 w (by simp [liv]; omega) rfl
  refine ⟨by rw [show (2 : Int32) = nI 2 from rfl, i7]; exact vp_in_nI (by omega) (by omega), nm_e ⟨by rw [show (5 : Int32) = nI 5 from rfl, i7]; exact vp_in_nI (by omega) (by omega), nm_e (nm_e ?_)⟩⟩
  rw [show ((28 : Int32) + 7 * nI w) + 2 = nI (28 + 7 * w + 2) from i7 w 2, show ((28 : Int32) + 7 * nI w) + 5 = nI (28 + 7 * w + 5) from i7 w 5, nI_clamp (by omega), nI_clamp (by omega), a5, a7]
  have r1 : RR P (up g 7 w (g 5 w - g 7 w)) (up ρ 1 (28 + 7 * w + 2) (g 5 w - g 7 w)) := h1.w 7 w _ (by simp [liv]; omega) rfl (by omega) (by omega) (by omega)
  have r2 : RR P (fl1 g w) (up (up (up ρ 1 (28 + 7 * w + 2) (g 5 w - g 7 w)) 1 (28 + 7 * w + 5) (up ρ 1 (28 + 7 * w + 2) (g 5 w - g 7 w) 1 (28 + 7 * w + 5) + 1)) 1 5 ((up (up ρ 1 (28 + 7 * w + 2) (g 5 w - g 7 w)) 1 (28 + 7 * w + 5) (up ρ 1 (28 + 7 * w + 2) (g 5 w - g 7 w) 1 (28 + 7 * w + 5) + 1)) 1 5 + 1)) := by
    refine ⟨r1.1, ?_, ?_⟩
    · rw [fl1_n _ _ (by omega) (by omega)]; exact h1.2.1
    · have := rel_fl r1.2.2 r1.1 hw
      rw [show up g 7 w (g 5 w - g 7 w) 11 w = g 11 w by rw [up_n _ _ _ (show 11 ≠ 7 by omega)]] at this
      simp only [up_s] at this ⊢
      exact this
  generalize hμ : (up (up (up ρ 1 (28 + 7 * w + 2) (g 5 w - g 7 w)) 1 (28 + 7 * w + 5) (up ρ 1 (28 + 7 * w + 2) (g 5 w - g 7 w) 1 (28 + 7 * w + 5) + 1)) 1 5 ((up (up ρ 1 (28 + 7 * w + 2) (g 5 w - g 7 w)) 1 (28 + 7 * w + 5) (up ρ 1 (28 + 7 * w + 2) (g 5 w - g 7 w) 1 (28 + 7 * w + 5) + 1)) 1 5 + 1)) = μ at r2
  have f2 : Fr ρ μ := by rw [← hμ]; exact (fr_1 _ _ _).tr ((fr_1 _ _ _).tr (fr_1 _ _ _))
  have m0 : μ 0 = ρ 0 := by rw [← hμ]; simp only [up_n _ _ _ (show 0 ≠ 1 by omega)]
  have m6 : μ 6 = ρ 6 := by rw [← hμ]; simp only [up_n _ _ _ (show 6 ≠ 1 by omega)]
  have q2 : RQ P (fl1 g w) μ := by
    refine ⟨r2, ?_, ?_⟩
    · rw [m0, fl1_n _ _ (by omega) (by omega)]; exact h2
    · rw [m6, fl1_n _ _ (by omega) (by omega), fl1_n _ _ (by omega) (by omega)]; exact h3
  have e06 : fl1 g w 0 6 = nI n := by rw [fl1_n _ _ (by omega) (by omega)]; exact hn
  rw [show (5 : Int32).toNatClampNeg = 5 from rfl]
  rw [hμ]
  refine r_of 2 (by omega) (by omega) ?_
  rw [show μ 1 (28 + 7 * w + 2) = fl1 g w 7 w from r2.r 7 w (by simp [liv]; omega) rfl]
  refine ⟨fun c => ?_, fun c => ?_⟩
  · rw [due1_ne c] at hq
    exact hq μ q2 f2
  · have e9 : μ 0 9 = nI n := q2.2.1.trans e06
    rw [e9, nI_clamp (by omega)]
    exact ⟨vp_in_nI (by omega) (by omega), nm_e (nm_e (hq _ (rq_push q2 (by omega) e06 c) (f2.tr ((fr_6 _ _ _).tr (fr_9 _ _)))))⟩
