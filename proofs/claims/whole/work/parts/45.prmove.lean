/-- what the reference lays by, unless orders run -/
def chz (ρ : Mem) (n : Nat) : Mem := if ρ 0 5 = 0 then chg ρ n else ρ
theorem r_chz {Q : Mem → Prop} {ρ : Mem} {n : Nat} (hn : n ≤ 4) (e : ρ 0 4 = nI n) (hq : Q (chz ρ n)) : vc_X8_changes Q ρ := by
  unfold chz at hq
  by_cases c : ρ 0 5 = 0
  · rw [if_pos c] at hq
    exact r_changes hn e c hq
  · rw [if_neg c] at hq
    exact ⟨0, fun q => absurd q c, fun _ => hq⟩
theorem chz_1 (ρ : Mem) (n : Nat) : chz ρ n 1 = ρ 1 := by
  unfold chz
  split
  · exact chg_c _ _ (by omega) (by omega)
  · rfl
theorem RR.chz {P : Nat} {g ρ : Mem} (h : RR P g ρ) (n : Nat) : RR P g (chz ρ n) := h.fr (chz_1 _ _)
/-- the reference's answer and what is after it, beside the class's -/
def Rq (Q : Int32 → Mem → Prop) (P : Nat) (o : Rs) (ρ : Mem) (n : Nat) : Prop := (o.1 < 0 → Q o.1 ρ) ∧ (¬ o.1 < 0 → ∀ ρ', RR P o.2 ρ' → Fr (chz ρ n) ρ' → Q o.1 ρ')
theorem Rq.err {Q : Int32 → Mem → Prop} {P n : Nat} {ρ g : Mem} {e : Int32} (h : Rq Q P (e, g) ρ n) (he : e < 0) : Q e ρ := h.1 he
theorem nn {n : Nat} (h : n < 2 ^ 31) : ¬ nI n < 0 := by
  have := nI_pos' h
  grind
theorem r_size {Q : Int32 → Mem → Prop} {P n : Nat} {g ρ : Mem} {x y z : Int32} (h : RR P g ρ) (gs : GS g) (hn : n ≤ 4) (e : ρ 0 4 = nI n) (hq : Rq Q P (o_size g x y z) ρ n) : vc_X8_size Q ρ x y z := by
  have hP := h.1
  unfold o_size at hq
  refine r_isW h ?_
  by_cases c : isW g x y
  · rw [if_pos c] at hq ⊢
    obtain ⟨p, k, hp', hk, ex, ey, e3, eg⟩ := gl_spec hP h.2.1 c
    refine ⟨fun q => absurd q (by decide), fun _ => ?_⟩
    rw [e_rin]
    by_cases c2 : 5 ≤ z ∧ z ≤ 300
    · rw [if_pos c2] at hq ⊢
      refine ⟨fun _ => nm_e ?_, fun q => absurd q (by decide)⟩
      rw [e3]
      rw [eg] at hq
      obtain ⟨zz, a, g5, g7, haz, hz⟩ := gs (3 * p + k) (by omega)
      refine r_of 2 (by omega) (by omega) ?_
      rw [h.r 7 (3 * p + k) (j := 28 + 7 * (3 * p + k) + 2) (by simp [liv]; omega) rfl, g7]
      rw [g5, g7] at hq
      by_cases c3 : a = 0
      · subst c3
        rw [if_pos (show nI 0 = 0 from rfl)] at hq
        refine ⟨fun _ => r_chz hn e (r_of 0 (by omega) (by omega) ?_), fun q => absurd (Int32.le_refl _) q⟩
        have hc := h.chz n
        rw [hc.r 5 (3 * p + k) (j := 28 + 7 * (3 * p + k) + 0) (by simp [liv]; omega) rfl, g5, show ((28 : Int32) + 7 * nI (3 * p + k)) + 0 = nI (28 + 7 * (3 * p + k) + 0) from i7 _ 0, nI_clamp (by omega)]
        exact ⟨vp_in_nI (by omega) (by omega), nm_e (hq.2 (nn (by omega)) _ (hc.w 5 (3 * p + k) z (by simp [liv]; omega) rfl (by omega) (by omega) (by omega)) (fr_1 _ _ _))⟩
      · have n0 : ¬ nI a = 0 := by
          intro q
          have := nI_clamp (n := a) (by omega)
          rw [q] at this
          exact c3 this.symm
        rw [if_neg n0] at hq
        exact br_f (fun q => absurd ((nI_leI (a := a) (b := 0) (by omega) (by omega)).mp q) (by omega)) (hq.err (by decide))
    · rw [if_neg c2] at hq ⊢
      exact ⟨fun q => absurd rfl q, fun _ => hq.err (by decide)⟩
  · rw [if_neg c] at hq ⊢
    exact ⟨fun _ => hq.err (by decide), fun q => absurd rfl q⟩
