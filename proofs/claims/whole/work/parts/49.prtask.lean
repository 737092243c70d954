theorem r_task {Q : Int32 → Mem → Prop} {P T n : Nat} {g ρ : Mem} {a b c d : Int32} (h : RR P g ρ) (hT : T ≤ 8) (eT : g 12 0 = nI T) (h17 : T < 8 → g 17 T = 0) (hn : n ≤ 4) (e : ρ 0 4 = nI n) (hq : Rq Q P (o_task g a b c d) ρ n) : vc_X8_task Q ρ a b c d := by
  unfold o_task at hq
  unfold vc_X8_task
  rw [e_rin]
  by_cases c1 : 1 ≤ a ∧ a ≤ 3
  · rw [if_pos c1] at hq ⊢
    refine ⟨fun q => absurd q (by decide), fun _ => ?_⟩
    rw [e_rin]
    by_cases c1 : 0 ≤ b ∧ b ≤ 999
    · rw [if_pos c1] at hq ⊢
      refine ⟨fun q => absurd q (by decide), fun _ => ?_⟩
      rw [e_rin]
      by_cases c1 : 0 ≤ c ∧ c ≤ 999
      · rw [if_pos c1] at hq ⊢
        refine ⟨fun q => absurd q (by decide), fun _ => ?_⟩
        rw [e_rin]
        by_cases c1 : 0 ≤ d ∧ d ≤ 2
        · rw [if_pos c1] at hq ⊢
          have e2 : ρ 1 1 = nI T := (h.r 12 0 (j := 1) (by simp [liv]) rfl).trans eT
          refine ⟨fun _ => nm_e ?_, fun q => absurd q (by decide)⟩
          rw [show (1 : Int32).toNatClampNeg = 1 from rfl, e2]
          rw [eT] at hq
          by_cases c1 : T < 8
          · rw [if_pos (show nI T < 8 from nI_lt (a := T) (b := 8) c1 (by omega)), nI_clamp (by omega)] at hq
            have n8 : ¬ nI T = 8 := by
              intro q
              have := nI_clamp (n := T) (by omega)
              rw [q] at this
              have : T = 8 := this.symm.trans rfl
              omega
            refine ⟨fun _ => r_chz hn e ?_, fun q => absurd q n8⟩
            have hc := h.chz n
            rw [show ((112 : Int32) + 5 * nI T) + 0 = nI (112 + 5 * T + 0) from i5 T 0, show ((112 : Int32) + 5 * nI T) + 1 = nI (112 + 5 * T + 1) from i5 T 1, show ((112 : Int32) + 5 * nI T) + 2 = nI (112 + 5 * T + 2) from i5 T 2, show ((112 : Int32) + 5 * nI T) + 3 = nI (112 + 5 * T + 3) from i5 T 3, show ((112 : Int32) + 5 * nI T) + 4 = nI (112 + 5 * T + 4) from i5 T 4, nI_clamp (n := 112 + 5 * T + 0) (by omega), nI_clamp (n := 112 + 5 * T + 1) (by omega), nI_clamp (n := 112 + 5 * T + 2) (by omega), nI_clamp (n := 112 + 5 * T + 3) (by omega), nI_clamp (n := 112 + 5 * T + 4) (by omega)]
            have R1 := hc.w 13 T (j := 112 + 5 * T + 0) a (by simp [liv]; omega) rfl (by omega) (by omega) (by omega)
            have R2 := R1.w 14 T (j := 112 + 5 * T + 1) b (by simp [liv]; omega) rfl (by omega) (by omega) (by omega)
            have R3 := R2.w 15 T (j := 112 + 5 * T + 2) c (by simp [liv]; omega) rfl (by omega) (by omega) (by omega)
            have R4 := R3.w 16 T (j := 112 + 5 * T + 3) d (by simp [liv]; omega) rfl (by omega) (by omega) (by omega)
            have R5 := R4.w 17 T (j := 112 + 5 * T + 4) 0 (by simp [liv]; omega) rfl (by omega) (by omega) (by omega)
            rw [up_id (c := 17) (by rw [up_n _ _ _ (show 17 ≠ 16 by omega), up_n _ _ _ (show 17 ≠ 15 by omega), up_n _ _ _ (show 17 ≠ 14 by omega), up_n _ _ _ (show 17 ≠ 13 by omega)]; exact h17 c1)] at R5
            have R6 := R5.w 12 0 (j := 1) (nI T + 1) (by simp [liv]) rfl (by omega) (by omega) (by omega)
            have e2' := (R5.r 12 0 (j := 1) (by simp [liv]) rfl).trans eT
            refine ⟨vp_in_nI (by omega) (by omega), nm_e ⟨vp_in_nI (by omega) (by omega), nm_e ⟨vp_in_nI (by omega) (by omega), nm_e ⟨vp_in_nI (by omega) (by omega), nm_e ⟨vp_in_nI (by omega) (by omega), nm_e (nm_e ?_)⟩⟩⟩⟩⟩
            rw [e2']
            exact hq.2 (nn (by omega)) _ R6 ((fr_1 _ _ _).tr ((fr_1 _ _ _).tr ((fr_1 _ _ _).tr ((fr_1 _ _ _).tr ((fr_1 _ _ _).tr (fr_1 _ _ _))))))
          · rw [if_neg (show ¬ nI T < 8 from fun q => c1 ((nI_ltI (a := T) (b := 8) (by omega) (by omega)).mp q))] at hq
            have e8 : nI T = 8 := by rw [show T = 8 by omega]; rfl
            exact ⟨fun q => absurd e8 q, fun _ => hq.err (by decide)⟩
        · rw [if_neg c1] at hq ⊢
          exact ⟨fun q => absurd rfl q, fun _ => hq.err (by decide)⟩
      · rw [if_neg c1] at hq ⊢
        exact ⟨fun _ => hq.err (by decide), fun q => absurd rfl q⟩
    · rw [if_neg c1] at hq ⊢
      exact ⟨fun _ => hq.err (by decide), fun q => absurd rfl q⟩
  · rw [if_neg c1] at hq ⊢
    exact ⟨fun _ => hq.err (by decide), fun q => absurd rfl q⟩
