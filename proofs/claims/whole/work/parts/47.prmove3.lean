theorem r_contract {Q : Int32 → Mem → Prop} {P C n : Nat} {g ρ : Mem} {a b : Int32} (h : RR P g ρ) (hC : C ≤ 6) (eC : g 18 0 = nI C) (hn : n ≤ 4) (e : ρ 0 4 = nI n) (hq : Rq Q P (o_contract g a b) ρ n) : vc_X8_contract Q ρ a b := by
  unfold o_contract at hq
  unfold vc_X8_contract
  rw [e_rin]
  by_cases c1 : 0 ≤ a ∧ a ≤ 999
  · rw [if_pos c1] at hq ⊢
    refine ⟨fun q => absurd q (by decide), fun _ => ?_⟩
    rw [e_rin]
    by_cases c1 : 1 ≤ b ∧ b ≤ 20
    · rw [if_pos c1] at hq ⊢
      have e2 : ρ 1 2 = nI C := (h.r 18 0 (j := 2) (by simp [liv]) rfl).trans eC
      refine ⟨fun _ => nm_e ?_, fun q => absurd q (by decide)⟩
      rw [show (2 : Int32).toNatClampNeg = 2 from rfl, e2]
      rw [eC] at hq
      by_cases c1 : C < 6
      · rw [if_pos (show nI C < 6 from nI_lt (a := C) (b := 6) c1 (by omega)), nI_clamp (by omega)] at hq
        have n6 : ¬ nI C = 6 := by
          intro q
          have := nI_clamp (n := C) (by omega)
          rw [q] at this
          have : C = 6 := this.symm.trans rfl
          omega
        refine ⟨fun _ => r_chz hn e ?_, fun q => absurd q n6⟩
        have hc := h.chz n
        rw [show (152 : Int32) + 2 * nI C = nI (152 + 2 * C) from by rw [show (152 : Int32) = nI 152 from rfl, show (2 : Int32) = nI 2 from rfl, pk_mul, nI_add], show nI (152 + 2 * C) + 1 = nI (152 + 2 * C + 1) from nI_1 _, nI_clamp (by omega), nI_clamp (by omega)]
        have R1 := hc.w 19 C (j := 152 + 2 * C) a (by simp [liv]; omega) rfl (by omega) (by omega) (by omega)
        have R2 := R1.w 20 C (j := 152 + 2 * C + 1) b (by simp [liv]; omega) rfl (by omega) (by omega) (by omega)
        have R3 := R2.w 18 0 (j := 2) (nI C + 1) (by simp [liv]) rfl (by omega) (by omega) (by omega)
        have e2' := (R2.r 18 0 (j := 2) (by simp [liv]) rfl).trans eC
        refine ⟨vp_in_nI (by omega) (by omega), nm_e ⟨vp_in_nI (by omega) (by omega), nm_e (nm_e ?_)⟩⟩
        rw [e2']
        exact hq.2 (nn (by omega)) _ R3 ((fr_1 _ _ _).tr ((fr_1 _ _ _).tr (fr_1 _ _ _)))
      · rw [if_neg (show ¬ nI C < 6 from fun q => c1 ((nI_ltI (a := C) (b := 6) (by omega) (by omega)).mp q))] at hq
        have e6 : nI C = 6 := by rw [show C = 6 by omega]; rfl
        exact ⟨fun q => absurd e6 q, fun _ => hq.err (by decide)⟩
    · rw [if_neg c1] at hq ⊢
      exact ⟨fun q => absurd rfl q, fun _ => hq.err (by decide)⟩
  · rw [if_neg c1] at hq ⊢
    exact ⟨fun _ => hq.err (by decide), fun q => absurd rfl q⟩
theorem r_pass {Q : Int32 → Mem → Prop} {P n : Nat} {g ρ : Mem} {x : Int32} (h : RR P g ρ) (hg : GO P g) (hn : n ≤ 4) (e : ρ 0 4 = nI n) (hpos : ∀ k, k ≤ 600 → ¬ (advs P k g).1 < 0) (hq : Rq Q P (o_pass P g x) ρ n) : vc_X8_pass Q ρ x := by
  unfold o_pass at hq
  refine ⟨601, ?_⟩
  rw [e_rin]
  by_cases c : 1 ≤ x ∧ x ≤ 600
  · rw [if_pos c] at hq ⊢
    refine ⟨fun _ => ?_, fun q => absurd q (by decide)⟩
    rw [show (3 : Int32).toNatClampNeg = 3 from rfl, h.r 0 0 (j := 3) (by simp [liv]) rfl]
    by_cases c2 : g 0 0 + x ≤ 9999
    · rw [if_pos c2] at hq
      obtain ⟨k, hk, ek⟩ := nat_le (x := x) (m := 600) (by omega) (by grind) c.2
      rw [ek, nI_clamp (by omega)] at hq
      rw [ek]
      refine br_t (by rw [← ek]; exact c2) (r_chz hn e (nm_e ?_))
      have hc := h.chz n
      refine r_passes (n := k) (by omega) k 0 g _ 601 (by omega) (by omega) hc hg (fun ρ' R' f' => ?_)
      rw [show chz ρ n 1 (4 : Int32).toNatClampNeg = sm (g 9) 12 from hc.2.2.2.1, wk_advs k g hg, show sm (g 9) 12 + (advs P k g).1 - sm (g 9) 12 = (advs P k g).1 by grind]
      exact hq.2 (hpos k hk) ρ' R' f'
    · rw [if_neg c2] at hq
      exact br_f c2 (hq.err (by decide))
  · rw [if_neg c] at hq ⊢
    exact ⟨fun q => absurd rfl q, fun _ => hq.err (by decide)⟩
