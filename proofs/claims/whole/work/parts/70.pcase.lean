/-! a case for each method -/
theorem d_size {g : Mem} {x y z : Int32} (h0 : g 0 6 = 0) : (o_size g x y z).2 0 6 = 0 := by
  unfold o_size
  split
  · split
    · split <;> exact h0
    · exact h0
  · exact h0
theorem d_task {g : Mem} {a b c d : Int32} (h0 : g 0 6 = 0) : (o_task g a b c d).2 0 6 = 0 := by
  unfold o_task
  split
  · split
    · split
      · split
        · split <;> exact h0
        · exact h0
      · exact h0
    · exact h0
  · exact h0
theorem d_contract {g : Mem} {a b : Int32} (h0 : g 0 6 = 0) : (o_contract g a b).2 0 6 = 0 := by
  unfold o_contract
  split
  · split
    · split <;> exact h0
    · exact h0
  · exact h0
theorem d_put {g : Mem} {a b c : Int32} (h0 : g 0 6 = 0) : (o_put g a b c).2 0 6 = 0 := by
  unfold o_put
  split
  · split
    · split <;> exact h0
    · exact h0
  · exact h0
theorem d_home {g : Mem} {a b : Int32} (h0 : g 0 6 = 0) : (o_home g a b).2 0 6 = 0 := by
  unfold o_home
  split
  · split
    · split <;> exact h0
    · exact h0
  · exact h0
theorem d_flip {g : Mem} {a b : Int32} (h0 : g 0 6 = 0) : (o_flip g a b).2 0 6 = 0 := by
  unfold o_flip
  split
  · split
    · exact h0
    · exact d0_finD _ _ _
  · exact h0
theorem d_buy {g : Mem} {C : Nat} {a b : Int32} (h0 : g 0 6 = 0) : (o_buy C g a b).2 0 6 = 0 := by
  unfold o_buy
  split
  · split
    · split
      · exact (rmv0 g _ _ _ _ _ _).trans h0
      · exact h0
    · exact h0
  · exact h0
theorem d_pass {P : Nat} {g : Mem} {a : Int32} (h : GO P g) : (o_pass P g a).2 0 6 = 0 := by
  unfold o_pass
  split
  · split
    · exact (GO.advs _ g h).1.d0
    · exact h.1.d0
  · exact h.1.d0
section CS
variable {K : KQ} {B : Nat} {ξ γ τ η ο ρ : Mem} {σ : Nat → Mem}
theorem ca_player (h : INV B γ τ η σ ο ρ) (hk : ∀ γ' τ' η' σ' ο' ρ', INV (B + 432000) γ' τ' η' σ' ο' ρ' → K γ' τ' η' σ' ο' ρ') :
    vc_X7_player (fun r γ' τ' η' σ' => vc_X8_player (fun r' ρ' => (r = r' → K γ' τ' η' σ' ο ρ') ∧ (¬ r = r' → False)) ρ) ξ γ τ η σ ο := by
  obtain ⟨⟨P, hg, hr⟩, h0, h5, ⟨n, hi⟩, hx⟩ := h
  refine s_copyFrom (fun τ2 cp e0 => s_player ?_)
  have ok := hg.cp cp (e0.trans h0)
  have hr2 := hr.cp cp
  have hP := hr.1
  have e4 := hi.2.2.1
  by_cases c : P = 4
  · have e : o_player τ2 = (-1000003, τ2) := by
      unfold o_player
      rw [hr2.2.1, if_neg (by rw [c]; decide)]
    rw [e]
    exact keep_mv (P' := P) hi hg hr hx h5 ok.go.1.d0 (fun Q => vc_X8_player Q ρ) (fun _ Q hQ => r_player hr2 ok.abs hi.1 e4 ⟨fun _ => hQ, fun q => by omega⟩) (fun q => absurd (show (-1000003 : Int32) < 0 by decide) q) hk
  · have e : o_player τ2 = (nI P, up τ2 1 0 (τ2 1 0 + 1)) := by
      unfold o_player
      rw [if_pos (by rw [hr2.2.1]; exact nI_lt (a := P) (b := 4) (by omega) (by omega)), hr2.2.1]
    rw [e]
    have k := k_player ok (by omega)
    exact keep_mv (P' := P + 1) hi hg hr hx h5 k.go.1.d0 (fun Q => vc_X8_player Q ρ) (fun q => absurd q (nn (by omega))) (fun _ => ⟨k, fun Q hQ => r_player hr2 ok.abs hi.1 e4 ⟨fun q => absurd q c, fun _ => hQ⟩⟩) hk
theorem ca_size {x y z : Int32} (h : INV B γ τ η σ ο ρ) (hk : ∀ γ' τ' η' σ' ο' ρ', INV (B + 432000) γ' τ' η' σ' ο' ρ' → K γ' τ' η' σ' ο' ρ') :
    vc_X7_size (fun r γ' τ' η' σ' => vc_X8_size (fun r' ρ' => (r = r' → K γ' τ' η' σ' ο ρ') ∧ (¬ r = r' → False)) ρ x y z) ξ γ τ η σ ο x y z := by
  obtain ⟨⟨P, hg, hr⟩, h0, h5, ⟨n, hi⟩, hx⟩ := h
  refine s_copyFrom (fun τ2 cp e0 => ?_)
  have ok := hg.cp cp (e0.trans h0)
  have hr2 := hr.cp cp
  have go := ok.go
  exact s_size hr.1 go.1.pl go.1.pt (keep_mv (P' := P) hi hg hr hx h5 (d_size go.1.d0) (fun Q => vc_X8_size Q ρ x y z) (fun c Q hQ => r_size hr2 go.1.gs hi.1 hi.2.2.1 ⟨fun _ => hQ, fun q => absurd c q⟩) (fun c => ⟨k_size ok c, fun Q hQ => r_size hr2 go.1.gs hi.1 hi.2.2.1 ⟨fun q => absurd q c, fun _ => hQ⟩⟩) hk)
theorem ca_task {a b c d : Int32} (h : INV B γ τ η σ ο ρ) (hk : ∀ γ' τ' η' σ' ο' ρ', INV (B + 432000) γ' τ' η' σ' ο' ρ' → K γ' τ' η' σ' ο' ρ') :
    vc_X7_task (fun r γ' τ' η' σ' => vc_X8_task (fun r' ρ' => (r = r' → K γ' τ' η' σ' ο ρ') ∧ (¬ r = r' → False)) ρ a b c d) ξ γ τ η σ ο a b c d := by
  obtain ⟨⟨P, hg, hr⟩, h0, h5, ⟨n, hi⟩, hx⟩ := h
  refine s_copyFrom (fun τ2 cp e0 => ?_)
  have ok := hg.cp cp (e0.trans h0)
  have hr2 := hr.cp cp
  have go := ok.go
  obtain ⟨T, C, hT, eT, hC, eC, h17⟩ := ok.tc
  exact s_task hT eT (keep_mv (P' := P) hi hg hr hx h5 (d_task go.1.d0) (fun Q => vc_X8_task Q ρ a b c d) (fun c Q hQ => r_task hr2 hT eT h17 hi.1 hi.2.2.1 ⟨fun _ => hQ, fun q => absurd c q⟩) (fun c => ⟨k_task ok c, fun Q hQ => r_task hr2 hT eT h17 hi.1 hi.2.2.1 ⟨fun q => absurd q c, fun _ => hQ⟩⟩) hk)
theorem ca_contract {a b : Int32} (h : INV B γ τ η σ ο ρ) (hk : ∀ γ' τ' η' σ' ο' ρ', INV (B + 432000) γ' τ' η' σ' ο' ρ' → K γ' τ' η' σ' ο' ρ') :
    vc_X7_contract (fun r γ' τ' η' σ' => vc_X8_contract (fun r' ρ' => (r = r' → K γ' τ' η' σ' ο ρ') ∧ (¬ r = r' → False)) ρ a b) ξ γ τ η σ ο a b := by
  obtain ⟨⟨P, hg, hr⟩, h0, h5, ⟨n, hi⟩, hx⟩ := h
  refine s_copyFrom (fun τ2 cp e0 => ?_)
  have ok := hg.cp cp (e0.trans h0)
  have hr2 := hr.cp cp
  have go := ok.go
  obtain ⟨T, C, hT, eT, hC, eC, h17⟩ := ok.tc
  exact s_contract hC eC (keep_mv (P' := P) hi hg hr hx h5 (d_contract go.1.d0) (fun Q => vc_X8_contract Q ρ a b) (fun c Q hQ => r_contract hr2 hC eC hi.1 hi.2.2.1 ⟨fun _ => hQ, fun q => absurd c q⟩) (fun c => ⟨k_contract ok c, fun Q hQ => r_contract hr2 hC eC hi.1 hi.2.2.1 ⟨fun q => absurd q c, fun _ => hQ⟩⟩) hk)
theorem ca_put {x y z : Int32} (h : INV B γ τ η σ ο ρ) (hk : ∀ γ' τ' η' σ' ο' ρ', INV (B + 432000) γ' τ' η' σ' ο' ρ' → K γ' τ' η' σ' ο' ρ') :
    vc_X7_put (fun r γ' τ' η' σ' => vc_X8_put (fun r' ρ' => (r = r' → K γ' τ' η' σ' ο ρ') ∧ (¬ r = r' → False)) ρ x y z) ξ γ τ η σ ο x y z := by
  obtain ⟨⟨P, hg, hr⟩, h0, h5, ⟨n, hi⟩, hx⟩ := h
  refine s_copyFrom (fun τ2 cp e0 => ?_)
  have ok := hg.cp cp (e0.trans h0)
  have hr2 := hr.cp cp
  have go := ok.go
  obtain ⟨T, C, hT, eT, hC, eC, h17⟩ := ok.tc
  exact s_put hr.1 go.1.pl hT eT go.1.pt (keep_mv (P' := P) hi hg hr hx h5 (d_put go.1.d0) (fun Q => vc_X8_put Q ρ x y z) (fun c Q hQ => r_put hr2 go.2.2 hT eT hi.1 hi.2.2.1 ok.lf ⟨fun _ => hQ, fun q => absurd c q⟩) (fun c => ⟨k_put ok c, fun Q hQ => r_put hr2 go.2.2 hT eT hi.1 hi.2.2.1 ok.lf ⟨fun q => absurd q c, fun _ => hQ⟩⟩) hk)
theorem ca_home {x y : Int32} (h : INV B γ τ η σ ο ρ) (hk : ∀ γ' τ' η' σ' ο' ρ', INV (B + 432000) γ' τ' η' σ' ο' ρ' → K γ' τ' η' σ' ο' ρ') :
    vc_X7_home (fun r γ' τ' η' σ' => vc_X8_home (fun r' ρ' => (r = r' → K γ' τ' η' σ' ο ρ') ∧ (¬ r = r' → False)) ρ x y) ξ γ τ η σ ο x y := by
  obtain ⟨⟨P, hg, hr⟩, h0, h5, ⟨n, hi⟩, hx⟩ := h
  refine s_copyFrom (fun τ2 cp e0 => ?_)
  have ok := hg.cp cp (e0.trans h0)
  have hr2 := hr.cp cp
  have go := ok.go
  exact s_home hr.1 go.1.pl go.1.pt (keep_mv (P' := P) hi hg hr hx h5 (d_home go.1.d0) (fun Q => vc_X8_home Q ρ x y) (fun c Q hQ => r_home hr2 go.1.gs ok.ho hi.1 hi.2.2.1 ⟨fun _ => hQ, fun q => absurd c q⟩) (fun c => ⟨k_home ok c, fun Q hQ => r_home hr2 go.1.gs ok.ho hi.1 hi.2.2.1 ⟨fun q => absurd q c, fun _ => hQ⟩⟩) hk)
theorem ca_flip {x y : Int32} (h : INV B γ τ η σ ο ρ) (hk : ∀ γ' τ' η' σ' ο' ρ', INV (B + 432000) γ' τ' η' σ' ο' ρ' → K γ' τ' η' σ' ο' ρ') :
    vc_X7_flip (fun r γ' τ' η' σ' => vc_X8_flip (fun r' ρ' => (r = r' → K γ' τ' η' σ' ο ρ') ∧ (¬ r = r' → False)) ρ x y) ξ γ τ η σ ο x y := by
  obtain ⟨⟨P, hg, hr⟩, h0, h5, ⟨n, hi⟩, hx⟩ := h
  refine s_copyFrom (fun τ2 cp e0 => ?_)
  have ok := hg.cp cp (e0.trans h0)
  have hr2 := hr.cp cp
  have go := ok.go
  exact s_flip go.1 (keep_mv (P' := P) hi hg hr hx h5 (d_flip go.1.d0) (fun Q => vc_X8_flip Q ρ x y) (fun c Q hQ => r_flip hr2 go hi.1 hi.2.2.1 ok.fl ⟨fun _ => hQ, fun q => absurd c q⟩) (fun c => ⟨k_flip ok c, fun Q hQ => r_flip hr2 go hi.1 hi.2.2.1 ok.fl ⟨fun q => absurd q c, fun _ => hQ⟩⟩) hk)
theorem ca_buy {x y : Int32} (hB : B ≤ 900000000) (h : INV B γ τ η σ ο ρ) (hk : ∀ γ' τ' η' σ' ο' ρ', INV (B + 432000) γ' τ' η' σ' ο' ρ' → K γ' τ' η' σ' ο' ρ') :
    vc_X7_buy (fun r γ' τ' η' σ' => vc_X8_buy (fun r' ρ' => (r = r' → K γ' τ' η' σ' ο ρ') ∧ (¬ r = r' → False)) ρ x y) ξ γ τ η σ ο x y := by
  obtain ⟨⟨P, hg, hr⟩, h0, h5, ⟨n, hi⟩, hx⟩ := h
  refine s_copyFrom (fun τ2 cp e0 => ?_)
  have ok := hg.cp cp (e0.trans h0)
  have hr2 := hr.cp cp
  have go := ok.go
  obtain ⟨T, C, hT, eT, hC, eC, h17⟩ := ok.tc
  have hb := ok.by (C := C) (by omega) hC
  exact s_buy hr.1 go.1.pl hC eC go.1.pt (keep_mv (P' := P) hi hg hr hx h5 (d_buy go.1.d0) (fun Q => vc_X8_buy Q ρ x y) (fun c Q hQ => r_buy hr2 hC eC hi.1 hi.2.2.1 hb ⟨fun _ => hQ, fun q => absurd c q⟩) (fun c => ⟨k_buy ok eC hC c, fun Q hQ => r_buy hr2 hC eC hi.1 hi.2.2.1 hb ⟨fun q => absurd q c, fun _ => hQ⟩⟩) hk)
theorem ca_pass {x : Int32} (h : INV B γ τ η σ ο ρ) (hk : ∀ γ' τ' η' σ' ο' ρ', INV (B + 432000) γ' τ' η' σ' ο' ρ' → K γ' τ' η' σ' ο' ρ') :
    vc_X7_pass (fun r γ' τ' η' σ' => vc_X8_pass (fun r' ρ' => (r = r' → K γ' τ' η' σ' ο ρ') ∧ (¬ r = r' → False)) ρ x) ξ γ τ η σ ο x := by
  obtain ⟨⟨P, hg, hr⟩, h0, h5, ⟨n, hi⟩, hx⟩ := h
  refine s_copyFrom (fun τ2 cp e0 => ?_)
  have ok := hg.cp cp (e0.trans h0)
  have hr2 := hr.cp cp
  have go := ok.go
  exact s_pass go.1 (keep_mv (P' := P) hi hg hr hx h5 (d_pass go) (fun Q => vc_X8_pass Q ρ x) (fun c Q hQ => r_pass hr2 go hi.1 hi.2.2.1 ok.ad ⟨fun _ => hQ, fun q => absurd c q⟩) (fun c => ⟨k_pass ok c, fun Q hQ => r_pass hr2 go hi.1 hi.2.2.1 ok.ad ⟨fun q => absurd q c, fun _ => hQ⟩⟩) hk)
theorem ca_undo (h : INV B γ τ η σ ο ρ) (hk : ∀ γ' τ' η' σ' ο' ρ', INV (B + 432000) γ' τ' η' σ' ο' ρ' → K γ' τ' η' σ' ο' ρ') :
    vc_X7_undo (fun r γ' η' => vc_X8_undo (fun r' ρ' => (r = r' → K γ' τ η' σ ο ρ') ∧ (¬ r = r' → False)) ρ) ξ γ τ η σ ο := by
  have h' := h
  obtain ⟨⟨P, hg, hr⟩, h0, h5, ⟨n, hi⟩, hx⟩ := h
  have hi' := hi
  obtain ⟨i1, i2, i3, i4, i5⟩ := hi
  show vc_X3_restore _ η σ γ
  unfold vc_X3_restore
  rcases Nat.eq_zero_or_pos n with rfl | hn
  · refine br_f (by rw [i2]; decide) ⟨0, fun q => absurd (by rw [i3]; rfl) q, fun _ => sme rfl (hk _ _ _ _ _ _ (h'.kp KP.rfl' h0))⟩
  · obtain ⟨m, rfl⟩ : ∃ m, n = m + 1 := ⟨n - 1, by omega⟩
    refine br_t (by rw [i2]; exact nI_lt (a := 0) (b := m + 1) (by omega) (by omega)) (nm_e ?_)
    have e : up η 0 0 (η 0 0 - 1) 0 0 = nI m := by
      rw [up_at, if_pos ⟨rfl, rfl⟩, i2, show (1 : Int32) = nI 1 from rfl, nI_sub (by omega)]
      rfl
    rw [e, nI_clamp (by omega)]
    obtain ⟨P', ok, rl⟩ := i5 m (by omega)
    refine ⟨vp_in_nI (by omega) (by omega), s_copyFrom (fun γ' cp e0 => r_undo (by omega) i3 (sme rfl (hk _ _ _ _ _ _ ?_)))⟩
    have ok' := ok.cp cp (e0.trans hg.go.1.d0)
    have c1 : ∀ c, c ≠ 0 → c ≠ 1 → cpr (up ρ 0 4 (nI m)) 2 (164 * m) 1 0 164 c = ρ c := fun c c0 c1 => by rw [cpr_n _ _ _ _ _ _ c1, up_n _ _ _ c0]
    have c0 : ∀ f, f ≠ 4 → cpr (up ρ 0 4 (nI m)) 2 (164 * m) 1 0 164 0 f = ρ 0 f := fun f hf => by rw [cpr_n _ _ _ _ _ _ (by omega), up_nn _ (fun q => hf q.2)]
    have R0 : RR P' (σ m) (fun _ j => ρ 2 (164 * m + j)) := ⟨ok.go.1.hP, ok.go.1.pl, rl⟩
    have R1 := R0.cp cp
    refine ⟨⟨P', ok'.mono (by omega), R1.1, R1.2.1, rel_cg R1.2.2 (fun j hj => ?_)⟩, h0, (c0 5 (by omega)).trans h5, ⟨m, by omega, by rw [e], ?_, i4, fun i hi => ?_⟩, ?_⟩
    · unfold cpr
      rw [if_pos ⟨rfl, Nat.zero_le _, by omega⟩, up_n _ _ _ (by omega)]
      exact congrArg (ρ 2) (show j - 0 + 164 * m = 164 * m + j by omega)
    · rw [cpr_n _ _ _ _ _ _ (by omega), up_at, if_pos ⟨rfl, rfl⟩]
    · rw [c1 2 (by omega) (by omega)]
      obtain ⟨P2, a, b⟩ := i5 i (by omega)
      exact ⟨P2, a.mono (by omega), b⟩
    · obtain ⟨l, l1, l2, l3, l4⟩ := hx
      exact ⟨l, l1, l2, ⟨(c0 7 (by omega)).trans l3.1, fun i hi => by rw [c1 5 (by omega) (by omega)]; exact l3.2 i hi⟩, l4⟩
theorem ca_type {x : Int32} (h : INV B γ τ η σ ο ρ) (hk : ∀ γ' τ' η' σ' ο' ρ', INV (B + 432000) γ' τ' η' σ' ο' ρ' → K γ' τ' η' σ' ο' ρ') :
    vc_X7_type (fun r ο' => vc_X8_type (fun r' ρ' => (r = r' → K γ τ η σ ο' ρ') ∧ (¬ r = r' → False)) ρ x) ξ γ τ η σ ο x := by
  have h' := h
  obtain ⟨⟨P, hg, hr⟩, h0, h5, ⟨n, hi⟩, hx⟩ := h
  obtain ⟨l, l1, l2, l3, l4⟩ := hx
  unfold vc_X7_type vc_X8_type
  rw [e_win]
  by_cases c : 32 ≤ x ∧ x ≤ 126
  · rw [if_pos c]
    refine ⟨fun _ => ?_, fun q => absurd q (by decide)⟩
    unfold vc_X4_append
    rw [l2]
    by_cases c2 : l < 60
    · refine br_t (nI_lt (a := l) (b := 60) c2 (by omega)) ⟨vp_in_nI (by omega) (by omega), nm_e (nm_e ?_)⟩
      refine (e_rin _ x 32 126).mpr ?_
      rw [if_pos c]
      refine ⟨fun _ => ⟨fun _ => ?_, fun q => ?_⟩, fun q => absurd q (by decide)⟩
      · rw [l3.1, nI_clamp (by omega)]
        have o0 : up (up ο 1 l x) 0 0 (up ο 1 l x 0 0 + 1) 0 0 = nI (l + 1) := by rw [up_at, if_pos ⟨rfl, rfl⟩, up_n _ _ _ (by omega), l2, nI_1]
        have q7 : up (up ρ 5 l x) 0 7 (up ρ 5 l x 0 7 + 1) 0 7 = nI (l + 1) := by rw [up_at, if_pos ⟨rfl, rfl⟩, up_n _ _ _ (by omega), l3.1, nI_1]
        refine ⟨vp_in_nI (by omega) (by omega), nm_e (nm_e (sme (o0.trans q7.symm) (hk _ _ _ _ _ _ ?_)))⟩
        · skip
          have o1 : up (up ο 1 l x) 0 0 (up ο 1 l x 0 0 + 1) 1 = upd (ο 1) l x := by rw [up_n _ _ _ (by omega), up_s]
          have q5 : up (up ρ 5 l x) 0 7 (up ρ 5 l x 0 7 + 1) 5 = upd (ρ 5) l x := by rw [up_n _ _ _ (by omega), up_s]
          have q0 : ∀ f, f ≠ 7 → up (up ρ 5 l x) 0 7 (up ρ 5 l x 0 7 + 1) 0 f = ρ 0 f := fun f hf => by rw [up_nn _ (fun q => hf q.2), up_n _ _ _ (by omega)]
          have qc : ∀ c, c ≠ 0 → c ≠ 5 → up (up ρ 5 l x) 0 7 (up ρ 5 l x 0 7 + 1) c = ρ c := fun c c0 c5 => by rw [up_n _ _ _ c0, up_n _ _ _ c5]
          refine ⟨⟨P, hg.mono (by omega), hr.fr (qc 1 (by omega) (by omega))⟩, h0, (q0 5 (by omega)).trans h5, ⟨n, ?_⟩, l + 1, by omega, o0, ⟨q7, fun i hi => ?_⟩, fun i hi => ?_⟩
          · obtain ⟨i1, i2, i3, i4, i5⟩ := hi.mono (show B ≤ B + 432000 by omega)
            exact ⟨i1, i2, (q0 4 (by omega)).trans i3, i4, by rw [qc 2 (by omega) (by omega)]; exact i5⟩
          · rw [q5, o1]
            by_cases e : i = l
            · rw [e, pk_us, pk_us]
            · rw [pk_un e, pk_un e]; exact l3.2 i (by omega)
          · rw [o1]
            by_cases e : i = l
            · rw [e, pk_us]; exact c
            · rw [pk_un e]; exact l4 i (by omega)
      · rw [l3.1] at q
        have := nI_clamp (n := l) (by omega)
        rw [q] at this
        have : l = 60 := this.symm.trans rfl
        omega
    · refine br_f (fun q => c2 ((nI_ltI (a := l) (b := 60) (by omega) (by omega)).mp q)) ?_
      refine (e_rin _ x 32 126).mpr ?_
      rw [if_pos c]
      have e60 : ρ 0 7 = 60 := by rw [l3.1, show l = 60 by omega]; rfl
      exact ⟨fun _ => ⟨fun q => absurd e60 q, fun _ => sme rfl (hk _ _ _ _ _ _ (h'.kp KP.rfl' h0))⟩, fun q => absurd q (by decide)⟩
  · rw [if_neg c]
    refine ⟨fun q => absurd rfl q, fun _ => ?_⟩
    refine (e_rin _ x 32 126).mpr ?_
    rw [if_neg c]
    exact ⟨fun q => absurd rfl q, fun _ => sme rfl (hk _ _ _ _ _ _ (h'.kp KP.rfl' h0))⟩
theorem ca_clear (h : INV B γ τ η σ ο ρ) (hk : ∀ γ' τ' η' σ' ο' ρ', INV (B + 432000) γ' τ' η' σ' ο' ρ' → K γ' τ' η' σ' ο' ρ') :
    vc_X7_clearText (fun r ο' => vc_X8_clearText (fun r' ρ' => (r = r' → K γ τ η σ ο' ρ') ∧ (¬ r = r' → False)) ρ) ξ γ τ η σ ο := by
  obtain ⟨⟨P, hg, hr⟩, h0, h5, ⟨n, hi⟩, hx⟩ := h
  obtain ⟨l, l1, l2, l3, l4⟩ := hx
  refine nm_e (nm_e (nm_e (nm_e (sme (by rw [l2, l3.1]) (hk _ _ _ _ _ _ ?_)))))
  refine ⟨⟨P, hg.mono (by omega), hr.fr (up_n _ _ _ (by omega))⟩, h0, by rw [up_nn _ (by omega)]; exact h5, ⟨n, ?_⟩, 0, by omega, by rw [up_at, if_pos ⟨rfl, rfl⟩]; rfl, ⟨by rw [up_at, if_pos ⟨rfl, rfl⟩]; rfl, fun i hi => by omega⟩, fun i hi => by omega⟩
  obtain ⟨i1, i2, i3, i4, i5⟩ := hi.mono (show B ≤ B + 432000 by omega)
  exact ⟨i1, i2, by rw [up_nn _ (by omega)]; exact i3, i4, by rw [up_n _ _ _ (by omega)]; exact i5⟩
end CS
theorem RR.held {P : Nat} {g ρ : Mem} (h : RR P g ρ) : RR P g (cpr ρ 1 0 3 0 164) := h.fr (cpr_n _ _ _ _ _ _ (by omega))
theorem kp_held {ρ ρ' : Mem} (h : Fp (cpr ρ 1 0 3 0 164) ρ') (h5 : ρ' 0 5 = 0) (h5' : ρ 0 5 = 0) : KP ρ (cpr ρ' 3 0 1 0 164) := by
  obtain ⟨f2, f3, f5, f04, f07⟩ := h
  refine ⟨fun f hf => ?_, ?_, ?_, ?_, ?_, ?_⟩
  · rw [cpr_in _ _ _ hf, f3, cpr_in _ _ _ hf]
  · rw [cpr_n _ _ _ _ _ _ (by omega), f2, cpr_n _ _ _ _ _ _ (by omega)]
  · rw [cpr_n _ _ _ _ _ _ (by omega), f5, cpr_n _ _ _ _ _ _ (by omega)]
  · rw [cpr_n _ _ _ _ _ _ (by omega), f04, cpr_n _ _ _ _ _ _ (by omega)]
  · rw [cpr_n _ _ _ _ _ _ (by omega), h5, h5']
  · rw [cpr_n _ _ _ _ _ _ (by omega), f07, cpr_n _ _ _ _ _ _ (by omega)]
theorem run_01 (c : Nat → Int32) (l P : Nat) : ∀ k s d g, (run c l P k s d g).1 = 1 ∨ (run c l P k s d g).1 = 0
  | 0, s, d, g => Or.inl rfl
  | k + 1, s, d, g => by
    unfold run
    by_cases c1 : l ≤ s
    · rw [if_pos c1]; exact Or.inl rfl
    · rw [if_neg c1]
      by_cases c2 : (prs c l s).1 = true
      · rw [if_pos c2]
        by_cases c3 : (ox P (c s) (pn c l (nof (c s)) (s + 1)) g).1 < 0
        · rw [if_pos c3]; exact Or.inr rfl
        · rw [if_neg c3]; exact run_01 c l P k _ _ _
      · rw [if_neg c2]; exact Or.inr rfl
theorem run_d (c : Nat → Int32) (l P : Nat) : ∀ k s d g, (run c l P k s d g).2.2.2.2.1 ≤ d + k
  | 0, s, d, g => Nat.le_refl _
  | k + 1, s, d, g => by
    unfold run
    by_cases c1 : l ≤ s
    · rw [if_pos c1]; show d ≤ _; omega
    · rw [if_neg c1]
      by_cases c2 : (prs c l s).1 = true
      · rw [if_pos c2]
        by_cases c3 : (ox P (c s) (pn c l (nof (c s)) (s + 1)) g).1 < 0
        · rw [if_pos c3]; show d ≤ _; omega
        · rw [if_neg c3]
          have := run_d c l P k (prs c l s).2 (d + 1) (ox P (c s) (pn c l (nof (c s)) (s + 1)) g).2
          omega
      · rw [if_neg c2]; show d ≤ _; omega
section CF
variable {K : KQ} {B : Nat} {ξ γ τ η ο ρ : Mem} {σ : Nat → Mem}
theorem ca_fault {x : Int32} (hB : B ≤ 900000000) (h : INV B γ τ η σ ο ρ) (hk : ∀ γ' τ' η' σ' ο' ρ', INV (B + 432000) γ' τ' η' σ' ο' ρ' → K γ' τ' η' σ' ο' ρ') :
    vc_X7_fault (fun r τ' ο' => vc_X8_fault (fun r' ρ' => (r = r' → K γ τ' η σ ο' ρ') ∧ (¬ r = r' → False)) ρ x) ξ γ τ η σ ο x := by
  have h' := h
  obtain ⟨⟨P, hg, hr⟩, h0, h5, ⟨n, hi⟩, hx⟩ := h
  obtain ⟨l, l1, l2, l3, l4⟩ := hx
  unfold vc_X7_fault vc_X8_fault
  rw [e_win]
  by_cases c : 0 ≤ x ∧ x ≤ 2
  · rw [if_pos c]
    refine ⟨fun _ => s_copyFrom (fun τ2 cp e0 => ?_), fun q => absurd q (by decide)⟩
    have ok := hg.cp cp (e0.trans h0)
    have hr2 := hr.cp cp
    refine s_obeyAll (c := ο 1) l1 ok rfl l2 (fun ο' g' o1 o0 s1 s0 => ?_)
    have INV' : ∀ ρ', KP ρ ρ' → g' 0 6 = 0 → INV (B + 432000) γ g' η σ ο' ρ' := fun ρ' kp g0 => by
      obtain ⟨a, b, c, d, l', q1, q2, q3, q4⟩ := h'.kp kp g0
      refine ⟨a, b, c, d, l', q1, ?_, ?_, ?_⟩
      · rw [o0, ← l2]; exact q2
      · rw [o1]; exact q3
      · rw [o1]; exact q4
    -- the reference, for an answer v
    have rf : ∀ v : Int32, g' 0 6 = 0 → ((run (ο 1) l P 60 0 0 τ2).1 = 1 → v = -1000004) → ((run (ο 1) l P 60 0 0 τ2).1 = 0 → (x = 0 → v = nI (run (ο 1) l P 60 0 0 τ2).2.1) ∧ (¬ x = 0 → (x = 1 → v = (run (ο 1) l P 60 0 0 τ2).2.2.1) ∧ (¬ x = 1 → v = (run (ο 1) l P 60 0 0 τ2).2.2.2.1))) → vc_X8_in (fun r1 => ((¬ r1 = 0) → (vc_X8_copies (fun ρ4 => vc_X8_plays (fun r5 ρ6 => vc_X8_copies (fun ρ8 => ((r5 = 0) → (((¬ x = 0) → (((¬ x = 1) → ((v = ρ8 0 13 → K γ g' η σ ο' ρ8) ∧ (¬ v = ρ8 0 13 → False))) ∧ ((x = 1) → ((v = ρ8 0 12 → K γ g' η σ ο' ρ8) ∧ (¬ v = ρ8 0 12 → False))))) ∧ ((x = 0) → ((v = ρ8 0 11 → K γ g' η σ ο' ρ8) ∧ (¬ v = ρ8 0 11 → False))))) ∧ ((¬ r5 = 0) → ((v = -1000004 → K γ g' η σ ο' ρ8) ∧ (¬ v = -1000004 → False)))) ρ6 3 1) ρ4) ρ 1 3)) ∧ ((r1 = 0) → ((v = -1000001 → K γ g' η σ ο' ρ) ∧ (¬ v = -1000001 → False)))) x 0 2 := by
      intro v g0 v1 v0
      rw [e_rin, if_pos c]
      refine ⟨fun _ => r_copies (by omega) ?_, fun q => absurd q (by decide)⟩
      have tx : TX (ο 1) l (cpr ρ 1 0 3 0 164) := ⟨by rw [cpr_n _ _ _ _ _ _ (by omega)]; exact l3.1, fun i hi => by rw [cpr_n _ _ _ _ _ _ (by omega)]; exact l3.2 i hi⟩
      refine r_plays (c := ο 1) (B := B) l1 hi.1 (by omega) l4 ok hr2.held tx (by rw [cpr_n _ _ _ _ _ _ (by omega)]; exact hi.2.2.1) (fun ρ6 fp p5 p1 p0 => r_copies (by omega) ?_)
      have kp := kp_held fp p5 h5
      have e0 : ∀ f, cpr ρ6 3 0 1 0 164 0 f = ρ6 0 f := fun f => by rw [cpr_n _ _ _ _ _ _ (by omega)]
      rw [e0, e0, e0]
      have kk := hk _ _ _ _ _ _ (INV' _ kp g0)
      rcases run_01 (ο 1) l P 60 0 0 τ2 with q | q
      · rw [q]
        exact ⟨fun q => absurd q (by decide), fun _ => sme (v1 q) kk⟩
      · rw [q]
        obtain ⟨p11, p12, p13⟩ := p0 q
        obtain ⟨w0, w1⟩ := v0 q
        refine ⟨fun _ => ⟨fun x0 => ⟨fun x1 => sme (((w1 x0).2 x1).trans p13.symm) kk, fun x1 => sme (((w1 x0).1 x1).trans p12.symm) kk⟩, fun x0 => sme ((w0 x0).trans p11.symm) kk⟩, fun z => absurd rfl z⟩
    rcases run_01 (ο 1) l P 60 0 0 τ2 with q | q
    · rw [q]
      obtain ⟨_, _, ok'⟩ := s1 q
      exact ⟨fun z => absurd z (by decide), fun _ => rf _ ok'.go.1.d0 (fun _ => rfl) (fun z => absurd (q.symm.trans z) (by decide))⟩
    · rw [q]
      obtain ⟨a2, a3, a4, g0⟩ := s0 q
      have nq : ∀ {A : Prop}, (run (ο 1) l P 60 0 0 τ2).1 = 1 → A := fun z => absurd (q.symm.trans z) (by decide)
      refine ⟨fun _ => ⟨fun x0 => rf _ g0 nq (fun _ => ⟨fun _ => a2, fun z => absurd x0 z⟩), fun x0 => ⟨fun x1 => rf _ g0 nq (fun _ => ⟨fun z => absurd z x0, fun _ => ⟨fun _ => a3, fun z => absurd x1 z⟩⟩), fun x1 => rf _ g0 nq (fun _ => ⟨fun z => absurd z x0, fun _ => ⟨fun z => absurd z x1, fun _ => a4⟩⟩)⟩⟩, fun z => absurd rfl z⟩
  · rw [if_neg c]
    refine ⟨fun q => absurd rfl q, fun _ => ?_⟩
    refine (e_rin _ x 0 2).mpr ?_
    rw [if_neg c]
    exact ⟨fun q => absurd rfl q, fun _ => sme rfl (hk _ _ _ _ _ _ (h'.kp KP.rfl' h0))⟩
theorem ca_play (hB : B ≤ 900000000) (h : INV B γ τ η σ ο ρ) (hk : ∀ γ' τ' η' σ' ο' ρ', INV (B + 432000) γ' τ' η' σ' ο' ρ' → K γ' τ' η' σ' ο' ρ') :
    vc_X7_play (fun r γ' τ' η' σ' ο' => vc_X8_play (fun r' ρ' => (r = r' → K γ' τ' η' σ' ο' ρ') ∧ (¬ r = r' → False)) ρ) ξ γ τ η σ ο := by
  have h' := h
  obtain ⟨⟨P, hg, hr⟩, h0, h5, ⟨n, hi⟩, hx⟩ := h
  obtain ⟨l, l1, l2, l3, l4⟩ := hx
  unfold vc_X7_play vc_X8_play
  refine s_copyFrom (fun τ2 cp e0 => ?_)
  have ok := hg.cp cp (e0.trans h0)
  have hr2 := hr.cp cp
  have tx : TX (ο 1) l (cpr ρ 1 0 3 0 164) := ⟨by rw [cpr_n _ _ _ _ _ _ (by omega)]; exact l3.1, fun i hi => by rw [cpr_n _ _ _ _ _ _ (by omega)]; exact l3.2 i hi⟩
  refine s_obeyAll (c := ο 1) l1 ok rfl l2 (fun ο' g' o1 o0 s1 s0 => ?_)
  rcases run_01 (ο 1) l P 60 0 0 τ2 with q | q
  · rw [q]
    obtain ⟨b1, b2, b3⟩ := s1 q
    refine ⟨fun _ => ?_, fun z => absurd z (by decide)⟩
    have hd := run_d (ο 1) l P 60 0 0 τ2
    rw [b1]
    refine ⟨fun z => absurd z (nn (by omega)), fun _ => s_record hi hg hr (fun η' σ' hH => s_copyFrom (fun γ' cp2 e2 => r_copies (by omega) ?_))⟩
    refine r_plays (c := ο 1) (B := B) l1 hi.1 (by omega) l4 ok hr2.held tx (by rw [cpr_n _ _ _ _ _ _ (by omega)]; exact hi.2.2.1) (fun ρ4 fp p5 p1 p0 => r_copies (by omega) ?_)
    have kp := kp_held fp p5 h5
    generalize cpr ρ4 3 0 1 0 164 = ρ6 at kp
    obtain ⟨k1, k2, k5, k04, k05, k07⟩ := kp
    rw [q]
    refine ⟨fun _ => r_changes hi.1 (k04.trans hi.2.2.1) (k05.trans h5) ?_, fun z => absurd z (by decide)⟩
    show vc_X8_plays _ (chg ρ6 n)
    have hr6 : RR P τ2 (chg ρ6 n) := RR.chg ⟨hr2.1, hr2.2.1, rel_cg hr2.2.2 k1⟩ n
    have tx6 : TX (ο 1) l (chg ρ6 n) := ⟨by rw [chg_0 _ _ (by omega)]; exact k07.trans l3.1, fun i hi => by rw [chg_c _ _ (by omega) (by omega), k5]; exact l3.2 i hi⟩
    have h4 : chg ρ6 n 0 4 = nI (if n = 4 then 4 else n + 1) := chg_4 ρ6 hi.1
    refine r_plays (c := ο 1) (B := B) (n := if n = 4 then 4 else n + 1) l1 (by have := hi.1; split <;> omega) (by omega) l4 ok hr6 tx6 h4 (fun ρ7 fp7 p57 p17 p07 => ?_)
    rw [q]
    obtain ⟨r7, d7⟩ := p17 q
    obtain ⟨f2, f3, f5, f04, f07⟩ := fp7
    refine ⟨fun z => absurd z (by decide), fun _ => sme d7.symm (hk _ _ _ _ _ _ ?_)⟩
    have hn4 := hi.1
    rw [← b2] at r7
    refine ⟨⟨P, b3.cp cp2 (e2.trans hg.go.1.d0), r7.cp cp2⟩, b3.go.1.d0, p57, ⟨_, (hH ρ7 (ps_chg hn4 k1 k2 f04 f2)).mono (by omega)⟩, l, l1, o0, ?_, ?_⟩
    · rw [o1]
      exact ⟨f07.trans tx6.1, fun i hi => by rw [f5]; exact tx6.2 i hi⟩
    · rw [o1]; exact l4
  · rw [q]
    obtain ⟨a2, a3, a4, g0⟩ := s0 q
    refine ⟨fun z => absurd rfl z, fun _ => r_copies (by omega) ?_⟩
    refine r_plays (c := ο 1) (B := B) l1 hi.1 (by omega) l4 ok hr2.held tx (by rw [cpr_n _ _ _ _ _ _ (by omega)]; exact hi.2.2.1) (fun ρ4 fp p5 p1 p0 => r_copies (by omega) ?_)
    have kp := kp_held fp p5 h5
    rw [q]
    refine ⟨fun z => absurd rfl z, fun _ => sme rfl (hk _ _ _ _ _ _ ?_)⟩
    obtain ⟨a, b, c, d, l', q1, q2, q3, q4⟩ := h'.kp kp g0
    exact ⟨a, b, c, d, l', q1, by rw [o0, ← l2]; exact q2, by rw [o1]; exact q3, by rw [o1]; exact q4⟩
end CF
