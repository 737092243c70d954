/-! the law, call by call -/
theorem law_case {L m f : Nat} {xs : Nat → Int32} (hL : L ≤ 2560) (hm : 5 * m + 5 ≤ L) {γ τ η ο ρ : Mem} {σ : Nat → Mem} (h : INV (432000 * m) γ τ η σ ο ρ) (hk : ∀ γ' τ' η' σ' ο' ρ', INV (432000 * m + 432000) γ' τ' η' σ' ο' ρ' → vl_L_law L xs ξ0 (f + 1) 26 γ' τ' η' σ' ο' ρ' (nI (5 * m))) : ∀ j, 1 ≤ j → j ≤ 26 → vl_L_law L xs ξ0 (f + 2) j γ τ η σ ο ρ (nI (5 * m)) ∨ j = 26 := by
  have h' := h
  obtain ⟨⟨P, hg, hr⟩, h0, h5, ⟨n, hi⟩, l, l1, l2, l3, l4⟩ := h'
  have hB : 432000 * m ≤ 900000000 := by omega
  have go := hg.go
  obtain ⟨T, C, hT, eT, hC, eC, h17⟩ := hg.tc
  have k0 := hk _ _ _ _ _ _ (h.kp KP.rfl' h0)
  have v : ∀ k, k ≤ 4 → vp_in (nI (5 * m) + nI k) L := fun k hk => by rw [nI_add]; exact vp_in_nI (by omega) (by omega)
  intro j j1 j2
  rcases (show j = 1 ∨ j = 2 ∨ j = 3 ∨ j = 4 ∨ j = 5 ∨ j = 6 ∨ j = 7 ∨ j = 8 ∨ j = 9 ∨ j = 10 ∨ j = 11 ∨ j = 12 ∨ j = 13 ∨ j = 14 ∨ j = 15 ∨ j = 16 ∨ j = 17 ∨ j = 18 ∨ j = 19 ∨ j = 20 ∨ j = 21 ∨ j = 22 ∨ j = 23 ∨ j = 24 ∨ j = 25 ∨ j = 26 by omega) with rfl | rfl | rfl | rfl | rfl | rfl | rfl | rfl | rfl | rfl | rfl | rfl | rfl | rfl | rfl | rfl | rfl | rfl | rfl | rfl | rfl | rfl | rfl | rfl | rfl | rfl
  · left
    show vb_L_law_148 L xs ξ0 (vl_L_law L xs ξ0 (f + 1)) γ τ η σ ο ρ (nI (5 * m))
    exact ca_player (K := fun γ' τ' η' σ' ο' ρ' => vl_L_law L xs ξ0 (f + 1) 26 γ' τ' η' σ' ο' ρ' (nI (5 * m))) h hk
  · left
    show vb_L_law_161 L xs ξ0 (vl_L_law L xs ξ0 (f + 1)) γ τ η σ ο ρ (nI (5 * m))
    exact ⟨v 1 (by omega), v 2 (by omega), v 3 (by omega), ca_size (K := fun γ' τ' η' σ' ο' ρ' => vl_L_law L xs ξ0 (f + 1) 26 γ' τ' η' σ' ο' ρ' (nI (5 * m))) h hk⟩
  · left
    show vb_L_law_204 L xs ξ0 (vl_L_law L xs ξ0 (f + 1)) γ τ η σ ο ρ (nI (5 * m))
    exact ⟨v 1 (by omega), v 2 (by omega), v 3 (by omega), v 4 (by omega), ca_task (K := fun γ' τ' η' σ' ο' ρ' => vl_L_law L xs ξ0 (f + 1) 26 γ' τ' η' σ' ο' ρ' (nI (5 * m))) h hk⟩
  · left
    show vb_L_law_257 L xs ξ0 (vl_L_law L xs ξ0 (f + 1)) γ τ η σ ο ρ (nI (5 * m))
    exact ⟨v 1 (by omega), v 2 (by omega), ca_contract (K := fun γ' τ' η' σ' ο' ρ' => vl_L_law L xs ξ0 (f + 1) 26 γ' τ' η' σ' ο' ρ' (nI (5 * m))) h hk⟩
  · left
    show vb_L_law_290 L xs ξ0 (vl_L_law L xs ξ0 (f + 1)) γ τ η σ ο ρ (nI (5 * m))
    exact ⟨v 1 (by omega), v 2 (by omega), v 3 (by omega), ca_put (K := fun γ' τ' η' σ' ο' ρ' => vl_L_law L xs ξ0 (f + 1) 26 γ' τ' η' σ' ο' ρ' (nI (5 * m))) h hk⟩
  · left
    show vb_L_law_333 L xs ξ0 (vl_L_law L xs ξ0 (f + 1)) γ τ η σ ο ρ (nI (5 * m))
    exact ⟨v 1 (by omega), v 2 (by omega), ca_home (K := fun γ' τ' η' σ' ο' ρ' => vl_L_law L xs ξ0 (f + 1) 26 γ' τ' η' σ' ο' ρ' (nI (5 * m))) h hk⟩
  · left
    show vb_L_law_366 L xs ξ0 (vl_L_law L xs ξ0 (f + 1)) γ τ η σ ο ρ (nI (5 * m))
    exact ⟨v 1 (by omega), v 2 (by omega), ca_flip (K := fun γ' τ' η' σ' ο' ρ' => vl_L_law L xs ξ0 (f + 1) 26 γ' τ' η' σ' ο' ρ' (nI (5 * m))) h hk⟩
  · left
    show vb_L_law_399 L xs ξ0 (vl_L_law L xs ξ0 (f + 1)) γ τ η σ ο ρ (nI (5 * m))
    exact ⟨v 1 (by omega), v 2 (by omega), ca_buy (K := fun γ' τ' η' σ' ο' ρ' => vl_L_law L xs ξ0 (f + 1) 26 γ' τ' η' σ' ο' ρ' (nI (5 * m))) hB h hk⟩
  · left
    show vb_L_law_432 L xs ξ0 (vl_L_law L xs ξ0 (f + 1)) γ τ η σ ο ρ (nI (5 * m))
    exact ⟨v 1 (by omega), ca_pass (K := fun γ' τ' η' σ' ο' ρ' => vl_L_law L xs ξ0 (f + 1) 26 γ' τ' η' σ' ο' ρ' (nI (5 * m))) h hk⟩
  · left
    show vb_L_law_455 L xs ξ0 (vl_L_law L xs ξ0 (f + 1)) γ τ η σ ο ρ (nI (5 * m))
    exact ⟨v 1 (by omega), v 2 (by omega), q_playerOf (K := fun τ' ρ' => vl_L_law L xs ξ0 (f + 1) 26 γ τ' η σ ο ρ' (nI (5 * m))) hr go h0 (fun τ' ρ' t0 kp => hk _ _ _ _ _ _ (h.kp kp t0))⟩
  · left
    show vb_L_law_488 L xs ξ0 (vl_L_law L xs ξ0 (f + 1)) γ τ η σ ο ρ (nI (5 * m))
    exact ⟨v 1 (by omega), v 2 (by omega), v 3 (by omega), q_workerOf hr go.1.pt hg.ho k0⟩
  · left
    show vb_L_law_531 L xs ξ0 (vl_L_law L xs ξ0 (f + 1)) γ τ η σ ο ρ (nI (5 * m))
    exact ⟨v 1 (by omega), v 2 (by omega), q_taskOf hr go.2.2 go.1.pt hT eT k0⟩
  · left
    show vb_L_law_564 L xs ξ0 (vl_L_law L xs ξ0 (f + 1)) γ τ η σ ο ρ (nI (5 * m))
    exact ⟨v 1 (by omega), v 2 (by omega), q_on hr go.2.2 go.1.pt hT eT k0⟩
  · left
    show vb_L_law_597 L xs ξ0 (vl_L_law L xs ξ0 (f + 1)) γ τ η σ ο ρ (nI (5 * m))
    exact ⟨v 1 (by omega), v 2 (by omega), q_contractOf hr go.1.pt hC eC k0⟩
  · left
    show vb_L_law_630 L xs ξ0 (vl_L_law L xs ξ0 (f + 1)) γ τ η σ ο ρ (nI (5 * m))
    exact ⟨v 1 (by omega), q_next (K := fun ρ' => vl_L_law L xs ξ0 (f + 1) 26 γ τ η σ ο ρ' (nI (5 * m))) hr go (fun ρ' kp => hk _ _ _ _ _ _ (h.kp kp h0))⟩
  · left
    show vb_L_law_653 L xs ξ0 (vl_L_law L xs ξ0 (f + 1)) γ τ η σ ο ρ (nI (5 * m))
    exact ⟨v 1 (by omega), v 2 (by omega), v 3 (by omega), q_would (K := fun τ' ρ' => vl_L_law L xs ξ0 (f + 1) 26 γ τ' η σ ο ρ' (nI (5 * m))) hr go h0 (fun τ' ρ' t0 kp => hk _ _ _ _ _ _ (h.kp kp t0))⟩
  · left
    show vb_L_law_696 L xs ξ0 (vl_L_law L xs ξ0 (f + 1)) γ τ η σ ο ρ (nI (5 * m))
    exact ⟨v 1 (by omega), v 2 (by omega), v 3 (by omega), q_best hr go.1.gs go.2.2 go.1.pt hT eT k0⟩
  · left
    show vb_L_law_739 L xs ξ0 (vl_L_law L xs ξ0 (f + 1)) γ τ η σ ο ρ (nI (5 * m))
    exact ⟨v 1 (by omega), v 2 (by omega), v 3 (by omega), q_earns (K := fun τ' ρ' => vl_L_law L xs ξ0 (f + 1) 26 γ τ' η σ ο ρ' (nI (5 * m))) hr go hg.sc.1 hg.sc.2 hT eT hC eC h0 (fun τ' ρ' t0 kp => hk _ _ _ _ _ _ (h.kp kp t0))⟩
  · left
    show vb_L_law_782 L xs ξ0 (vl_L_law L xs ξ0 (f + 1)) γ τ η σ ο ρ (nI (5 * m))
    exact ⟨v 1 (by omega), v 2 (by omega), q_busy hr go.1.pt hg.ws k0⟩
  · left
    show vb_L_law_815 L xs ξ0 (vl_L_law L xs ξ0 (f + 1)) γ τ η σ ο ρ (nI (5 * m))
    exact ⟨v 1 (by omega), q_count hr hg.pb (by omega) (hi.2.2.1.trans hi.2.1.symm) (l3.1.trans l2.symm) k0⟩
  · left
    show vb_L_law_838 L xs ξ0 (vl_L_law L xs ξ0 (f + 1)) γ τ η σ ο ρ (nI (5 * m))
    exact ca_undo (K := fun γ' τ' η' σ' ο' ρ' => vl_L_law L xs ξ0 (f + 1) 26 γ' τ' η' σ' ο' ρ' (nI (5 * m))) h hk
  · left
    show vb_L_law_851 L xs ξ0 (vl_L_law L xs ξ0 (f + 1)) γ τ η σ ο ρ (nI (5 * m))
    exact ⟨v 1 (by omega), ca_type (K := fun γ' τ' η' σ' ο' ρ' => vl_L_law L xs ξ0 (f + 1) 26 γ' τ' η' σ' ο' ρ' (nI (5 * m))) h hk⟩
  · left
    show vb_L_law_874 L xs ξ0 (vl_L_law L xs ξ0 (f + 1)) γ τ η σ ο ρ (nI (5 * m))
    exact ca_clear (K := fun γ' τ' η' σ' ο' ρ' => vl_L_law L xs ξ0 (f + 1) 26 γ' τ' η' σ' ο' ρ' (nI (5 * m))) h hk
  · left
    show vb_L_law_887 L xs ξ0 (vl_L_law L xs ξ0 (f + 1)) γ τ η σ ο ρ (nI (5 * m))
    exact ⟨v 1 (by omega), ca_fault (K := fun γ' τ' η' σ' ο' ρ' => vl_L_law L xs ξ0 (f + 1) 26 γ' τ' η' σ' ο' ρ' (nI (5 * m))) hB h hk⟩
  · left
    show vb_L_law_910 L xs ξ0 (vl_L_law L xs ξ0 (f + 1)) γ τ η σ ο ρ (nI (5 * m))
    exact ca_play (K := fun γ' τ' η' σ' ο' ρ' => vl_L_law L xs ξ0 (f + 1) 26 γ' τ' η' σ' ο' ρ' (nI (5 * m))) hB h hk
  · exact Or.inr rfl
theorem law_loop {L : Nat} {xs : Nat → Int32} (hL : L ≤ 2560) : ∀ k m γ τ η σ ο ρ f, m + k = 513 → 3 * k + 1 ≤ f → INV (432000 * m) γ τ η σ ο ρ → vl_L_law L xs ξ0 f 0 γ τ η σ ο ρ (nI (5 * m)) := by
  intro k
  induction k with
  | zero =>
    intro m γ τ η σ ο ρ f hm hf h
    obtain ⟨f, rfl⟩ : ∃ f', f = f' + 1 := ⟨f - 1, by omega⟩
    have e : m = 513 := by omega
    subst e
    show vb_L_law_18 L xs ξ0 (vl_L_law L xs ξ0 f) γ τ η σ ο ρ (nI (5 * 513))
    refine br_t ?_ trivial
    show nI L - 5 < nI 2565
    rcases (show L < 5 ∨ 5 ≤ L by omega) with q | q
    · rcases (show L = 0 ∨ L = 1 ∨ L = 2 ∨ L = 3 ∨ L = 4 by omega) with rfl | rfl | rfl | rfl | rfl <;> decide
    · rw [show (5 : Int32) = nI 5 from rfl, nI_sub q]
      exact nI_lt (by omega) (by omega)
  | succ k ih =>
    intro m γ τ η σ ο ρ f hm hf h
    obtain ⟨f, rfl⟩ : ∃ f', f = f' + 3 := ⟨f - 3, by omega⟩
    show vb_L_law_18 L xs ξ0 (vl_L_law L xs ξ0 (f + 2)) γ τ η σ ο ρ (nI (5 * m))
    by_cases c : nI L - 5 < nI (5 * m)
    · exact br_t c trivial
    · have hm5 : 5 * m + 5 ≤ L := by
        rcases (show L < 5 ∨ 5 ≤ L by omega) with q | q
        · have p := nI_pos' (n := 5 * m) (by omega)
          have : nI L - 5 < 0 := by
            rcases (show L = 0 ∨ L = 1 ∨ L = 2 ∨ L = 3 ∨ L = 4 by omega) with rfl | rfl | rfl | rfl | rfl <;> decide
          exact absurd (Int32.lt_of_lt_of_le this p) c
        · rw [show (5 : Int32) = nI 5 from rfl, nI_sub q, nI_ltI (by omega) (by omega)] at c
          omega
      have last : ∀ f γ' τ' η' σ' ο' ρ', 3 * k + 1 ≤ f → INV (432000 * m + 432000) γ' τ' η' σ' ο' ρ' → vl_L_law L xs ξ0 (f + 1) 26 γ' τ' η' σ' ο' ρ' (nI (5 * m)) := by
        intro f γ' τ' η' σ' ο' ρ' hf h'
        show vb_L_law_923 L xs ξ0 (vl_L_law L xs ξ0 f) γ' τ' η' σ' ο' ρ' (nI (5 * m))
        refine nm_e ?_
        rw [show nI (5 * m) + 5 = nI (5 * (m + 1)) from nI_add (5 * m) 5]
        exact ih (m + 1) _ _ _ _ _ _ f (by omega) (by omega) (by rw [show 432000 * (m + 1) = 432000 * m + 432000 by omega]; exact h')
      have step : ∀ j, 1 ≤ j → j ≤ 26 → vl_L_law L xs ξ0 (f + 2) j γ τ η σ ο ρ (nI (5 * m)) := by
        intro j j1 j2
        rcases law_case (f := f) hL hm5 h (fun γ' τ' η' σ' ο' ρ' h' => last f _ _ _ _ _ _ (by omega) h') j j1 j2 with q | q
        · exact q
        · rw [q]
          exact last (f + 1) _ _ _ _ _ _ (by omega) (h.kp KP.rfl' h.2.1)
      refine br_f c ⟨vp_in_nI (by omega) (by omega), nm_e ?_⟩
      exact ⟨fun _ => step 1 (by omega) (by omega), fun _ => ⟨fun _ => step 2 (by omega) (by omega), fun _ => ⟨fun _ => step 3 (by omega) (by omega), fun _ => ⟨fun _ => step 4 (by omega) (by omega), fun _ => ⟨fun _ => step 5 (by omega) (by omega), fun _ => ⟨fun _ => step 6 (by omega) (by omega), fun _ => ⟨fun _ => step 7 (by omega) (by omega), fun _ => ⟨fun _ => step 8 (by omega) (by omega), fun _ => ⟨fun _ => step 9 (by omega) (by omega), fun _ => ⟨fun _ => step 10 (by omega) (by omega), fun _ => ⟨fun _ => step 11 (by omega) (by omega), fun _ => ⟨fun _ => step 12 (by omega) (by omega), fun _ => ⟨fun _ => step 13 (by omega) (by omega), fun _ => ⟨fun _ => step 14 (by omega) (by omega), fun _ => ⟨fun _ => step 15 (by omega) (by omega), fun _ => ⟨fun _ => step 16 (by omega) (by omega), fun _ => ⟨fun _ => step 17 (by omega) (by omega), fun _ => ⟨fun _ => step 18 (by omega) (by omega), fun _ => ⟨fun _ => step 19 (by omega) (by omega), fun _ => ⟨fun _ => step 20 (by omega) (by omega), fun _ => ⟨fun _ => step 21 (by omega) (by omega), fun _ => ⟨fun _ => step 22 (by omega) (by omega), fun _ => ⟨fun _ => step 23 (by omega) (by omega), fun _ => ⟨fun _ => step 24 (by omega) (by omega), fun _ => ⟨fun _ => step 25 (by omega) (by omega), fun _ => step 26 (by omega) (by omega)⟩⟩⟩⟩⟩⟩⟩⟩⟩⟩⟩⟩⟩⟩⟩⟩⟩⟩⟩⟩⟩⟩⟩⟩⟩
theorem inv0 : INV 0 γ0 γ0 ξ0 σ0 ξ0 ξ0 := by
  have hsz : ∀ i, i < 12 → γ0 5 i = nI (30 * (i % 3) + 30) := by decide
  have z : ∀ c f, c ≠ 2 → c ≠ 5 → c ≠ 6 → γ0 c f = 0 := fun c f h2 h5 h6 => by
    unfold γ0
    rw [if_neg h2, if_neg h5, if_neg h6]
  have pt : PT γ0 := ⟨0, 0, 0, by omega, by omega, by omega, rfl, rfl, rfl⟩
  have gs : GS γ0 := fun i hi => ⟨30 * (i % 3) + 30, 0, hsz i hi, rfl, by omega, by omega⟩
  have go : GO 0 γ0 := ⟨⟨by omega, rfl, pt, rfl, gs⟩, fun i hi h7 => absurd rfl h7, fun i _ _ => rfl⟩
  have ok : OKg 0 0 γ0 := by
    refine ⟨0, 0, 0, by omega, ⟨go, ⟨by omega, rfl⟩, ⟨by omega, rfl⟩, ⟨fun p _ _ => rfl, fun f _ hf => ⟨rfl, hsz f hf, rfl, rfl, rfl, rfl, rfl, rfl⟩⟩, fun i hi => Or.inl rfl, fun t ht => ⟨0, by omega, rfl, ?_⟩, fun t ht => ⟨show (0 : Int32) ≤ 0 by decide, show (0 : Int32) ≤ 999 by decide⟩, fun t _ _ => rfl, fun i hi => ?_, fun p hp => ⟨0, by omega, rfl⟩, fun c hc => ⟨0, by omega, rfl⟩⟩, rfl, fun i hi => ⟨0, by omega, rfl⟩⟩
    · rw [nc_zero 12 (fun i hi q => ?_)]
      · omega
      · exact nI_m1 (n := t) (by omega) q.symm
    · rw [hsz i hi]
      exact ai0 (by omega) (by omega)
  refine ⟨⟨0, ok, by omega, rfl, ⟨fun c f hl => ?_, rfl, rfl, fun p hp => rfl⟩⟩, rfl, rfl, ⟨0, by omega, rfl, rfl, fun i hi => rfl, fun i hi => by omega⟩, 0, by omega, rfl, ⟨rfl, fun i hi => by omega⟩, fun i hi => by omega⟩
  show (0 : Int32) = _
  by_cases q : liv 0 c f = true
  · rw [if_pos q]
    simp [liv] at q
    exact (z c f (by omega) (by omega) (by omega)).symm
  · rw [if_neg q]
