theorem r_works {Q : Mem → Prop} {P : Nat} {g ρ : Mem} (h : RQ P g ρ) (hd : DQ P g) (ht : TI P g) (hp : PT g) (hq : ∀ ρ' g', QL g g' → RQ P g' ρ' → (finD 12 g 0).2 = up g' 0 6 0 → (g 0 6 = 0 → g' = g) → Fr ρ ρ' → Q ρ') : vc_X8_works Q ρ := by
  have st : ∀ n k g ρ f, n + k = 12 → 14 * n + 1 ≤ f → RQ P g ρ → DQ P g → TI P g → PT g → (∀ ρ' g', QL g g' → RQ P g' ρ' → (finD n g k).2 = up g' 0 6 0 → (g 0 6 ≤ nI k → g' = g) → Fr ρ ρ' → Q ρ') → vl_X8_works Q f 0 ρ (nI k) 0 0 := by
    intro n
    induction n with
    | zero =>
      intro k g ρ f hk hf h hd ht hp hq
      obtain ⟨f, rfl⟩ : ∃ m, f = m + 1 := ⟨f - 1, by omega⟩
      obtain ⟨m, em, hm, _⟩ := hd
      refine br_t (by rw [h.2.1, em]; exact gec (a := k) (b := m) (by omega)) (hq ρ g (QL.of rfl rfl) h rfl (fun _ => rfl) Fr.rfl')
    | succ n ih =>
      intro k g ρ f hk hf h hd ht hp hq
      obtain ⟨f, rfl⟩ : ∃ m, f = m + 1 := ⟨f - 1, by omega⟩
      have hd' := hd
      obtain ⟨m, em, hm, he⟩ := hd'
      have hP := h.1.1
      by_cases c : g 0 6 ≤ nI k
      · refine br_t (by rw [h.2.1]; exact c) (hq ρ g (QL.of rfl rfl) h ?_ (fun _ => rfl) Fr.rfl')
        unfold finD
        rw [if_pos c]
      · have hkm : k < m := by
          rw [em, nI_leI (by omega) (by omega)] at c
          omega
        obtain ⟨w, hw, ew, e7, hr⟩ := he k hkm
        have dn := dq_dn1 hP hd ht w
        refine r_body h hd ht hp (by omega) hw hr ((h.2.2 m (by omega) em k hkm).trans ew) (by rw [h.2.1]; exact c) (by omega) (fun ρ1 f1 hf1 h1 fr1 => ?_)
        refine ih (k + 1) (dn1 g w) ρ1 f1 (by omega) (by omega) h1 dn.1 dn.2 (pt_dn1 hp w) (fun ρ2 g2 q2 r2 e2 z2 fr2 => ?_)
        refine hq ρ2 g2 ((ql_dn1 g w).tr q2) r2 ?_ (fun q => absurd q c) (fr1.tr fr2)
        unfold finD
        rw [if_neg c, ew, nI_clamp (by omega)]
        exact e2
  exact ⟨14 * 12 + 1, st 12 0 g ρ _ (by omega) (by omega) h hd ht hp (fun ρ' g' a b c d e => hq ρ' g' a b c (fun z => d (by rw [z]; exact Int32.le_refl _)) e)⟩
theorem dq_0 {P : Nat} {g : Mem} (h : g 0 6 = 0) : DQ P g := by
  refine ⟨0, h, ?_, fun j hj => by omega⟩
  have : ∀ n, ac (g 7) n ≤ n := by
    intro n
    induction n with
    | zero => exact Nat.le_refl _
    | succ n ih =>
      show ac (g 7) n + _ ≤ _
      split <;> omega
  have := this 12
  omega
theorem dq_tk1 {P i : Nat} {g : Mem} {k : Int32} (hP : P ≤ 4) (hi : i < 12) (hd : DQ P g) (ht : TI P g) : DQ P (tk1 g k i) ∧ TI P (tk1 g k i) := by
  unfold tk1
  by_cases c : g 7 i = 0
  · rw [if_pos c]
    exact ⟨hd.of rfl rfl rfl rfl rfl, ht.of rfl rfl rfl⟩
  · rw [if_neg c]
    have := dq_step (g' := up g 7 i (if 0 < g 7 i - k then g 7 i - k else 0)) hP hi hd ht c (up_s _ _ _ _) rfl rfl rfl rfl
    exact ⟨this.1, this.2.1⟩
theorem dq_tks {P : Nat} {g : Mem} {k : Int32} (hP : P ≤ 4) (hd : DQ P g) (ht : TI P g) : ∀ n, n ≤ 12 → DQ P (tks g k n) ∧ TI P (tks g k n)
  | 0, _ => ⟨hd, ht⟩
  | n + 1, hn => dq_tk1 hP (by omega) (dq_tks hP hd ht n (by omega)).1 (dq_tks hP hd ht n (by omega)).2
theorem ti_finD {P : Nat} (hP : P ≤ 4) : ∀ n g k, DQ P g → TI P g → TI P (finD n g k).2
  | 0, g, k, _, h => h.of rfl rfl rfl
  | n + 1, g, k, hd, h => by
    unfold finD
    split
    · exact h.of rfl rfl rfl
    · exact ti_finD hP n _ _ (dq_dn1 hP hd h _).1 (dq_dn1 hP hd h _).2
theorem ti_stp {P : Nat} {g : Mem} {k : Int32} (hP : P ≤ 4) (h0 : g 0 6 = 0) (ht : TI P g) : TI P (stp g P k).2 := by
  have := dq_tks (k := k) hP (dq_0 h0) ht (3 * P) (by omega)
  refine ti_finD hP _ _ _ (this.1.of ?_ ?_ ?_ ?_ ?_) (this.2.of ?_ ?_ ?_)
  all_goals first | exact sec_n _ _ (by omega) | (unfold sec; rw [up_at, if_neg (by omega)])
