theorem DQ.of {P : Nat} {g g' : Mem} (h : DQ P g) (e7 : g' 7 = g 7) (e6 : g' 6 = g 6) (e12 : g' 12 = g 12) (e21 : g' 21 = g 21) (e0 : g' 0 6 = g 0 6) : DQ P g' := by
  obtain ⟨n, a, b, c⟩ := h
  exact ⟨n, e0.trans a, by rw [e7]; exact b, fun j hj => by rw [e7, e6, e12, e21]; exact c j hj⟩
theorem TI.of {P : Nat} {g g' : Mem} (h : TI P g) (e7 : g' 7 = g 7) (e6 : g' 6 = g 6) (e12 : g' 12 = g 12) : TI P g' := by
  intro i hi hn
  rw [e7] at hn
  rw [e6, e12]
  exact h i hi hn
theorem dq_fst1 {P i : Nat} {g : Mem} (hP : P ≤ 4) (hi : i < 12) (hd : DQ P g) (ht : TI P g) : DQ P (fst1 g i) ∧ TI P (fst1 g i) := by
  unfold fst1
  by_cases c : g 7 i ≤ 0
  · rw [if_pos c]; exact ⟨hd, ht⟩
  · rw [if_neg c]
    have := dq_step (g' := fl1 g i) hP hi hd ht (fun q => c (by rw [q]; exact Int32.le_refl _)) (fl1_7 g i) (fl1_n _ _ (by omega) (by omega)) (fl1_n _ _ (by omega) (by omega)) (fl1_n _ _ (by omega) (by omega)) (by rw [fl1_n _ _ (by omega) (by omega)])
    exact ⟨this.1, this.2.1⟩
theorem dq_fsts {P : Nat} {g : Mem} (hP : P ≤ 4) (hd : DQ P g) (ht : TI P g) : ∀ n, n ≤ 12 → DQ P (fsts g n) ∧ TI P (fsts g n)
  | 0, _ => ⟨hd, ht⟩
  | n + 1, hn => dq_fst1 hP (by omega) (dq_fsts hP hd ht n (by omega)).1 (dq_fsts hP hd ht n (by omega)).2
theorem fsts_all {P : Nat} {g : Mem} (hP : P ≤ 4) (hd : DQ P g) (ht : TI P g) : ∀ j, 3 * P + j ≤ 12 → fsts g (3 * P + j) = fsts g (3 * P)
  | 0, _ => rfl
  | j + 1, h => by
    show fst1 (fsts g (3 * P + j)) (3 * P + j) = _
    have h1 := (dq_fsts hP hd ht (3 * P + j) (by omega)).2
    have e : fsts g (3 * P + j) 7 (3 * P + j) = 0 := by
      apply Classical.byContradiction
      intro q
      have := (h1 (3 * P + j) (by omega) q).1
      omega
    unfold fst1
    rw [if_pos (by rw [e]; exact Int32.le_refl _)]
    exact fsts_all hP hd ht j (by omega)
theorem dq_eff {P : Nat} {g : Mem} (hP : P ≤ 4) (hd : DQ P g) (ht : TI P g) (e : Int32) (p : Nat) : DQ P (eff g e p) ∧ TI P (eff g e p) := by
  unfold eff
  split
  · exact dq_fsts hP hd ht 12 (by omega)
  · split
    · exact ⟨hd.of rfl rfl rfl rfl rfl, ht.of rfl rfl rfl⟩
    · exact ⟨hd, ht⟩
theorem dq_gw {P : Nat} {g : Mem} (hd : DQ P g) (ht : TI P g) (w t p : Nat) (x : Int32) : DQ P (gain (wrk g w t) p x) ∧ TI P (gain (wrk g w t) p x) := by
  have e : ∀ c, c ≠ 2 → c ≠ 1 → c ≠ 9 → c ≠ 17 → gain (wrk g w t) p x c = g c := fun c h2 h1 h9 h17 => by
    rw [gain_n _ _ _ h2 h1]
    simp only [wrk, up_n _ _ _ h9, up_n _ _ _ h17]
  exact ⟨hd.of (e _ (by omega) (by omega) (by omega) (by omega)) (e _ (by omega) (by omega) (by omega) (by omega)) (e _ (by omega) (by omega) (by omega) (by omega)) (e _ (by omega) (by omega) (by omega) (by omega)) (by rw [e _ (by omega) (by omega) (by omega) (by omega)]), ht.of (e _ (by omega) (by omega) (by omega) (by omega)) (e _ (by omega) (by omega) (by omega) (by omega)) (e _ (by omega) (by omega) (by omega) (by omega))⟩
theorem dq_dn1 {P : Nat} {g : Mem} (hP : P ≤ 4) (hd : DQ P g) (ht : TI P g) (w : Nat) : DQ P (dn1 g w) ∧ TI P (dn1 g w) := by
  unfold dn1
  split
  · exact dq_eff hP (dq_gw hd ht _ _ _ _).1 (dq_gw hd ht _ _ _ _).2 _ _
  · exact ⟨hd, ht⟩
/-- the queue of the first begins that of the second -/
def QL (g g' : Mem) : Prop := ∀ n, n ≤ 12 → g 0 6 = nI n → ∃ n', n ≤ n' ∧ n' ≤ 12 ∧ g' 0 6 = nI n' ∧ ∀ j, j < n → g' 21 j = g 21 j
theorem QL.of {g g' : Mem} (e0 : g' 0 6 = g 0 6) (e21 : g' 21 = g 21) : QL g g' := fun n h e => ⟨n, Nat.le_refl _, h, e0.trans e, fun j _ => by rw [e21]⟩
theorem QL.tr {a b c : Mem} (h : QL a b) (h' : QL b c) : QL a c := fun n hn e => by
  obtain ⟨m, h1, h2, h3, h4⟩ := h n hn e
  obtain ⟨l, k1, k2, k3, k4⟩ := h' m h2 h3
  exact ⟨l, by omega, k2, k3, fun j hj => (k4 j (by omega)).trans (h4 j hj)⟩
theorem ql_due1 (g : Mem) (w : Nat) : QL g (due1 g w) := fun n hn e => by
  by_cases c : g 7 w = 0 ∧ ¬ 12 ≤ g 0 6
  · have hn' : n < 12 := by
      rcases Nat.lt_or_ge n 12 with q | q
      · exact q
      · exact absurd (by rw [e, show n = 12 by omega]; exact Int32.le_refl _) c.2
    refine ⟨n + 1, by omega, by omega, by rw [due1_at, if_pos c, if_pos ⟨rfl, rfl⟩, e, nI_1], fun j hj => ?_⟩
    rw [due1_at, if_pos c, if_neg (by omega), e, nI_clamp (by omega), if_neg (by omega)]
  · exact ⟨n, by omega, hn, by rw [due1_at, if_neg c]; exact e, fun j hj => by rw [due1_at, if_neg c]⟩
theorem ql_fst1 (g : Mem) (i : Nat) : QL g (fst1 g i) := by
  unfold fst1
  split
  · exact QL.of rfl rfl
  · exact (QL.of (by rw [fl1_n _ _ (by omega) (by omega)]) (fl1_n _ _ (by omega) (by omega))).tr (ql_due1 _ _)
theorem ql_fsts (g : Mem) : ∀ n, QL g (fsts g n)
  | 0 => QL.of rfl rfl
  | n + 1 => (ql_fsts g n).tr (ql_fst1 _ _)
theorem ql_dn1 (g : Mem) (w : Nat) : QL g (dn1 g w) := by
  unfold dn1
  split
  · refine QL.tr (b := gain (wrk g w (g 6 w).toNatClampNeg) (w / 3) (g 15 (g 6 w).toNatClampNeg)) (QL.of ?_ ?_) ?_
    · rw [gain_n _ _ _ (by omega) (by omega)]; rfl
    · rw [gain_n _ _ _ (by omega) (by omega)]; rfl
    · unfold eff
      split
      · exact ql_fsts _ 12
      · split
        · exact QL.of rfl rfl
        · exact QL.of rfl rfl
  · exact QL.of rfl rfl
theorem RQ.of {P : Nat} {g g' ρ ρ' : Mem} (h : RQ P g ρ) (hr : RR P g' ρ') (e0 : g' 0 6 = g 0 6) (e21 : g' 21 = g 21) (r0 : ρ' 0 9 = ρ 0 9) (r6 : ρ' 6 = ρ 6) : RQ P g' ρ' :=
  ⟨hr, by rw [r0, e0]; exact h.2.1, fun n hn e j hj => by rw [r6, e21]; exact h.2.2 n hn (e0.symm.trans e) j hj⟩
