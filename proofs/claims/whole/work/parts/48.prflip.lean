theorem z_fst1 {g : Mem} {w i : Nat} (h : g 7 w = 0) : fst1 g i 7 w = 0 := by
  unfold fst1
  split
  · exact h
  · next c =>
    rw [due1_n _ _ (by omega) (by omega), fl1_7, pk_un (fun q => c (by rw [← q, h]; exact Int32.le_refl _))]
    exact h
theorem z_fsts {g : Mem} {w : Nat} (h : g 7 w = 0) : ∀ n, fsts g n 7 w = 0
  | 0 => h
  | n + 1 => z_fst1 (z_fsts h n)
theorem z_dn1 {g : Mem} {w : Nat} (i : Nat) (h : g 7 w = 0) : dn1 g i 7 w = 0 := by
  unfold dn1
  split
  · have hg : gain (wrk g i (g 6 i).toNatClampNeg) (i / 3) (g 15 (g 6 i).toNatClampNeg) 7 w = 0 := by
      rw [gain_n _ _ _ (by omega) (by omega)]; exact h
    unfold eff
    split
    · exact z_fsts hg 12
    · split
      · exact hg
      · exact hg
  · exact h
theorem z_finD {w : Nat} : ∀ n g k, g 7 w = 0 → (finD n g k).2 7 w = 0
  | 0, _, _, h => h
  | n + 1, g, k, h => by
    unfold finD
    split
    · exact h
    · exact z_finD n _ _ (z_dn1 _ h)
theorem flip_above {g : Mem} {w : Nat} (h0 : g 0 6 = 0) : (finD 12 (due1 (fl1 g w) w) 0).2 7 w = due1 (fl1 g w) w 7 w := by
  have e : due1 (fl1 g w) w 7 w = fl1 g w 7 w := by rw [due1_n _ _ (by omega) (by omega)]
  by_cases c : fl1 g w 7 w = 0
  · rw [e, c]
    exact z_finD _ _ _ (e.trans c)
  · rw [due1_ne c, finD_0 (by rw [fl1_n _ _ (by omega) (by omega)]; exact h0)]
