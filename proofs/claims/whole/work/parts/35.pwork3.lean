theorem ii {a b w k : Nat} : (nI a + nI b * nI w) + nI k = nI (a + b * w + k) := by rw [pk_mul, nI_add, nI_add]
theorem r_eff {Q : Mem → Prop} {P k t f : Nat} {g ρ : Mem} (h : RQ P g ρ) (hd : DQ P g) (ht : TI P g) (hp : 0 < P) (htt : t < 8) {e : Int32} (he : g 16 t = e) (hf : 3 * P + 1 ≤ f) (hq : ∀ ρ' f', f ≤ f' + 3 * P + 1 → RQ P (if e = 1 then fsts g 12 else g) ρ' → Fr ρ ρ' → vl_X8_works Q f' 0 ρ' (nI (k + 1)) 0 0) : vl_X8_works Q f 1 ρ (nI k) (nI t) 0 := by
  have hP := h.1.1
  by_cases c : e = 1
  · subst c
    rw [if_pos rfl] at hq
    have st : ∀ j i f ρ, i + j = 3 * P → j + 1 ≤ f → RQ P (fsts g i) ρ → (∀ ρ' f', f ≤ f' + j + 1 → RQ P (fsts g 12) ρ' → Fr ρ ρ' → vl_X8_works Q f' 0 ρ' (nI (k + 1)) 0 0) → vl_X8_works Q f 1 ρ (nI k) (nI t) (nI i) := by
      intro j
      induction j with
      | zero =>
        intro i f ρ hij hf h hq
        obtain ⟨f, rfl⟩ : ∃ m, f = m + 1 := ⟨f - 1, by omega⟩
        show vb_X8_works_137 Q (vl_X8_works Q f) ρ (nI k) (nI t) (nI i)
        refine r_workers h.1 ?_
        refine br_t (gec (a := i) (b := 3 * P) (by omega)) (nm_e ?_)
        rw [nI_1]
        have e12 := fsts_all hP hd ht (12 - 3 * P) (by omega)
        rw [show 3 * P + (12 - 3 * P) = 12 by omega, ← show i = 3 * P by omega] at e12
        exact hq ρ f (by omega) (by rw [e12]; exact h) Fr.rfl'
      | succ j ih =>
        intro i f ρ hij hf h hq
        obtain ⟨f, rfl⟩ : ∃ m, f = m + 1 := ⟨f - 1, by omega⟩
        have hi := dq_fsts hP hd ht i (by omega)
        show vb_X8_works_137 Q (vl_X8_works Q f) ρ (nI k) (nI t) (nI i)
        refine r_workers h.1 ?_
        refine br_f (ltc (a := i) (b := 3 * P) (by omega)) (r_ofTask 3 htt (by omega) ?_)
        rw [h.1.r 16 t (j := 112 + 5 * t + 3) (by simp [liv]; omega) rfl, fsts_n _ (by omega) (by omega) (by omega) (by omega), he]
        refine ⟨fun q => absurd rfl q, fun _ => r_of 2 (by omega) (by omega) ?_⟩
        rw [h.1.r 7 i (j := 28 + 7 * i + 2) (by simp [liv]; omega) rfl]
        by_cases c : fsts g i 7 i ≤ 0
        · have e1 : fsts g (i + 1) = fsts g i := if_pos c
          refine ⟨fun _ => nm_e ?_, fun q => absurd c q⟩
          rw [nI_1]
          exact ih (i + 1) f ρ (by omega) (by omega) (by rw [e1]; exact h) (fun ρ' f' hf' => hq ρ' f' (by omega))
        · have e1 : fsts g (i + 1) = due1 (fl1 (fsts g i) i) i := if_neg c
          refine ⟨fun q => absurd q c, fun _ => r_flips h hi.1 hi.2 (by omega) (fun q => c (by rw [q]; exact Int32.le_refl _)) (fun ρ1 h1 f1 => nm_e ?_)⟩
          rw [nI_1]
          exact ih (i + 1) f ρ1 (by omega) (by omega) (by rw [e1]; exact h1) (fun ρ' f' hf' hr fr => hq ρ' f' (by omega) hr (f1.tr fr))
    exact st (3 * P) 0 f ρ (by omega) hf h hq
  · rw [if_neg c] at hq
    obtain ⟨f, rfl⟩ : ∃ m, f = m + 1 := ⟨f - 1, by omega⟩
    show vb_X8_works_137 Q (vl_X8_works Q f) ρ (nI k) (nI t) 0
    refine r_workers h.1 ?_
    refine br_f (ltc (a := 0) (b := 3 * P) (by omega)) (r_ofTask 3 htt (by omega) ?_)
    rw [h.1.r 16 t (j := 112 + 5 * t + 3) (by simp [liv]; omega) rfl, he]
    refine ⟨fun _ => nm_e ?_, fun q => absurd q c⟩
    rw [nI_1]
    exact hq ρ f (by omega) h Fr.rfl'
theorem r_body {Q : Mem → Prop} {P k w f : Nat} {g ρ : Mem} (h : RQ P g ρ) (hd : DQ P g) (ht : TI P g) (hp : PT g) (hk : k < 12) (hw : w < 3 * P) (hr : rng (g 6 w) (g 12 0)) (e6 : ρ 6 k = nI w) (hgt : ¬ ρ 0 9 ≤ nI k) (hf : 3 * P + 1 ≤ f) (hq : ∀ ρ' f', f ≤ f' + 3 * P + 1 → RQ P (dn1 g w) ρ' → Fr ρ ρ' → vl_X8_works Q f' 0 ρ' (nI (k + 1)) 0 0) : vl_X8_works Q (f + 1) 0 ρ (nI k) 0 0 := by
  have hP := h.1.1
  obtain ⟨P', T, C, hP', hT, hC, e1, e2, e3⟩ := hp
  have hr' := hr
  rw [e2] at hr'
  obtain ⟨t, htT, et⟩ := rng_nat (by omega) hr'
  have ht8 : t < 8 := by omega
  unfold dn1 at hq
  rw [if_pos hr, et, nI_clamp (by omega)] at hq
  refine br_f hgt ⟨vp_in_nI (by omega) (by omega), nm_e ?_⟩
  rw [nI_clamp (by omega), e6]
  refine r_of 1 (by omega) (by omega) ?_
  rw [h.1.r 6 w (j := 28 + 7 * w + 1) (by simp [liv]; omega) rfl, et, show nI w / 3 = nI (w / 3) from div3 (by omega)]
  rw [show ((28 : Int32) + 7 * nI w) + 3 = nI (28 + 7 * w + 3) from i7 w 3, show ((8 : Int32) + 5 * nI (w / 3)) + 4 = nI (8 + 5 * (w / 3) + 4) from i8 _ 4, show ((8 : Int32) + 5 * nI (w / 3)) + 3 = nI (8 + 5 * (w / 3) + 3) from i8 _ 3, show ((112 : Int32) + 5 * nI t) + 4 = nI (112 + 5 * t + 4) from i5 _ 4, nI_clamp (n := 28 + 7 * w + 3) (by omega), nI_clamp (n := 8 + 5 * (w / 3) + 4) (by omega), nI_clamp (n := 8 + 5 * (w / 3) + 3) (by omega), nI_clamp (n := 112 + 5 * t + 4) (by omega), show (4 : Int32).toNatClampNeg = 4 from rfl]
  refine ⟨vp_in_nI (by omega) (by omega), fun ρ1 g1 => ⟨vp_in_nI (by omega) (by omega), fun ρ2 g2 => ⟨vp_in_nI (by omega) (by omega), fun ρ3 g3 => fun ρ4 g4 => ?_⟩⟩⟩
  have s1 : ρ1 1 = upd (ρ 1) (28 + 7 * w + 3) (ρ 1 (28 + 7 * w + 3) + 1) := by rw [g1, up_s]
  have s2 : ρ2 1 = upd (ρ1 1) (8 + 5 * (w / 3) + 4) (ρ1 1 (8 + 5 * (w / 3) + 4) + 1) := by rw [g2, up_s]
  have s3 : ρ3 1 = upd (ρ2 1) (112 + 5 * t + 4) (ρ2 1 (112 + 5 * t + 4) + 1) := by rw [g3, up_s]
  have s4 : ρ4 1 = upd (ρ3 1) 4 (ρ3 1 4 + 1) := by rw [g4, up_s]
  have R4 : RR P (wrk g w t) ρ4 := ⟨hP, h.1.2.1, rel_wk h.1.2.2 hP hw ht8 s1 s2 s3 s4⟩
  have f4 : Fr ρ ρ4 := by rw [g4, g3, g2, g1]; exact (fr_1 _ _ _).tr ((fr_1 _ _ _).tr ((fr_1 _ _ _).tr (fr_1 _ _ _)))
  have z0 : ρ4 0 = ρ 0 := by rw [g4, g3, g2, g1]; simp only [up_n _ _ _ (show 0 ≠ 1 by omega)]
  have z6 : ρ4 6 = ρ 6 := by rw [g4, g3, g2, g1]; simp only [up_n _ _ _ (show 6 ≠ 1 by omega)]
  clear g1 g2 g3 g4
  refine r_ofTask 2 ht8 (by omega) ?_
  rw [R4.r 15 t (j := 112 + 5 * t + 2) (by simp [liv]; omega) rfl, show wrk g w t 15 t = g 15 t from rfl]
  refine r_gains R4 (by omega) (fun ρ5 R5 f5 y0 y6 => ⟨vp_in_nI (by omega) (by omega), r_ofTask 3 ht8 (by omega) ?_⟩)
  have dg := dq_gw hd ht w t (w / 3) (g 15 t)
  have e16 : gain (wrk g w t) (w / 3) (g 15 t) 16 t = g 16 t := by rw [gain_n _ _ _ (by omega) (by omega)]; rfl
  have e06 : gain (wrk g w t) (w / 3) (g 15 t) 0 6 = g 0 6 := by rw [gain_n _ _ _ (by omega) (by omega)]; rfl
  have e21 : gain (wrk g w t) (w / 3) (g 15 t) 21 = g 21 := by rw [gain_n _ _ _ (by omega) (by omega)]; rfl
  have Q5 : RQ P (gain (wrk g w t) (w / 3) (g 15 t)) ρ5 := h.of R5 e06 e21 (by rw [y0, z0]) (by rw [y6, z6])
  rw [R5.r 16 t (j := 112 + 5 * t + 3) (by simp [liv]; omega) rfl, e16]
  unfold eff at hq
  by_cases c : g 16 t = 2
  · rw [if_neg (by rw [c]; decide), if_pos c] at hq
    refine ⟨fun q => absurd c q, fun _ => nm_e ?_⟩
    have e3p : ρ5 1 (8 + 5 * (w / 3) + 3) = gain (wrk g w t) (w / 3) (g 15 t) 3 (w / 3) := R5.r 3 (w / 3) (by simp [liv]; omega) rfl
    rw [e3p]
    have R6 : RR P (ptp (gain (wrk g w t) (w / 3) (g 15 t)) (w / 3)) _ := R5.w 3 (w / 3) (gain (wrk g w t) (w / 3) (g 15 t) 3 (w / 3) + 1) (by simp [liv]; omega) rfl (by omega) (by omega) (by omega)
    refine r_eff (e := 2) (Q5.of R6 rfl rfl ?_ ?_) (dg.1.of rfl rfl rfl rfl rfl) (dg.2.of rfl rfl rfl) (by omega) ht8 (by rw [← c, ← e16]; rfl) hf (fun ρ' f' hf' hr fr => hq ρ' f' hf' (by rw [if_neg (by decide)] at hr; exact hr) (f4.tr (f5.tr ((fr_1 _ _ _).tr fr))))
    · rw [up_n _ _ _ (show 0 ≠ 1 by omega)]
    · rw [up_n _ _ _ (show 6 ≠ 1 by omega)]
  · refine ⟨fun _ => nm_e ?_, fun q => absurd q c⟩
    rw [up_id (by rw [Int32.add_zero])]
    refine r_eff (e := g 16 t) Q5 dg.1 dg.2 (by omega) ht8 e16 hf (fun ρ' f' hf' hr fr => hq ρ' f' hf' ?_ (f4.tr (f5.tr fr)))
    rw [if_neg c]
    exact hr
