theorem sec_up (μ : Mem) (k : Int32) {c : Nat} (f : Nat) (v : Int32) (h : c ≠ 0) : sec (up μ c f v) k = up (sec μ k) c f v := by
  unfold sec
  rw [up_n _ _ _ (Ne.symm h), up_comm _ _ _ _ _ h]
theorem sec_due1 (μ : Mem) (k : Int32) (w : Nat) : sec (due1 μ w) k = due1 (sec μ k) w := by
  funext a b
  rw [due1_at]
  unfold sec
  simp only [up_at, due1_at]
  grind
theorem r_goes {Q : Mem → Prop} {P : Nat} {g ρ : Mem} (h : RR P g ρ) (h0 : g 0 6 = 0) (gs : GS g) (ht : TI P g) (hp : PT g) (hq : ∀ ρ', RR P (stp g P 1).2 ρ' → Fr ρ ρ' → (sec (tks g 1 (3 * P)) 1 0 6 = 0 → ρ' 0 9 = 0) → (∀ n, 1 ≤ n → n ≤ 12 → sec (tks g 1 (3 * P)) 1 0 6 = nI n → ¬ ρ' 0 9 = 0 ∧ ρ' 6 0 = sec (tks g 1 (3 * P)) 1 21 0) → Q ρ') : vc_X8_goes Q ρ := by
  have hP := h.1
  have st : ∀ j i ρ f, i + j = 3 * P → 2 * j + 1 ≤ f → RQ P (sec (tks g 1 i) 1) ρ → (∀ ρ', RR P (stp g P 1).2 ρ' → Fr ρ ρ' → (sec (tks g 1 (3 * P)) 1 0 6 = 0 → ρ' 0 9 = 0) → (∀ n, 1 ≤ n → n ≤ 12 → sec (tks g 1 (3 * P)) 1 0 6 = nI n → ¬ ρ' 0 9 = 0 ∧ ρ' 6 0 = sec (tks g 1 (3 * P)) 1 21 0) → Q ρ') → vl_X8_goes Q f 0 ρ (nI i) 0 0 0 := by
    intro j
    induction j with
    | zero =>
      intro i ρ f hij hf h hq
      obtain ⟨f, rfl⟩ : ∃ m, f = m + 1 := ⟨f - 1, by omega⟩
      have hi : i = 3 * P := by omega
      subst hi
      show vb_X8_goes_17 Q (vl_X8_goes Q f) ρ (nI (3 * P))
      refine r_workers h.1 ?_
      refine br_t (gec (a := 3 * P) (b := 3 * P) (by omega)) ?_
      have hd := dq_tks (k := 1) hP (dq_0 h0) ht (3 * P) (by omega)
      refine r_works h (hd.1.of ?_ ?_ ?_ ?_ ?_) (hd.2.of ?_ ?_ ?_) ?_ (fun ρ' g' q1 q2 q3 q4 fr => hq ρ' ?_ fr ?_ ?_)
      iterate 4 exact sec_n _ _ (by omega)
      · unfold sec; rw [up_at, if_neg (by omega)]
      iterate 3 exact sec_n _ _ (by omega)
      · exact hp.of (by rw [sec_n _ _ (by omega), tks_n _ _ (by omega) (by omega) (by omega) (by omega)]) (by rw [sec_n _ _ (by omega), tks_n _ _ (by omega) (by omega) (by omega) (by omega)]) (by rw [sec_n _ _ (by omega), tks_n _ _ (by omega) (by omega) (by omega) (by omega)])
      · show RR P (finD 12 (sec (tks g 1 (3 * P)) 1) 0).2 ρ'
        rw [q3]
        refine q2.1.of (fun c f hl => ?_) (up_n _ _ _ (by omega)) (up_n _ _ _ (by omega))
        rw [up_at, if_neg (fun q => by rw [q.1, q.2] at hl; simp [liv] at hl)]
      · intro z
        rw [q2.2.1, q4 z]
        exact z
      · intro n hn hn12 e
        obtain ⟨m, a, b, c, d⟩ := q1 n hn12 e
        refine ⟨?_, ?_⟩
        · rw [q2.2.1, c]
          intro z
          have := nI_clamp (n := m) (by omega)
          rw [z] at this
          have : m = 0 := this.symm.trans rfl
          omega
        · rw [q2.2.2 m b c 0 (by omega)]
          exact d 0 (by omega)
    | succ j ih =>
      intro i ρ f hij hf h hq
      obtain ⟨f, rfl⟩ : ∃ m, f = m + 2 := ⟨f - 2, by omega⟩
      have hi12 : i < 12 := by omega
      have r7 : ρ 1 (28 + 7 * i + 2) = g 7 i := by
        rw [h.1.r 7 i (j := 28 + 7 * i + 2) (by simp [liv]; omega) rfl, sec_n _ _ (by omega), tks_ge _ _ (by omega) i (by omega)]
      have r10 : ρ 1 (28 + 7 * i + 4) = sec (tks g 1 i) 1 10 i := h.1.r 10 i (j := 28 + 7 * i + 4) (by simp [liv]; omega) rfl
      have g7 : tks g 1 i 7 i = g 7 i := tks_ge _ _ (by omega) i (by omega)
      show vb_X8_goes_17 Q (vl_X8_goes Q (f + 1)) ρ (nI i)
      refine r_workers h.1 ?_
      refine br_f (ltc (a := i) (b := 3 * P) (by omega)) ⟨by rw [show (4 : Int32) = nI 4 from rfl, i7]; exact vp_in_nI (by omega) (by omega), r_of 2 (by omega) (by omega) ?_⟩
      rw [r7, show ((28 : Int32) + 7 * nI i) + 4 = nI (28 + 7 * i + 4) from i7 i 4, nI_clamp (by omega), r10]
      by_cases c : g 7 i = 0
      · refine ⟨fun q => absurd c q, fun _ => ?_⟩
        show vb_X8_goes_54 Q (vl_X8_goes Q f) ρ (nI i) (nI (28 + 7 * i + 4)) _ 1
        refine ⟨vp_in_nI (by omega) (by omega), nm_e (r_of 2 (by omega) (by omega) ?_)⟩
        rw [nI_clamp (by omega)]
        have R := h.1.w 10 i (j := 28 + 7 * i + 4) (sec (tks g 1 i) 1 10 i + 1) (by simp [liv]; omega) rfl (by omega) (by omega) (by omega)
        rw [up_s, pk_un (by omega), r7, c]
        refine ⟨fun _ => nm_e ?_, fun q => absurd (Int32.le_refl _) q⟩
        rw [nI_1]
        have e1 : sec (tks g 1 (i + 1)) 1 = up (sec (tks g 1 i) 1) 10 i (sec (tks g 1 i) 1 10 i + 1) := by
          show sec (tk1 (tks g 1 i) 1 i) 1 = _
          unfold tk1
          rw [if_pos (g7.trans c), sec_up _ _ _ _ (by omega), sec_n _ _ (show 10 ≠ 0 by omega)]
        refine ih (i + 1) _ f (by omega) (by omega) ?_ (fun ρ' a b => hq ρ' a ((fr_1 _ _ _).tr b))
        rw [e1]
        exact h.of R rfl rfl rfl rfl
      · refine ⟨fun _ => ?_, fun q => absurd q c⟩
        obtain ⟨z, a, e5, e7, haz, hz⟩ := gs i hi12
        have ha : a ≠ 0 := fun q => c (by rw [e7, q]; rfl)
        show vb_X8_goes_54 Q (vl_X8_goes Q f) ρ (nI i) (nI (28 + 7 * i + 4)) _ 0
        refine ⟨vp_in_nI (by omega) (by omega), nm_e (r_of 2 (by omega) (by omega) ?_)⟩
        rw [nI_clamp (by omega), up_id (by rw [r10, Int32.add_zero]), r7, e7]
        have e1 : nI a - 1 = nI (a - 1) := by rw [show (1 : Int32) = nI 1 from rfl, nI_sub (by omega)]
        refine ⟨fun q => absurd ((nI_leI (a := a) (b := 0) (by omega) (by omega)).mp q) (by omega), fun _ => ⟨by rw [show (2 : Int32) = nI 2 from rfl, i7]; exact vp_in_nI (by omega) (by omega), nm_e (r_of 2 (by omega) (by omega) ?_)⟩⟩
        rw [show ((28 : Int32) + 7 * nI i) + 2 = nI (28 + 7 * i + 2) from i7 i 2, nI_clamp (by omega), r7, e7, e1, up_s, pk_us]
        have R := h.1.w 7 i (j := 28 + 7 * i + 2) (nI (a - 1)) (by simp [liv]; omega) rfl (by omega) (by omega) (by omega)
        have e2 : sec (tks g 1 (i + 1)) 1 = due1 (up (sec (tks g 1 i) 1) 7 i (nI (a - 1))) i := by
          show sec (tk1 (tks g 1 i) 1 i) 1 = _
          unfold tk1
          rw [g7, if_neg c, sec_due1, sec_up _ _ _ _ (by omega), e7, e1]
          congr 2
          split
          · rfl
          · next q =>
            have : ¬ 0 < a - 1 := fun z => q (nI_lt (a := 0) z (by omega))
            rw [show a - 1 = 0 by omega]
            rfl
        have q1 : RQ P (up (sec (tks g 1 i) 1) 7 i (nI (a - 1))) (up ρ 1 (28 + 7 * i + 2) (nI (a - 1))) := h.of R rfl rfl (by rw [up_n _ _ _ (show 0 ≠ 1 by omega)]) (up_n _ _ _ (by omega))
        refine ⟨fun q => nm_e ?_, fun q => ?_⟩
        · rw [nI_1]
          refine ih (i + 1) _ f (by omega) (by omega) ?_ (fun ρ' a b => hq ρ' a ((fr_1 _ _ _).tr b))
          rw [e2, due1_ne (by rw [up_s, pk_us]; exact q)]
          exact q1
        · have hd := dq_tks (k := 1) hP (dq_0 h0) ht i (by omega)
          have dst := dq_step (g' := up (sec (tks g 1 i) 1) 7 i (nI (a - 1))) (v := nI (a - 1)) hP hi12 hd.1 hd.2 (by rw [g7]; exact c) (by rw [up_s, sec_n _ _ (by omega)]) (by rw [up_n _ _ _ (by omega), sec_n _ _ (by omega)]) (by rw [up_n _ _ _ (by omega), sec_n _ _ (by omega)]) (by rw [up_n _ _ _ (by omega), sec_n _ _ (by omega)]) (by rw [up_n _ _ _ (by omega)]; unfold sec; rw [up_at, if_neg (by omega)])
          obtain ⟨n, hn, en⟩ := dst.2.2
          have e9 : up ρ 1 (28 + 7 * i + 2) (nI (a - 1)) 0 9 = nI n := q1.2.1.trans en
          rw [e9, nI_clamp (by omega)]
          refine ⟨vp_in_nI (by omega) (by omega), nm_e (nm_e (nm_e ?_))⟩
          rw [nI_1]
          refine ih (i + 1) _ f (by omega) (by omega) ?_ (fun ρ' a b => hq ρ' a ((fr_1 _ _ _).tr ((fr_6 _ _ _).tr ((fr_9 _ _).tr b))))
          rw [e2]
          exact rq_push q1 hn en (by rw [up_s, pk_us]; exact q)
  refine ⟨2 * (3 * P) + 1, fun ρ1 e1 => fun ρ2 e2 => ?_⟩
  have R1 : RR P g ρ1 := h.fr (by rw [e1, up_n _ _ _ (show 1 ≠ 0 by omega)])
  have R2 : RR P (sec g 1) ρ2 := by
    rw [e2, show (3 : Int32).toNatClampNeg = 3 from rfl, R1.r 0 0 (j := 3) (by simp [liv]) rfl]
    exact R1.w 0 0 (g 0 0 + 1) (by simp [liv]) rfl (by omega) (by omega) (by omega)
  refine st (3 * P) 0 ρ2 _ (by omega) (by omega) ⟨R2, ?_, fun n hn e j hj => ?_⟩ (fun ρ' a b => hq ρ' a ?_)
  · show ρ2 0 9 = up g 0 0 _ 0 6
    rw [up_at, if_neg (by omega), h0, e2, up_n _ _ _ (show 0 ≠ 1 by omega), e1, up_at, if_pos ⟨rfl, rfl⟩]
  · have : sec (tks g 1 0) 1 0 6 = 0 := by show up g 0 0 _ 0 6 = _; rw [up_at, if_neg (by omega), h0]
    rw [this] at e
    have q := nI_clamp (n := n) (by omega)
    rw [← e] at q
    have : n = 0 := q.symm.trans rfl
    omega
  · rw [e2, e1] at b
    exact (fr_9 _ _).tr ((fr_1 _ _ _).tr b)
