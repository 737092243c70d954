/-! the questions that change nothing: class and reference side by side -/
theorem sme {a b : Int32} {K : Prop} (e : a = b) (h : K) : (a = b → K) ∧ (¬ a = b → False) := ⟨fun _ => h, fun q => q e⟩
/-- how many glasses of a player are out -/
def outs (γ : Mem) (p : Nat) : Nat → Int32
  | 0 => 0
  | n + 1 => if γ 7 (3 * p + n) = 0 then outs γ p n + 1 else outs γ p n
theorem s_outOf {Q : Int32 → Prop} {γ : Mem} {p : Nat} (hp : p < 4) (h : Q (outs γ p 3)) : vc_X2_outOf Q γ (nI p) := by
  have st : ∀ n k, k < 3 → vl_X2_outOf Q γ n 0 (nI p) (outs γ p (k + 1)) (nI (k + 1)) → vl_X2_outOf Q γ (n + 1) 0 (nI p) (outs γ p k) (nI k) := by
    intro n k hk h1
    refine br_f (ltc (a := k) (b := 3) hk) (s_gl ?_)
    rw [i3]
    refine s_isOut (by omega) ?_
    unfold outs at h1
    by_cases c : γ 7 (3 * p + k) = 0
    · rw [if_pos c] at h1 ⊢
      exact ⟨fun q => absurd q (by decide), fun _ => nm_e (nm_e (by rw [nI_1]; exact h1))⟩
    · rw [if_neg c] at h1 ⊢
      exact ⟨fun _ => nm_e (by rw [nI_1]; exact h1), fun q => absurd rfl q⟩
  exact ⟨4, st 3 0 (by omega) (st 2 1 (by omega) (st 1 2 (by omega) (br_t (gec (a := 3) (b := 3) (by omega)) h)))⟩
theorem r_outs {Q : Int32 → Prop} {P p : Nat} {γ ρ : Mem} (h : RR P γ ρ) (hp : p < P) (hq : Q (outs γ p 3)) : vc_X8_outs Q ρ (nI p) := by
  have hP := h.1
  have e3 : (3 : Int32) * nI p + 3 = nI (3 * p + 3) := i3 p 3
  have st : ∀ n k, k < 3 → vl_X8_outs Q ρ n 0 (nI p) (outs γ p (k + 1)) (nI (3 * p + (k + 1))) → vl_X8_outs Q ρ (n + 1) 0 (nI p) (outs γ p k) (nI (3 * p + k)) := by
    intro n k hk h1
    refine br_f (by rw [e3]; exact ltc (a := 3 * p + k) (b := 3 * p + 3) (by omega)) (r_of 2 (by omega) (by omega) ?_)
    rw [h.r 7 (3 * p + k) (j := 28 + 7 * (3 * p + k) + 2) (by simp [liv]; omega) rfl]
    unfold outs at h1
    by_cases c : γ 7 (3 * p + k) = 0
    · rw [if_pos c] at h1
      exact ⟨fun q => absurd c q, fun _ => nm_e (nm_e (by rw [nI_1]; exact h1))⟩
    · rw [if_neg c] at h1
      exact ⟨fun _ => nm_e (nm_e (by rw [nI_1, Int32.add_zero]; exact h1)), fun q => absurd q c⟩
  refine ⟨4, nm_e ?_⟩
  rw [show (3 : Int32) * nI p = nI (3 * p + 0) from by rw [show (3 : Int32) = nI 3 from rfl, pk_mul]; rfl]
  exact st 3 0 (by omega) (st 2 1 (by omega) (st 1 2 (by omega) (br_t (by rw [e3]; exact gec (a := 3 * p + 3) (b := 3 * p + 3) (by omega)) hq)))
def sum3 (γ : Mem) (a p : Nat) : Int32 := γ a (3 * p) + γ a (3 * p + 1) + γ a (3 * p + 2)
theorem s_sumOf {Q : Int32 → Prop} {γ : Mem} {a p : Nat} (hp : p < 4) (h : Q (sum3 γ a p)) : vc_X2_sumOf Q γ a (nI p) := by
  have st : ∀ n k v, k < 3 → vl_X2_sumOf Q γ a n 0 (nI p) (v + γ a (3 * p + k)) (nI (k + 1)) → vl_X2_sumOf Q γ a (n + 1) 0 (nI p) v (nI k) := by
    intro n k v hk h1
    refine br_f (ltc (a := k) (b := 3) hk) (s_gl ?_)
    rw [i3, nI_clamp (by omega)]
    exact ⟨vp_in_nI (by omega) (by omega), nm_e (nm_e (by rw [nI_1]; exact h1))⟩
  refine ⟨4, st 3 0 0 (by omega) (st 2 1 _ (by omega) (st 1 2 _ (by omega) (br_t (gec (a := 3) (b := 3) (by omega)) ?_)))⟩
  rw [Int32.zero_add]
  exact h
theorem s_sumOfAll {Q : Int32 → Prop} {γ : Mem} {a : Nat} (h : Q (sm (γ a) 12)) : vc_X2_sumOfAll Q γ a := by
  have st : ∀ k n, n + k = 12 → vl_X2_sumOfAll Q γ a (k + 1) 0 (sm (γ a) n) (nI n) := by
    intro k
    induction k with
    | zero =>
      intro n hn
      refine br_t (gec (a := n) (b := 12) (by omega)) ?_
      rw [show n = 12 by omega]; exact h
    | succ k ih =>
      intro n hn
      refine br_f (ltc (a := n) (b := 12) (by omega)) ⟨vp_in_nI (by omega) (by omega), nm_e (nm_e ?_)⟩
      rw [nI_1, nI_clamp (by omega)]
      exact ih (n + 1) (by omega)
  exact ⟨13, st 12 0 rfl⟩
theorem r_waited {Q : Int32 → Prop} {P p : Nat} {γ ρ : Mem} (h : RR P γ ρ) (hp : p < P) (hq : Q (sum3 γ 10 p)) : vc_X8_waited Q ρ (nI p) := by
  have hP := h.1
  unfold vc_X8_waited
  rw [show (3 : Int32) * nI p + 2 = nI (3 * p + 2) from i3 p 2, show (3 : Int32) * nI p + 1 = nI (3 * p + 1) from i3 p 1, show (3 : Int32) * nI p = nI (3 * p) from by rw [show (3 : Int32) = nI 3 from rfl, pk_mul]]
  refine r_of 4 (by omega) (by omega) (r_of 4 (by omega) (by omega) (r_of 4 (by omega) (by omega) ?_))
  rw [h.r 10 (3 * p) (j := 28 + 7 * (3 * p) + 4) (by simp [liv]; omega) rfl, h.r 10 (3 * p + 1) (j := 28 + 7 * (3 * p + 1) + 4) (by simp [liv]; omega) rfl, h.r 10 (3 * p + 2) (j := 28 + 7 * (3 * p + 2) + 4) (by simp [liv]; omega) rfl]
  exact hq
theorem q_workerOf {K : Prop} {P : Nat} {ξ γ τ η ο ρ : Mem} {σ : Nat → Mem} {x y z : Int32} (h : RR P γ ρ) (hp : PT γ) (ho : HO γ) (hk : K) :
    vc_X7_workerOf (fun r => vc_X8_workerOf (fun r' => (r = r' → K) ∧ (¬ r = r' → False)) ρ x y z) ξ γ τ η σ ο x y z := by
  have hP := h.1
  refine s_hasW hp ?_
  by_cases c : isW γ x y
  · rw [if_pos c]
    obtain ⟨p, k, hp', hk', ex, ey, e3, eg⟩ := gl_spec hP h.2.1 c
    refine ⟨fun q => absurd q (by decide), fun _ => ?_⟩
    rw [e_win]
    by_cases c2 : 0 ≤ z ∧ z ≤ 5
    · rw [if_pos c2]
      refine ⟨fun _ => s_gl ?_, fun q => absurd q (by decide)⟩
      rw [e3, nI_clamp (by omega)]
      obtain ⟨j, hj, ej⟩ := nat_le (m := 5) (by omega) c2.1 c2.2
      have rf : ∀ v : Int32, (j ≠ 1 → v = ρ 1 (28 + 7 * (3 * p + k) + j)) → (j = 1 → v = if 0 ≤ ρ 1 (28 + 7 * (3 * p + k) + 1) then ρ 1 (28 + 7 * (3 * p + k) + 1) else -1000004) → vc_X8_workerOf (fun r' => (v = r' → K) ∧ (¬ v = r' → False)) ρ x y z := by
        intro v h1 h2
        refine r_isW h ?_
        rw [if_pos c]
        refine ⟨fun q => absurd q (by decide), fun _ => ?_⟩
        rw [e_rin, if_pos c2]
        refine ⟨fun _ => ?_, fun q => absurd q (by decide)⟩
        rw [e3, ej]
        refine r_of j (by omega) (by omega) ?_
        by_cases cj : j = 1
        · subst cj
          have := h2 rfl
          refine ⟨fun q => absurd rfl q, fun _ => ⟨fun q => ?_, fun q => ?_⟩⟩
          · rw [if_pos q] at this; exact sme this hk
          · rw [if_neg q] at this; exact sme this hk
        · have n1 : ¬ nI j = 1 := by
            intro q
            have := nI_clamp (n := j) (by omega)
            rw [q] at this
            exact cj this.symm
          exact ⟨fun _ => sme (h1 cj) hk, fun q => absurd q n1⟩
      have vi : vp_in (nI (3 * p + k)) 12 := vp_in_nI (by omega) (by omega)
      have h6 := h.r 6 (3 * p + k) (j := 28 + 7 * (3 * p + k) + 1) (by simp [liv]; omega) rfl
      rcases (show j = 0 ∨ j = 1 ∨ j = 2 ∨ j = 3 ∨ j = 4 ∨ j = 5 by omega) with rfl | rfl | rfl | rfl | rfl | rfl
      · rw [show z = 0 from ej] at rf ⊢
        exact br_t rfl ⟨vi, rf _ (fun _ => (h.r 5 (3 * p + k) (by simp [liv]; omega) rfl).symm) (fun q => absurd q (by decide))⟩
      · rw [show z = 1 from ej] at rf ⊢
        refine br_f (by decide) (br_t rfl ⟨vi, fun q => rf _ (fun q => absurd rfl q) (fun _ => ?_), fun q => rf _ (fun q => absurd rfl q) (fun _ => ?_)⟩)
        · rw [h6]
          rcases ho (3 * p + k) (by omega) with e | ⟨t, ht, e⟩
          · exact absurd e q
          · rw [e, if_pos (nI_pos' (by omega))]
        · rw [h6, q, if_neg (by decide)]
      · rw [show z = 2 from ej] at rf ⊢
        exact br_f (by decide) (br_f (by decide) (br_t rfl ⟨vi, rf _ (fun _ => (h.r 7 (3 * p + k) (by simp [liv]; omega) rfl).symm) (fun q => absurd q (by decide))⟩))
      · rw [show z = 3 from ej] at rf ⊢
        exact br_f (by decide) (br_f (by decide) (br_f (by decide) (br_t rfl ⟨vi, rf _ (fun _ => (h.r 9 (3 * p + k) (by simp [liv]; omega) rfl).symm) (fun q => absurd q (by decide))⟩)))
      · rw [show z = 4 from ej] at rf ⊢
        exact br_f (by decide) (br_f (by decide) (br_f (by decide) (br_f (by decide) (br_t rfl ⟨vi, rf _ (fun _ => (h.r 10 (3 * p + k) (by simp [liv]; omega) rfl).symm) (fun q => absurd q (by decide))⟩))))
      · rw [show z = 5 from ej] at rf ⊢
        exact br_f (by decide) (br_f (by decide) (br_f (by decide) (br_f (by decide) (br_f (by decide) ⟨vi, rf _ (fun _ => (h.r 11 (3 * p + k) (by simp [liv]; omega) rfl).symm) (fun q => absurd q (by decide))⟩))))
    · rw [if_neg c2]
      refine ⟨fun q => absurd rfl q, fun _ => r_isW h ?_⟩
      rw [if_pos c]
      refine ⟨fun q => absurd q (by decide), fun _ => ?_⟩
      rw [e_rin, if_neg c2]
      exact ⟨fun q => absurd rfl q, fun _ => sme rfl hk⟩
  · rw [if_neg c]
    refine ⟨fun _ => r_isW h ?_, fun q => absurd rfl q⟩
    rw [if_neg c]
    exact ⟨fun _ => sme rfl hk, fun q => absurd rfl q⟩
theorem q_taskOf {K : Prop} {P T : Nat} {ξ γ τ η ο ρ : Mem} {σ : Nat → Mem} {x z : Int32} (h : RR P γ ρ) (ha : AT P γ) (hp : PT γ) (hT : T ≤ 8) (eT : γ 12 0 = nI T) (hk : K) :
    vc_X7_taskOf (fun r => vc_X8_taskOf (fun r' => (r = r' → K) ∧ (¬ r = r' → False)) ρ x z) ξ γ τ η σ ο x z := by
  have hP := h.1
  refine s_hasTask hp ?_
  by_cases c : rng x (γ 12 0)
  · rw [if_pos c]
    have c' := c
    rw [eT] at c'
    obtain ⟨t, ht, et⟩ := rng_nat (by omega) c'
    refine ⟨fun q => absurd q (by decide), fun _ => ?_⟩
    rw [e_win]
    by_cases c2 : 0 ≤ z ∧ z ≤ 5
    · rw [if_pos c2]
      refine ⟨fun _ => ?_, fun q => absurd q (by decide)⟩
      obtain ⟨j, hj, ej⟩ := nat_le (m := 5) (by omega) c2.1 c2.2
      have rf : ∀ v : Int32, (j < 4 → v = ρ 1 (112 + 5 * t + j)) → (j = 5 → v = ρ 1 (112 + 5 * t + 4)) → (j = 4 → v = lft γ t) → vc_X8_taskOf (fun r' => (v = r' → K) ∧ (¬ v = r' → False)) ρ x z := by
        intro v h1 h2 h3
        refine r_isT h ?_
        rw [if_pos c]
        refine ⟨fun q => absurd q (by decide), fun _ => ?_⟩
        rw [e_rin, if_pos c2]
        refine ⟨fun _ => ?_, fun q => absurd q (by decide)⟩
        rw [et, ej]
        rcases (show j < 4 ∨ j = 4 ∨ j = 5 by omega) with hj4 | rfl | rfl
        · have n : ∀ m, 4 ≤ m → m ≤ 5 → ¬ nI j = nI m := by
            intro m _ _ q
            have := nI_clamp (n := j) (by omega)
            rw [q, nI_clamp (by omega)] at this
            omega
          exact ⟨fun _ => ⟨fun _ => r_ofTask j (by omega) (by omega) (sme (h1 hj4) hk), fun q => absurd q (n 5 (by omega) (by omega))⟩, fun q => absurd q (n 4 (by omega) (by omega))⟩
        · exact ⟨fun q => absurd rfl q, fun _ => r_left h ha (by omega) (sme (h3 rfl) hk)⟩
        · exact ⟨fun _ => ⟨fun q => absurd rfl q, fun _ => r_ofTask 4 (by omega) (by omega) (sme (h2 rfl) hk)⟩, fun q => absurd q (by decide)⟩
      have vi : vp_in x 8 := by rw [et]; exact vp_in_nI (by omega) (by omega)
      have ec : x.toNatClampNeg = t := by rw [et, nI_clamp (by omega)]
      rw [ec]
      rcases (show j = 0 ∨ j = 1 ∨ j = 2 ∨ j = 3 ∨ j = 4 ∨ j = 5 by omega) with rfl | rfl | rfl | rfl | rfl | rfl
      · rw [show z = 0 from ej] at rf ⊢
        exact br_t rfl ⟨vi, rf _ (fun _ => (h.r 13 t (by simp [liv]; omega) rfl).symm) (fun q => absurd q (by decide)) (fun q => absurd q (by decide))⟩
      · rw [show z = 1 from ej] at rf ⊢
        exact br_f (by decide) (br_t rfl ⟨vi, rf _ (fun _ => (h.r 14 t (by simp [liv]; omega) rfl).symm) (fun q => absurd q (by decide)) (fun q => absurd q (by decide))⟩)
      · rw [show z = 2 from ej] at rf ⊢
        exact br_f (by decide) (br_f (by decide) (br_t rfl ⟨vi, rf _ (fun _ => (h.r 15 t (by simp [liv]; omega) rfl).symm) (fun q => absurd q (by decide)) (fun q => absurd q (by decide))⟩))
      · rw [show z = 3 from ej] at rf ⊢
        exact br_f (by decide) (br_f (by decide) (br_f (by decide) (br_t rfl ⟨vi, rf _ (fun _ => (h.r 16 t (by simp [liv]; omega) rfl).symm) (fun q => absurd q (by decide)) (fun q => absurd q (by decide))⟩)))
      · rw [show z = 4 from ej] at rf ⊢
        refine br_f (by decide) (br_f (by decide) (br_f (by decide) (br_f (by decide) (br_t rfl ?_))))
        have := s_placesLeft (Q := fun r14 => vc_X8_taskOf (fun r' => (r14 = r' → K) ∧ (¬ r14 = r' → False)) ρ x 4) (γ := γ) (t := t) (by omega) (rf _ (fun q => absurd q (by decide)) (fun q => absurd q (by decide)) (fun _ => rfl))
        rw [← et] at this
        exact this
      · rw [show z = 5 from ej] at rf ⊢
        exact br_f (by decide) (br_f (by decide) (br_f (by decide) (br_f (by decide) (br_f (by decide) ⟨vi, rf _ (fun q => absurd q (by decide)) (fun _ => (h.r 17 t (by simp [liv]; omega) rfl).symm) (fun q => absurd q (by decide))⟩))))
    · rw [if_neg c2]
      refine ⟨fun q => absurd rfl q, fun _ => r_isT h ?_⟩
      rw [if_pos c]
      refine ⟨fun q => absurd q (by decide), fun _ => ?_⟩
      rw [e_rin, if_neg c2]
      exact ⟨fun q => absurd rfl q, fun _ => sme rfl hk⟩
  · rw [if_neg c]
    refine ⟨fun _ => r_isT h ?_, fun q => absurd rfl q⟩
    rw [if_neg c]
    exact ⟨fun _ => sme rfl hk, fun q => absurd rfl q⟩
