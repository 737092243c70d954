/-- each worker is at home or on a task -/
def HO (g : Mem) : Prop := ∀ i, i < 12 → g 6 i = -1 ∨ ∃ t, t < 8 ∧ g 6 i = nI t
theorem ai0 {a : Nat} (h : a < 2 ^ 31) (h0 : a ≠ 0) : ¬ nI a = 0 := by
  intro q
  have := nI_clamp (n := a) h
  rw [q] at this
  exact h0 this.symm
theorem r_home {Q : Int32 → Mem → Prop} {P n : Nat} {g ρ : Mem} {x y : Int32} (h : RR P g ρ) (gs : GS g) (ho : HO g) (hn : n ≤ 4) (e : ρ 0 4 = nI n) (hq : Rq Q P (o_home g x y) ρ n) : vc_X8_home Q ρ x y := by
  have hP := h.1
  unfold o_home at hq
  refine r_isW h ?_
  by_cases c : isW g x y
  · rw [if_pos c] at hq ⊢
    obtain ⟨p, k, hp', hk, ex, ey, e3, eg⟩ := gl_spec hP h.2.1 c
    refine ⟨fun _ => nm_e ?_, fun q => absurd q (by decide)⟩
    rw [e3]
    rw [eg] at hq
    obtain ⟨zz, a, g5, g7, haz, hz⟩ := gs (3 * p + k) (by omega)
    refine r_of 1 (by omega) (by omega) (r_of 2 (by omega) (by omega) ?_)
    rw [h.r 7 (3 * p + k) (j := 28 + 7 * (3 * p + k) + 2) (by simp [liv]; omega) rfl, h.r 6 (3 * p + k) (j := 28 + 7 * (3 * p + k) + 1) (by simp [liv]; omega) rfl, g7]
    rw [g7] at hq
    by_cases c3 : a = 0
    · subst c3
      rw [if_pos (show nI 0 = 0 from rfl)] at hq
      refine br_f (by decide) ?_
      rcases ho (3 * p + k) (by omega) with q | ⟨t, ht, q⟩
      · rw [q] at hq ⊢
        rw [if_pos rfl] at hq
        exact br_f (by decide) (hq.err (by decide))
      · rw [q] at hq ⊢
        rw [if_neg (nI_m1 (by omega))] at hq
        refine br_t (nI_pos' (by omega)) (r_chz hn e ?_)
        have hc := h.chz n
        rw [show ((28 : Int32) + 7 * nI (3 * p + k)) + 1 = nI (28 + 7 * (3 * p + k) + 1) from i7 _ 1, nI_clamp (by omega)]
        exact ⟨vp_in_nI (by omega) (by omega), nm_e (hq.2 (nn (by omega)) _ (hc.w 6 (3 * p + k) (-1) (by simp [liv]; omega) rfl (by omega) (by omega) (by omega)) (fr_1 _ _ _))⟩
    · rw [if_neg (ai0 (by omega) c3)] at hq
      exact br_t (nI_lt (a := 0) (by omega) (by omega)) (hq.err (by decide))
  · rw [if_neg c] at hq ⊢
    exact ⟨fun q => absurd rfl q, fun _ => hq.err (by decide)⟩
theorem AT.of {P : Nat} {g g' : Mem} (h : AT P g) (e : ∀ i, 3 * P ≤ i → i < 12 → g' 6 i = g 6 i) : AT P g' := fun i h1 h2 => (e i h1 h2).trans (h i h1 h2)
theorem r_put {Q : Int32 → Mem → Prop} {P T n : Nat} {g ρ : Mem} {x y z : Int32} (h : RR P g ρ) (ha : AT P g) (hT : T ≤ 8) (eT : g 12 0 = nI T) (hn : n ≤ 4) (e : ρ 0 4 = nI n) (hlft : ∀ w t, t < 8 → w < 3 * P → cput g w t → ¬ lft (stt (pay g (w / 3) (g 14 t)) w (nI t)) t < 0) (hq : Rq Q P (o_put g x y z) ρ n) : vc_X8_put Q ρ x y z := by
  have hP := h.1
  unfold o_put at hq
  refine r_isW h ?_
  by_cases c : isW g x y
  · rw [if_pos c] at hq ⊢
    obtain ⟨p, k, hp', hk, ex, ey, e3, eg⟩ := gl_spec hP h.2.1 c
    refine ⟨fun q => absurd q (by decide), fun _ => r_isT h ?_⟩
    by_cases c2 : rng z (g 12 0)
    · rw [if_pos c2] at hq ⊢
      rw [eT] at c2
      obtain ⟨t, ht, et⟩ := rng_nat (by omega) c2
      refine ⟨fun _ => ?_, fun q => absurd q (by decide)⟩
      rw [e3, et]
      rw [eg, et, nI_clamp (by omega)] at hq
      refine r_canPut h ha (by omega) (by omega) ?_
      by_cases c3 : cput g (3 * p + k) t
      · rw [if_pos c3] at hq ⊢
        refine ⟨fun _ => r_chz hn e (r_puts (h.chz n) (by omega) (by omega) (fun ρ' R' f' => r_left R' (ha.of fun i h1 h2 => ?_) (by omega) ?_)), fun q => absurd q (by decide)⟩
        · unfold stt
          rw [up_n _ _ _ (show 6 ≠ 4 by omega), up_n _ _ _ (show 6 ≠ 8 by omega), up_n _ _ _ (show 6 ≠ 7 by omega), up_at, if_neg (by omega), pay_n _ _ _ (by omega)]
        · exact hq.2 (hlft _ _ (by omega) (by omega) c3) ρ' R' f'
      · rw [if_neg c3] at hq ⊢
        exact ⟨fun q => absurd rfl q, fun _ => hq.err (by decide)⟩
    · rw [if_neg c2] at hq ⊢
      exact ⟨fun q => absurd rfl q, fun _ => hq.err (by decide)⟩
  · rw [if_neg c] at hq ⊢
    exact ⟨fun _ => hq.err (by decide), fun q => absurd rfl q⟩
