/-- the reference is back where it was -/
def KP (ρ ρ' : Mem) : Prop := (∀ f, f < 164 → ρ' 1 f = ρ 1 f) ∧ ρ' 2 = ρ 2 ∧ ρ' 5 = ρ 5 ∧ ρ' 0 4 = ρ 0 4 ∧ ρ' 0 5 = ρ 0 5 ∧ ρ' 0 7 = ρ 0 7
theorem KP.rfl' {ρ : Mem} : KP ρ ρ := ⟨fun _ _ => rfl, rfl, rfl, rfl, rfl, rfl⟩
theorem cpr_n (ρ : Mem) (a e b d n : Nat) {c : Nat} (h : c ≠ b) : cpr ρ a e b d n c = ρ c := by
  funext f
  unfold cpr
  rw [if_neg (fun q => h q.1)]
theorem cpr_in (ρ : Mem) (a b : Nat) {f : Nat} (h : f < 164) : cpr ρ a 0 b 0 164 b f = ρ a f := by
  unfold cpr
  rw [if_pos ⟨rfl, Nat.zero_le _, by omega⟩]
  rfl
theorem kp_back {ρ ρ' : Mem} (h : Fr (cpr ρ 1 0 4 0 164) ρ') : KP ρ (cpr ρ' 4 0 1 0 164) := by
  have c0 : ∀ c, c ≠ 0 → c ≠ 1 → c ≠ 6 → ρ' c = cpr ρ 1 0 4 0 164 c := h.1
  have f0 : ∀ f, f ≠ 9 → ρ' 0 f = ρ 0 f := fun f hf => (h.2 f hf).trans (by rw [cpr_n _ _ _ _ _ _ (by omega)])
  refine ⟨fun f hf => ?_, ?_, ?_, ?_, ?_, ?_⟩
  · rw [cpr_in _ _ _ hf, c0 4 (by omega) (by omega) (by omega), cpr_in _ _ _ hf]
  · rw [cpr_n _ _ _ _ _ _ (by omega), c0 2 (by omega) (by omega) (by omega), cpr_n _ _ _ _ _ _ (by omega)]
  · rw [cpr_n _ _ _ _ _ _ (by omega), c0 5 (by omega) (by omega) (by omega), cpr_n _ _ _ _ _ _ (by omega)]
  · rw [cpr_n _ _ _ _ _ _ (by omega)]; exact f0 4 (by omega)
  · rw [cpr_n _ _ _ _ _ _ (by omega)]; exact f0 5 (by omega)
  · rw [cpr_n _ _ _ _ _ _ (by omega)]; exact f0 7 (by omega)
theorem RR.copy {P : Nat} {g ρ : Mem} (h : RR P g ρ) : RR P g (cpr ρ 1 0 4 0 164) := h.fr (cpr_n _ _ _ _ _ _ (by omega))
theorem qz {N u j i : Nat} {γ : Mem} (h : ∃ a, a ≤ 1000000 ∧ γ 7 i = nI a ∧ (a = 0 ∨ u ≤ a)) (hi : i < N) (hj : j < u) : qt γ N j 7 i = 0 ↔ γ 7 i = 0 := by
  rw [qt_7 _ hi]
  obtain ⟨a, ha, ea, c⟩ := h
  rcases c with c | c
  · rw [ea, c]; simp [show nI 0 = 0 from rfl]
  · have q1 : ¬ γ 7 i = 0 := by rw [ea]; exact ai0 (by omega) (by omega)
    rw [if_neg q1, ea, nI_sub (by omega)]
    exact ⟨fun q => absurd q (ai0 (by omega) (by omega)), fun q => absurd q (ai0 (by omega) (by omega))⟩
theorem outs_cg {g g' : Mem} {p : Nat} : ∀ n, (∀ k, k < n → (g' 7 (3 * p + k) = 0 ↔ g 7 (3 * p + k) = 0)) → outs g' p n = outs g p n
  | 0, _ => rfl
  | n + 1, h => by
    have ih := outs_cg (p := p) n (fun k hk => h k (by omega))
    have hn := h n (by omega)
    show (if g' 7 (3 * p + n) = 0 then outs g' p n + 1 else outs g' p n) = (if g 7 (3 * p + n) = 0 then outs g p n + 1 else outs g p n)
    rw [ih]
    by_cases c : g 7 (3 * p + n) = 0
    · rw [if_pos c, if_pos (hn.mpr c)]
    · rw [if_neg c, if_neg (fun q => c (hn.mp q))]
theorem outs_3 {g : Mem} {p : Nat} (h : ∀ k, k < 3 → g 7 (3 * p + k) = 0) : outs g p 3 = 3 := by
  have := h 0 (by omega)
  have := h 1 (by omega)
  have := h 2 (by omega)
  unfold outs outs outs outs
  rw [if_pos (h 2 (by omega)), if_pos (h 1 (by omega)), if_pos (h 0 (by omega))]
  rfl
/-- N seconds on, for the first time, another glass of the player is out -/
def FO (P p : Nat) (g : Mem) (N : Nat) : Prop := (∀ j, j < N → outs (advs P j g).2 p 3 = outs g p 3) ∧ ¬ outs (advs P N g).2 p 3 = outs g p 3
theorem s_untilOneIsOut {Q : Int32 → Mem → Prop} {P p : Nat} {g : Mem} (h : GO P g) (hp : p < P) (h1 : outs g p 3 = 3 → Q (-1000004) g) (h2 : ¬ outs g p 3 = 3 → ∀ N g', FO P p g N → GO P g' → Q (nI N) g') : vc_X1_untilOneIsOut Q g (nI p) := by
  have hP := h.1.hP
  refine ⟨13, s_outOf (by omega) ⟨fun c => s_sumOf (by omega) ?_, h1⟩⟩
  have h2 := h2 c
  have st : ∀ k i t, i + k = 12 → (∀ j, j < t → outs (advs P j g).2 p 3 = outs g p 3) → i + ac ((advs P t g).2 7) 12 ≤ 12 → vl_X1_untilOneIsOut Q (k + 1) 0 (advs P t g).2 (nI p) (sum3 g 9 p) (nI t) (nI i) := by
    intro k
    induction k with
    | zero =>
      intro i t hi hj hac
      refine br_t (gec (a := i) (b := 12) (by omega)) (h2 t _ ⟨hj, fun q => c ?_⟩ (GO.advs t g h))
      rw [← q]
      exact outs_3 (fun k hk => ac_zero 12 (by omega) _ (by omega))
    | succ k ih =>
      intro i t hi hj hac
      have hgo := GO.advs t g h
      refine br_f (ltc (a := i) (b := 12) (by omega)) (s_sumOf (by omega) ⟨fun q => h2 t _ ⟨hj, fun q2 => q ?_⟩ hgo, fun q => s_untilNextOut ?_⟩)
      · have w := wo_advs hp t g h
        rw [q2] at w
        grind
      · have hno : outs (advs P t g).2 p 3 = outs g p 3 := by
          have w := wo_advs hp t g h
          rw [q] at w
          grind
        have hadd := fun j => advs_add P t j g
        generalize hμ : (advs P t g).2 = μ at hgo hno hac hadd ⊢
        obtain ⟨u, eu, u1, u2, u3, u4⟩ := unt_spec hgo.1.gs
        rw [eu]
        refine s_advance hgo.1 u2 (nm_e (nm_e ?_))
        have ea : (advs P u μ).2 = (advs P (t + u) g).2 := by rw [hadd u]
        rw [nI_1, nI_add, ea]
        rcases u4 with ⟨_, z⟩ | ⟨hu3, b, hb, _, eb, _⟩
        · exact absurd (hno.symm.trans (outs_3 (fun k hk => z _ (by omega)))) c
        · have hb3 : b < 3 * P := (hgo.2.1 b hb (by rw [eb]; exact ai0 (by omega) (by omega))).1
          have ev := event hgo.1.d0 u3 hP hb3 eb u1 hu3
          rw [ea] at ev
          refine ih (i + 1) (t + u) (by omega) (fun j hj' => ?_) (by omega)
          by_cases cj : j < t
          · exact hj j cj
          · have e2 : (advs P j g).2 = (advs P (j - t) μ).2 := by
              have := hadd (j - t)
              rw [show t + (j - t) = j by omega] at this
              rw [this]
            have w3 : ∀ i, i < 3 * P → ∃ a, a ≤ 1000000 ∧ μ 7 i = nI a ∧ (a = 0 ∨ u ≤ a) := fun i hi => by
              obtain ⟨a, a1, a2, a3⟩ := u3 i (by omega)
              exact ⟨a, by omega, a2, a3⟩
            rw [e2, quiet hgo.1.d0 w3 (j - t) (by omega), ← hno]
            exact outs_cg 3 (fun k hk => qz (w3 _ (by omega)) (by omega) (by omega))
  refine st 12 0 0 (by omega) (fun j hj => by omega) ?_
  have : ∀ (r : Nat → Int32) n, ac r n ≤ n := by
    intro r n
    induction n with
    | zero => exact Nat.le_refl _
    | succ n ih => unfold ac; split <;> omega
  have := this ((advs P 0 g).2 7) 12
  omega
theorem r_nextOut {Q : Int32 → Mem → Prop} {P p N : Nat} {g ρ : Mem} (hr : RR P g ρ) (h : GO P g) (hp : p < P) (h1 : outs g p 3 = 3 → Q (-1000004) ρ) (h2 : ¬ outs g p 3 = 3 → FO P p g N ∧ ∀ ρ', KP ρ ρ' → Q (nI N) ρ') : vc_X8_nextOut Q ρ (nI p) := by
  have hP := hr.1
  refine ⟨N + 1, r_outs hr hp ⟨fun c => r_copies (by omega) (r_outs hr.copy hp ?_), h1⟩⟩
  obtain ⟨⟨f1, f2⟩, h2⟩ := h2 c
  have st : ∀ k t ρ', t + k = N → RR P (advs P t g).2 ρ' → Fr (cpr ρ 1 0 4 0 164) ρ' → vl_X8_nextOut Q (k + 1) 0 ρ' (nI p) (outs g p 3) (nI t) := by
    intro k
    induction k with
    | zero =>
      intro t ρ' ht R' fr
      rw [show t = N by omega] at R' ⊢
      exact r_outs R' hp ⟨fun _ => r_copies (by omega) (h2 _ (kp_back fr)), fun q => absurd q f2⟩
    | succ k ih =>
      intro t ρ' ht R' fr
      refine r_outs R' hp ⟨fun q => absurd (f1 t (by omega)) q, fun _ => r_go R' (GO.advs t g h) (fun ρ2 R2 fr2 => nm_e ?_)⟩
      rw [nI_1]
      refine ih (t + 1) ρ2 (by omega) ?_ (fr.tr fr2)
      rw [advs_add P t 1]
      exact R2
  exact st N 0 _ (by omega) hr.copy Fr.rfl'
theorem q_playerOf {K : Mem → Mem → Prop} {P : Nat} {ξ γ τ η ο ρ : Mem} {σ : Nat → Mem} {x z : Int32} (h : RR P γ ρ) (hg : GO P γ) (h0 : τ 0 6 = 0) (hk : ∀ τ' ρ', τ' 0 6 = 0 → KP ρ ρ' → K τ' ρ') :
    vc_X7_playerOf (fun r τ' => vc_X8_playerOf (fun r' ρ' => (r = r' → K τ' ρ') ∧ (¬ r = r' → False)) ρ x z) ξ γ τ η σ ο x z := by
  have hP := h.1
  have k0 := hk τ ρ h0 KP.rfl'
  refine s_hasPlayer hg.1.pt ?_
  by_cases c : rng x (γ 1 0)
  · rw [if_pos c]
    have c' := c
    rw [h.2.1] at c'
    obtain ⟨p, hp, ex⟩ := rng_nat (by omega) c'
    refine ⟨fun q => absurd q (by decide), fun _ => ?_⟩
    rw [e_win]
    by_cases c2 : 0 ≤ z ∧ z ≤ 7
    · rw [if_pos c2]
      refine ⟨fun _ => ?_, fun q => absurd q (by decide)⟩
      obtain ⟨j, hj, ej⟩ := nat_le (m := 7) (by omega) c2.1 c2.2
      have rf : ∀ (Q : Int32 → Mem → Prop), (j < 5 → Q (ρ 1 (8 + 5 * p + j)) ρ) → (j = 5 → Q (outs γ p 3) ρ) → (j = 6 → Q (sum3 γ 10 p) ρ) → (j = 7 → vc_X8_nextOut Q ρ (nI p)) → vc_X8_playerOf Q ρ x z := by
        intro Q h1 h2 h3 h4
        refine r_isP h ?_
        rw [if_pos c]
        refine ⟨fun q => absurd q (by decide), fun _ => ?_⟩
        rw [e_rin, if_pos c2]
        refine ⟨fun _ => ?_, fun q => absurd q (by decide)⟩
        rw [ex, ej]
        rcases (show j < 5 ∨ j = 5 ∨ j = 6 ∨ j = 7 by omega) with hj4 | rfl | rfl | rfl
        · refine br_f (ltc (a := j) (b := 5) hj4) ?_
          rw [i8, nI_clamp (by omega)]
          exact ⟨vp_in_nI (by omega) (by omega), h1 hj4⟩
        · exact br_t (by decide) ⟨fun q => absurd rfl q, fun _ => r_outs h hp (h2 rfl)⟩
        · exact br_t (by decide) ⟨fun _ => ⟨fun q => absurd rfl q, fun _ => r_waited h hp (h3 rfl)⟩, fun q => absurd q (by decide)⟩
        · exact br_t (by decide) ⟨fun _ => ⟨fun _ => h4 rfl, fun q => absurd q (by decide)⟩, fun q => absurd q (by decide)⟩
      have vi : vp_in x 4 := by rw [ex]; exact vp_in_nI (by omega) (by omega)
      have ec : x.toNatClampNeg = p := by rw [ex, nI_clamp (by omega)]
      have no : ∀ {A : Prop} {a b : Nat}, a ≠ b → a = b → A := fun h1 h2 => absurd h2 h1
      have am : ∀ j', j' < 3 → j = j' → vc_X5_amountOf (fun r18 => vc_X8_playerOf (fun r' ρ' => (r18 = r' → K τ ρ') ∧ (¬ r18 = r' → False)) ρ x z) γ x (nI j') := by
        intro j' hj' e
        subst e
        rw [ex] at rf ⊢
        rw [e_amountOf _ _ (by omega) hj']
        exact rf _ (fun _ => sme (h.g hp hj').symm k0) (fun q => by omega) (fun q => by omega) (fun q => by omega)
      rcases (show j = 0 ∨ j = 1 ∨ j = 2 ∨ j = 3 ∨ j = 4 ∨ j = 5 ∨ j = 6 ∨ j = 7 by omega) with rfl | rfl | rfl | rfl | rfl | rfl | rfl | rfl
      · have a := am 0 (by omega) rfl
        rw [show z = 0 from ej] at a ⊢
        exact br_f (by decide) (br_f (by decide) (br_f (by decide) (br_f (by decide) (br_f (by decide) a))))
      · have a := am 1 (by omega) rfl
        rw [show z = 1 from ej] at a ⊢
        exact br_f (by decide) (br_f (by decide) (br_f (by decide) (br_f (by decide) (br_f (by decide) a))))
      · have a := am 2 (by omega) rfl
        rw [show z = 2 from ej] at a ⊢
        exact br_f (by decide) (br_f (by decide) (br_f (by decide) (br_f (by decide) (br_f (by decide) a))))
      · rw [show z = 3 from ej] at rf ⊢
        refine br_t rfl ⟨vi, ?_⟩
        rw [ec]
        exact rf _ (fun _ => sme (h.r 3 p (by simp [liv]; omega) rfl).symm k0) (fun q => by omega) (fun q => by omega) (fun q => by omega)
      · rw [show z = 4 from ej] at rf ⊢
        rw [ex] at rf ⊢
        exact br_f (by decide) (br_t rfl (s_sumOf (by omega) (rf _ (fun _ => sme (h.2.2.2.2.2 p (by omega)).symm k0) (fun q => by omega) (fun q => by omega) (fun q => by omega))))
      · rw [show z = 5 from ej] at rf ⊢
        rw [ex] at rf ⊢
        exact br_f (by decide) (br_f (by decide) (br_t rfl (s_outOf (by omega) (rf _ (fun q => by omega) (fun _ => sme rfl k0) (fun q => by omega) (fun q => by omega)))))
      · rw [show z = 6 from ej] at rf ⊢
        rw [ex] at rf ⊢
        exact br_f (by decide) (br_f (by decide) (br_f (by decide) (br_t rfl (s_sumOf (by omega) (rf _ (fun q => by omega) (fun q => by omega) (fun _ => sme rfl k0) (fun q => by omega))))))
      · rw [show z = 7 from ej] at rf ⊢
        rw [ex] at rf ⊢
        refine br_f (by decide) (br_f (by decide) (br_f (by decide) (br_f (by decide) (br_t rfl (s_copyFrom (fun τ' cp e0 => ?_))))))
        have G' := hg.cp cp (e0.trans h0)
        have R' := h.cp cp
        refine s_untilOneIsOut G' hp (fun q => rf _ (fun q => by omega) (fun q => by omega) (fun q => by omega) (fun _ => ?_)) (fun q N g' hf hg' => rf _ (fun q => by omega) (fun q => by omega) (fun q => by omega) (fun _ => ?_))
        · exact r_nextOut (N := 0) R' G' hp (fun _ => sme rfl (hk _ _ G'.1.d0 KP.rfl')) (fun q2 => absurd q q2)
        · exact r_nextOut R' G' hp (fun q2 => absurd q2 q) (fun _ => ⟨hf, fun ρ' kp => sme rfl (hk _ _ hg'.1.d0 kp)⟩)
    · rw [if_neg c2]
      refine ⟨fun q => absurd rfl q, fun _ => r_isP h ?_⟩
      rw [if_pos c]
      refine ⟨fun q => absurd q (by decide), fun _ => ?_⟩
      rw [e_rin, if_neg c2]
      exact ⟨fun q => absurd rfl q, fun _ => sme rfl k0⟩
  · rw [if_neg c]
    refine ⟨fun _ => r_isP h ?_, fun q => absurd rfl q⟩
    rw [if_neg c]
    exact ⟨fun _ => sme rfl k0, fun q => absurd rfl q⟩
