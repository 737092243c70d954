theorem ql_tk1 (g : Mem) (k : Int32) (i : Nat) : QL g (tk1 g k i) := by
  unfold tk1
  split
  · exact QL.of (by rw [up_n _ _ _ (by omega)]) (up_n _ _ _ (by omega))
  · exact (QL.of (by rw [up_n _ _ _ (by omega)]) (up_n _ _ _ (by omega))).tr (ql_due1 _ _)
/-- the first glass of which the sand runs out in this second stands first -/
theorem tks_first {g : Mem} {N b : Nat} (h0 : g 0 6 = 0) (hb : b < N) (eb : g 7 b = 1) (hbe : ∀ i, i < b → g 7 i = 0 ∨ 1 < g 7 i) : ∃ m, 1 ≤ m ∧ m ≤ 12 ∧ tks g 1 N 0 6 = nI m ∧ tks g 1 N 21 0 = nI b := by
  have e1 : tks g 1 (b + 1) 0 6 = nI 1 ∧ tks g 1 (b + 1) 21 0 = nI b := by
    have e : tks g 1 (b + 1) = tk1 (pw g 1 b) 1 b := by
      show tk1 (tks g 1 b) 1 b = _
      rw [tks_ne b hbe]
    have p7 : pw g 1 b 7 b = 1 := by simp [pw]; exact eb
    have p0 : pw g 1 b 0 6 = 0 := by simp [pw]; exact h0
    rw [e]
    unfold tk1
    rw [p7, if_neg (by decide), if_neg (by decide)]
    unfold due1
    have q7 : up (pw g 1 b) 7 b 0 7 b = 0 := by rw [up_at, if_pos ⟨rfl, rfl⟩]
    rw [q7, if_pos rfl, up_n _ _ _ (show 0 ≠ 7 by omega), p0, if_neg (by decide)]
    refine ⟨by rw [up_at, if_pos ⟨rfl, rfl⟩]; rfl, ?_⟩
    rw [up_n _ _ _ (show 21 ≠ 0 by omega), up_at, if_pos ⟨rfl, rfl⟩]
  have q : ∀ j, QL (tks g 1 (b + 1)) (tks g 1 (b + 1 + j)) := by
    intro j
    induction j with
    | zero => exact QL.of rfl rfl
    | succ j ih => exact ih.tr (ql_tk1 _ _ _)
  obtain ⟨n', a, b', c, d⟩ := q (N - (b + 1)) 1 (by omega) e1.1
  rw [show b + 1 + (N - (b + 1)) = N by omega] at c d
  exact ⟨n', a, b', c, (d 0 (by omega)).trans e1.2⟩
theorem r_anySand {Q : Int32 → Prop} {P : Nat} {γ ρ : Mem} (h : RR P γ ρ) (gs : GS γ) (h0 : (∀ i, i < 3 * P → γ 7 i = 0) → Q 0) (h1 : ∀ i, i < 3 * P → γ 7 i ≠ 0 → Q 1) : vc_X8_anySand Q ρ := by
  have hP := h.1
  have s1 : Q 1 → ∀ k n, n + k = 3 * P → vl_X8_anySand Q ρ (k + 1) 0 1 (nI n) := by
    intro hq k
    induction k with
    | zero =>
      intro n hn
      show vb_X8_anySand_4 Q ρ (vl_X8_anySand Q ρ 0) 1 (nI n)
      exact r_workers h (br_t (gec (a := n) (b := 3 * P) (by omega)) ⟨by decide, hq⟩)
    | succ k ih =>
      intro n hn
      show vb_X8_anySand_4 Q ρ (vl_X8_anySand Q ρ (k + 1)) 1 (nI n)
      exact r_workers h (br_f (ltc (a := n) (b := 3 * P) (by omega)) ⟨fun _ => nm_e (by rw [nI_1]; exact ih (n + 1) (by omega)), fun q => absurd q (by decide)⟩)
  have s0 : ∀ k n, n + k = 3 * P → (∀ i, i < n → γ 7 i = 0) → vl_X8_anySand Q ρ (k + 1) 0 0 (nI n) := by
    intro k
    induction k with
    | zero =>
      intro n hn hz
      show vb_X8_anySand_4 Q ρ (vl_X8_anySand Q ρ 0) 0 (nI n)
      refine r_workers h (br_t (gec (a := n) (b := 3 * P) (by omega)) ⟨by decide, h0 ?_⟩)
      rw [show 3 * P = n by omega]; exact hz
    | succ k ih =>
      intro n hn hz
      show vb_X8_anySand_4 Q ρ (vl_X8_anySand Q ρ (k + 1)) 0 (nI n)
      refine r_workers h (br_f (ltc (a := n) (b := 3 * P) (by omega)) ⟨fun q => absurd rfl q, fun _ => r_of 2 (by omega) (by omega) ?_⟩)
      rw [h.r 7 n (j := 28 + 7 * n + 2) (by simp [liv]; omega) rfl, nI_1]
      obtain ⟨zz, a, g5, g7, haz, hz'⟩ := gs n (by omega)
      rw [g7]
      by_cases c : a = 0
      · subst c
        exact br_t (Int32.le_refl _) (nm_e (ih (n + 1) (by omega) (fun i hi => by
          by_cases e : i = n
          · rw [e]; exact g7
          · exact hz i (by omega))))
      · exact br_f (fun q => absurd ((nI_leI (a := a) (b := 0) (by omega) (by omega)).mp q) (by omega)) (nm_e (s1 (h1 n (by omega) (by rw [g7]; exact ai0 (by omega) c)) k (n + 1) (by omega)))
  exact ⟨3 * P + 1, s0 (3 * P) 0 (by omega) (fun i hi => by omega)⟩
theorem r_nextLoop {Q : Int32 → Mem → Prop} {P u b : Nat} {γ ρ : Mem} {x : Int32} (hg : GO P γ) (hr : RR P γ ρ) (hb : b < 3 * P) (eb : γ 7 b = nI u) (u1 : 1 ≤ u) (hu : ∀ i, i < 3 * P → ∃ a, a ≤ 1000000 ∧ γ 7 i = nI a ∧ (a = 0 ∨ u ≤ a) ∧ (i < b → a = 0 ∨ u < a)) (hu3 : u ≤ 300) (hq : ∀ ρ', KP ρ ρ' → ρ' 6 0 = nI b → (¬ x = 0 → Q (nI u) ρ') ∧ (x = 0 → Q (nI (10 * (b / 3) + b % 3)) ρ')) : ∀ k t ρ', t + k = u → RR P (advs P t γ).2 ρ' → Fr (cpr ρ 1 0 4 0 164) ρ' → (t < u → ρ' 0 9 = 0) → (t = u → ¬ ρ' 0 9 = 0 ∧ ρ' 6 0 = nI b) → vl_X8_next Q (k + 1) 0 ρ' x (nI t) := by
  have hP := hr.1
  intro k
  induction k with
  | zero =>
    intro t ρ' ht R' fr _ h2
    obtain ⟨h3, h4⟩ := h2 (by omega)
    rw [show t = u by omega]
    refine ⟨fun _ => r_copies (by omega) ?_, fun q => absurd q h3⟩
    have e6 : cpr ρ' 4 0 1 0 164 6 = ρ' 6 := cpr_n _ _ _ _ _ _ (by omega)
    obtain ⟨q1, q2⟩ := hq _ (kp_back fr) (by rw [e6]; exact h4)
    refine ⟨q1, fun q => ?_⟩
    rw [show (0 : Int32).toNatClampNeg = 0 from rfl, e6, h4]
    exact r_told (by omega) (q2 q)
  | succ k ih =>
    intro t ρ' ht R' fr h1 _
    have h1 := h1 (by omega)
    have hgt := GO.advs t γ hg
    have w3 : ∀ i, i < 3 * P → ∃ a, a ≤ 1000000 ∧ γ 7 i = nI a ∧ (a = 0 ∨ u ≤ a) := fun i hi => by
      obtain ⟨a, a1, a2, a3, _⟩ := hu i hi
      exact ⟨a, a1, a2, a3⟩
    have eq : (advs P t γ).2 = qt γ (3 * P) t := by rw [quiet hg.1.d0 w3 t (by omega)]
    have ea : (advs P (t + 1) γ).2 = (stp (advs P t γ).2 P 1).2 := by rw [advs_add P t 1]; rfl
    have s06 : sec (tks (advs P t γ).2 1 (3 * P)) 1 0 6 = tks (advs P t γ).2 1 (3 * P) 0 6 := by unfold sec; rw [up_at, if_neg (by omega)]
    have s21 : sec (tks (advs P t γ).2 1 (3 * P)) 1 21 0 = tks (advs P t γ).2 1 (3 * P) 21 0 := by rw [sec_n _ _ (by omega)]
    refine ⟨fun q => absurd h1 q, fun _ => r_goes R' hgt.1.d0 hgt.1.gs hgt.2.1 hgt.1.pt (fun ρ2 R2 fr2 g1 g2 => nm_e ?_)⟩
    rw [nI_1]
    refine ih (t + 1) ρ2 (by omega) (by rw [ea]; exact R2) (fr.tr fr2) (fun hlt => g1 ?_) (fun he => ?_)
    · rw [s06, eq, tks_ne _ (fun i hi => ?_)]
      · simp [pw]; rw [qt_06]; exact hg.1.d0
      · obtain ⟨a, a1, a2, a3⟩ := w3 i hi
        rw [qt_7 _ hi]
        rcases a3 with q | q
        · exact Or.inl (by rw [if_pos (by rw [a2, q]; rfl)])
        · rw [if_neg (by rw [a2]; exact ai0 (by omega) (by omega)), a2, nI_sub (by omega)]
          exact Or.inr (by rw [show (1 : Int32) = nI 1 from rfl]; exact nI_lt (by omega) (by omega))
    · obtain ⟨m, m1, m2, m3, m4⟩ := tks_first (g := (advs P t γ).2) (N := 3 * P) (b := b) hgt.1.d0 hb (by
          rw [eq, qt_7 _ hb, if_neg (by rw [eb]; exact ai0 (by omega) (by omega)), eb, nI_sub (by omega), show u - t = 1 by omega]; rfl) (fun i hi => by
          obtain ⟨a, a1, a2, a3, a4⟩ := hu i (by omega)
          rw [eq, qt_7 _ (by omega)]
          rcases a4 hi with q | q
          · exact Or.inl (by rw [if_pos (by rw [a2, q]; rfl)])
          · rw [if_neg (by rw [a2]; exact ai0 (by omega) (by omega)), a2, nI_sub (by omega)]
            exact Or.inr (by rw [show (1 : Int32) = nI 1 from rfl]; exact nI_lt (by omega) (by omega)))
      have := g2 m m1 m2 (by rw [s06]; exact m3)
      rw [s21, m4] at this
      exact this
theorem q_next {K : Mem → Prop} {P : Nat} {ξ γ τ η ο ρ : Mem} {σ : Nat → Mem} {x : Int32} (h : RR P γ ρ) (hg : GO P γ) (hk : ∀ ρ', KP ρ ρ' → K ρ') :
    vc_X7_next (fun r => vc_X8_next (fun r' ρ' => (r = r' → K ρ') ∧ (¬ r = r' → False)) ρ x) ξ γ τ η σ ο x := by
  have hP := h.1
  unfold vc_X7_next
  rw [e_win]
  by_cases c2 : 0 ≤ x ∧ x ≤ 1
  · rw [if_pos c2]
    refine ⟨fun _ => s_nextOut ?_, fun q => absurd q (by decide)⟩
    rcases nxo_spec γ 12 (by omega) with ⟨e1, z⟩ | ⟨b, hb, e1, nb, hmin, hbe⟩
    · rw [e1]
      refine ⟨fun q => absurd rfl q, fun _ => ⟨0, ?_⟩⟩
      rw [e_rin, if_pos c2]
      exact ⟨fun _ => r_anySand h hg.1.gs (fun _ => ⟨fun q => absurd rfl q, fun _ => sme rfl (hk ρ KP.rfl')⟩) (fun i hi q => absurd (z i (by omega)) q), fun q => absurd q (by decide)⟩
    · rw [e1]
      obtain ⟨zz, u, g5, g7, huz, hz⟩ := hg.1.gs b hb
      have u1 : 1 ≤ u := Nat.pos_of_ne_zero (fun q => nb (by rw [g7, q]; rfl))
      have hb3 : b < 3 * P := (hg.2.1 b hb nb).1
      have hu : ∀ i, i < 3 * P → ∃ a, a ≤ 1000000 ∧ γ 7 i = nI a ∧ (a = 0 ∨ u ≤ a) ∧ (i < b → a = 0 ∨ u < a) := by
        intro i hi
        obtain ⟨z', a, _, e7, h3, h4⟩ := hg.1.gs i (by omega)
        refine ⟨a, by omega, e7, ?_, fun hib => ?_⟩
        · by_cases c : a = 0
          · exact Or.inl c
          · have := hmin i (by omega) (by rw [e7]; exact ai0 (by omega) c)
            rw [g7, e7, nI_leI (by omega) (by omega)] at this
            exact Or.inr this
        · by_cases c : a = 0
          · exact Or.inl c
          · have := hbe i hib (by rw [e7]; exact ai0 (by omega) c)
            rw [g7, e7, nI_ltI (by omega) (by omega)] at this
            exact Or.inr this
      have rf : ∀ v : Int32, (¬ x = 0 → v = nI u) → (x = 0 → v = nI (10 * (b / 3) + b % 3)) → vc_X8_next (fun r' ρ' => (v = r' → K ρ') ∧ (¬ v = r' → False)) ρ x := by
        intro v h1 h2
        refine ⟨u + 1, ?_⟩
        rw [e_rin, if_pos c2]
        refine ⟨fun _ => r_anySand h hg.1.gs (fun q => absurd (q b hb3) nb) (fun _ _ _ => ⟨fun _ => r_copies (by omega) (nm_e ?_), fun q => absurd q (by decide)⟩), fun q => absurd q (by decide)⟩
        refine r_nextLoop (b := b) (u := u) hg h hb3 g7 u1 hu (by omega) (fun ρ' kp e6 => ⟨fun q => sme (h1 q) (hk _ kp), fun q => sme (h2 q) (hk _ kp)⟩) u 0 _ (by omega) (h.copy.fr (up_n _ _ _ (by omega))) (fr_9 _ _) (fun _ => by rw [up_at, if_pos ⟨rfl, rfl⟩]) (fun q => by omega)
      refine ⟨fun _ => ⟨fun q => ⟨vp_in_nI hb (by omega), ?_⟩, fun q => s_told hb (rf _ (fun q2 => absurd q q2) (fun _ => rfl))⟩, fun q => absurd q (nI_m1 (by omega))⟩
      rw [nI_clamp (by omega)]
      exact rf _ (fun _ => g7) (fun q2 => absurd q2 q)
  · rw [if_neg c2]
    refine ⟨fun q => absurd rfl q, fun _ => ⟨0, ?_⟩⟩
    rw [e_rin, if_neg c2]
    exact ⟨fun q => absurd rfl q, fun _ => sme rfl (hk ρ KP.rfl')⟩
theorem r_wouldLoop {Q : Int32 → Mem → Prop} {P n p w : Nat} {g ρ : Mem} (hn : n ≤ 1000) (hp : p < P) (hw : w ≤ 4) (hg : GO P g) (hr : RR P g ρ) (hq : ∀ ρ1 ρ2, KP ρ ρ2 → RR P (advs P n g).2 ρ1 → ((¬ w = 4 → Q (ρ1 1 (8 + 5 * p + w)) ρ2) ∧ (w = 4 → Q (wks (advs P n g).2 p - wks g p) ρ2))) : ∀ j i ρ' f, i + j = n → j + 1 ≤ f → RR P (advs P i g).2 ρ' → Fr (cpr ρ 1 0 4 0 164) ρ' → vl_X8_would Q f 0 ρ' (nI p) (nI n) (nI w) (nI i) := by
  have hP := hr.1
  intro j
  induction j with
  | zero =>
    intro i ρ' f hi hf R' fr
    obtain ⟨f, rfl⟩ : ∃ f', f = f' + 1 := ⟨f - 1, by omega⟩
    have ei : i = n := by omega
    subst ei
    refine br_t (gec (a := i) (b := i) (by omega)) ?_
    rw [i8, nI_clamp (by omega)]
    have hq' := hq ρ' _ (kp_back fr) R'
    have e4 : ρ' 4 (8 + 5 * p + w) = ρ 1 (8 + 5 * p + w) := by rw [fr.1 4 (by omega) (by omega) (by omega), cpr_in _ _ _ (by omega)]
    refine ⟨vp_in_nI (by omega) (by omega), fun q => nm_e (r_copies (by omega) ?_), fun q => nm_e (r_copies (by omega) ?_)⟩
    · have nw : ¬ w = 4 := fun e => q (by rw [e]; rfl)
      rw [Int32.sub_zero]
      exact hq'.1 nw
    · have ew : w = 4 := by
        have := nI_clamp (n := w) (by omega)
        rw [q] at this
        exact this.symm
      subst ew
      rw [e4, hr.2.2.2.2.2 p (by omega), R'.2.2.2.2.2 p (by omega)]
      exact hq'.2 rfl
  | succ j ih =>
    intro i ρ' f hi hf R' fr
    obtain ⟨f, rfl⟩ : ∃ f', f = f' + 1 := ⟨f - 1, by omega⟩
    refine br_f (ltc (a := i) (b := n) (by omega)) (r_go R' (GO.advs i g hg) (fun ρ2 R2 fr2 => nm_e ?_))
    rw [nI_1]
    exact ih (i + 1) ρ2 f (by omega) (by omega) (by rw [advs_add P i 1]; exact R2) (fr.tr fr2)
theorem q_would {K : Mem → Mem → Prop} {P : Nat} {ξ γ τ η ο ρ : Mem} {σ : Nat → Mem} {x y z : Int32} (h : RR P γ ρ) (hg : GO P γ) (h0 : τ 0 6 = 0) (hk : ∀ τ' ρ', τ' 0 6 = 0 → KP ρ ρ' → K τ' ρ') :
    vc_X7_would (fun r τ' => vc_X8_would (fun r' ρ' => (r = r' → K τ' ρ') ∧ (¬ r = r' → False)) ρ x y z) ξ γ τ η σ ο x y z := by
  have hP := h.1
  have k0 := hk τ ρ h0 KP.rfl'
  refine s_hasPlayer hg.1.pt ?_
  by_cases c : rng x (γ 1 0)
  · rw [if_pos c]
    have c' := c
    rw [h.2.1] at c'
    obtain ⟨p, hp, ex⟩ := rng_nat (by omega) c'
    refine ⟨fun q => absurd q (by decide), fun _ => ?_⟩
    rw [e_win]
    by_cases c2 : 0 ≤ y ∧ y ≤ 600
    · rw [if_pos c2]
      refine ⟨fun q => absurd q (by decide), fun _ => ?_⟩
      rw [e_win]
      by_cases c3 : 0 ≤ z ∧ z ≤ 4
      · rw [if_pos c3]
        obtain ⟨n, hn, en⟩ := nat_le (m := 600) (by omega) c2.1 c2.2
        obtain ⟨j, hj, ej⟩ := nat_le (m := 4) (by omega) c3.1 c3.2
        refine ⟨fun _ => s_copyFrom (fun τ1 cp e0 => ?_), fun q => absurd q (by decide)⟩
        have G' := hg.cp cp (e0.trans h0)
        have R' := h.cp cp
        have GA := GO.advs n τ1 G'
        have rf : ∀ v : Int32, (∀ ρ1, RR P (advs P n τ1).2 ρ1 → j < 4 → v = ρ1 1 (8 + 5 * p + j)) → (j = 4 → v = wks (advs P n τ1).2 p - wks τ1 p) → vc_X8_would (fun r' ρ' => (v = r' → K (advs P n τ1).2 ρ') ∧ (¬ v = r' → False)) ρ x y z := by
          intro v h1 h2
          refine ⟨n + 1, r_isP h ?_⟩
          rw [if_pos c]
          refine ⟨fun q => absurd q (by decide), fun _ => ?_⟩
          rw [e_rin, if_pos c2]
          refine ⟨fun q => absurd q (by decide), fun _ => ?_⟩
          rw [e_rin, if_pos c3]
          refine ⟨fun _ => r_copies (by omega) ?_, fun q => absurd q (by decide)⟩
          rw [ex, en, ej]
          exact r_wouldLoop (n := n) (p := p) (w := j) (by omega) hp hj G' R' (fun ρ1 ρ2 kp R1 => ⟨fun q => sme (h1 ρ1 R1 (by omega)) (hk _ _ GA.1.d0 kp), fun q => sme (h2 q) (hk _ _ GA.1.d0 kp)⟩) n 0 _ (n + 1) (by omega) (by omega) R'.copy Fr.rfl'
        rw [en] at rf ⊢
        refine s_advance G'.1 (by omega) ?_
        have vi : vp_in x 4 := by rw [ex]; exact vp_in_nI (by omega) (by omega)
        have ec : x.toNatClampNeg = p := by rw [ex, nI_clamp (by omega)]
        have am : ∀ j', j' < 3 → j = j' → vc_X5_amountOf (fun r18 => vc_X8_would (fun r' ρ' => (r18 = r' → K (advs P n τ1).2 ρ') ∧ (¬ r18 = r' → False)) ρ x (nI n) z) (advs P n τ1).2 x (nI j') := by
          intro j' hj' e
          subst e
          rw [ex] at rf ⊢
          rw [e_amountOf _ _ (by omega) hj']
          exact rf _ (fun ρ1 R1 _ => (R1.g hp hj').symm) (fun q => by omega)
        rcases (show j = 0 ∨ j = 1 ∨ j = 2 ∨ j = 3 ∨ j = 4 by omega) with rfl | rfl | rfl | rfl | rfl
        · have a := am 0 (by omega) rfl
          rw [show z = 0 from ej] at a ⊢
          exact br_f (by decide) (br_f (by decide) a)
        · have a := am 1 (by omega) rfl
          rw [show z = 1 from ej] at a ⊢
          exact br_f (by decide) (br_f (by decide) a)
        · have a := am 2 (by omega) rfl
          rw [show z = 2 from ej] at a ⊢
          exact br_f (by decide) (br_f (by decide) a)
        · rw [show z = 3 from ej] at rf ⊢
          refine br_t rfl ⟨vi, ?_⟩
          rw [ec]
          exact rf _ (fun ρ1 R1 _ => (R1.r 3 p (by simp [liv]; omega) rfl).symm) (fun q => by omega)
        · rw [show z = 4 from ej] at rf ⊢
          rw [ex] at rf ⊢
          refine br_f (by decide) (br_t rfl (s_sumOf (by omega) (s_sumOf (by omega) (rf _ (fun _ _ q => by omega) (fun _ => ?_)))))
          show _ - sum3 γ 9 p = _ - wks τ1 p
          unfold wks sum3
          rw [cp.r (c := 9) rfl]
      · rw [if_neg c3]
        refine ⟨fun q => absurd rfl q, fun _ => ⟨0, r_isP h ?_⟩⟩
        rw [if_pos c]
        refine ⟨fun q => absurd q (by decide), fun _ => ?_⟩
        rw [e_rin, if_pos c2]
        refine ⟨fun q => absurd q (by decide), fun _ => ?_⟩
        rw [e_rin, if_neg c3]
        exact ⟨fun q => absurd rfl q, fun _ => sme rfl k0⟩
    · rw [if_neg c2]
      refine ⟨fun _ => ⟨0, r_isP h ?_⟩, fun q => absurd rfl q⟩
      rw [if_pos c]
      refine ⟨fun q => absurd q (by decide), fun _ => ?_⟩
      rw [e_rin, if_neg c2]
      exact ⟨fun _ => sme rfl k0, fun q => absurd rfl q⟩
  · rw [if_neg c]
    refine ⟨fun _ => ⟨0, r_isP h ?_⟩, fun q => absurd rfl q⟩
    rw [if_neg c]
    exact ⟨fun _ => sme rfl k0, fun q => absurd rfl q⟩
