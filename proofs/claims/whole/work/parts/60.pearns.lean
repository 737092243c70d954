/-! when a player has a price, with its workers put on a task again and again -/
def pt1 (g : Mem) (t w : Nat) : Mem := if cput g w t then pst g t w else g
def pr (g : Mem) (p t : Nat) : Mem := pt1 (pt1 (pt1 g t (3 * p)) t (3 * p + 1)) t (3 * p + 2)
def ern (P p t : Nat) (x : Int32) : Nat → Nat → Mem → Int32
  | 0, _, _ => -1000004
  | k + 1, n, g => if hv g p x then nI n else ern P p t x k (n + 1) (stp (pr g p t) P 1).2
/-- what the question asks of a game -/
def EP (P t : Nat) (g : Mem) : Prop := GO P g ∧ (∀ i, i < 12 → g 5 i ≠ 0) ∧ (0 ≤ g 14 t ∧ g 14 t ≤ 999) ∧ ∃ T, T ≤ 8 ∧ g 12 0 = nI T ∧ t < T
theorem EP.stp {P t : Nat} {g : Mem} (h : EP P t g) : EP P t (stp g P 1).2 := by
  obtain ⟨a, b, c, T, d, e, f⟩ := h
  have n5 : (_root_.Jvm.Pilot.CSandWorkersLaw_law_r5864_2f3136.stp g P 1).2 5 = g 5 := stp_n (by omega)
  have n14 : (_root_.Jvm.Pilot.CSandWorkersLaw_law_r5864_2f3136.stp g P 1).2 14 = g 14 := stp_n (by omega)
  have n12 : (_root_.Jvm.Pilot.CSandWorkersLaw_law_r5864_2f3136.stp g P 1).2 12 = g 12 := stp_n (by omega)
  exact ⟨a.stp, by rw [n5]; exact b, by rw [n14]; exact c, T, d, by rw [n12]; exact e, f⟩
theorem EP.advs {P t : Nat} : ∀ n g, EP P t g → EP P t (advs P n g).2
  | 0, _, h => h
  | n + 1, g, h => EP.advs n _ h.stp
theorem EP.pt1 {P t w : Nat} {g : Mem} (h : EP P t g) (hw : w < 3 * P) : EP P t (pt1 g t w) := by
  unfold _root_.Jvm.Pilot.CSandWorkersLaw_law_r5864_2f3136.pt1
  split
  · obtain ⟨a, b, c, T, d, e, f⟩ := h
    exact ⟨a.put d e f hw, by rw [pst_n _ _ _ (by omega) (by omega) (by omega) (by omega) (by omega)]; exact b, by rw [pst_n _ _ _ (by omega) (by omega) (by omega) (by omega) (by omega)]; exact c, T, d, by rw [pst_n _ _ _ (by omega) (by omega) (by omega) (by omega) (by omega)]; exact e, f⟩
  · exact h
theorem EP.pr {P t p : Nat} {g : Mem} (h : EP P t g) (hp : p < P) : EP P t (pr g p t) :=
  ((h.pt1 (by omega)).pt1 (by omega)).pt1 (by omega)
theorem np_own {P t w : Nat} {g : Mem} (h : EP P t g) (hw : w < 12) : ¬ cput (pt1 g t w) w t := by
  unfold pt1
  by_cases c : cput g w t
  · rw [if_pos c]
    intro q
    have := q.1
    rw [pst_7, pk_us] at this
    exact h.2.1 w hw this
  · rw [if_neg c]; exact c
theorem np_other {t w w' : Nat} {g : Mem} (hw : w < 12) (hw' : w' < 12) (ne : w ≠ w') (e3 : w / 3 = w' / 3) (h : ¬ cput g w t) : ¬ cput (pt1 g t w') w t := by
  unfold pt1
  by_cases c : cput g w' t
  · rw [if_pos c]
    obtain ⟨c1, c2, c3⟩ := c
    intro q
    obtain ⟨q1, q2, q3⟩ := q
    rw [pst_7, pk_un ne] at q1
    rw [pst_6, pk_un ne, lft_put hw'] at q2
    refine h ⟨q1, ?_, by rw [e3]; exact c3⟩
    rcases q2 with q | q
    · exact Or.inl q
    · by_cases s : g 6 w' = nI t
      · rw [if_pos s] at q; exact Or.inr q
      · exact Or.inr (c2.resolve_left s)
  · rw [if_neg c]; exact h
theorem nh_pt1 {P t w : Nat} {g : Mem} {x : Int32} (h : EP P t g) (hx : ¬ hv g (w / 3) x) : ¬ hv (pt1 g t w) (w / 3) x := by
  unfold pt1
  by_cases c : cput g w t
  · rw [if_pos c]
    exact fun q => hx (hv_put h.2.2.1.1 h.2.2.1.2 c.2.2 q)
  · rw [if_neg c]; exact hx
/-- after the round no worker of the player can be put -/
theorem pr_idle {P t p : Nat} {g : Mem} (h : EP P t g) (hp : p < P) : ∀ k, k < 3 → ¬ cput (pr g p t) (3 * p + k) t := by
  have hP := h.1.1.hP
  intro k hk
  have h1 := h.pt1 (w := 3 * p) (by omega)
  have h2 := h1.pt1 (w := 3 * p + 1) (by omega)
  rcases (show k = 0 ∨ k = 1 ∨ k = 2 by omega) with rfl | rfl | rfl
  · exact np_other (by omega) (by omega) (by omega) (by omega) (np_other (by omega) (by omega) (by omega) (by omega) (np_own h (by omega)))
  · exact np_other (by omega) (by omega) (by omega) (by omega) (np_own h1 (by omega))
  · exact np_own h2 (by omega)
theorem pr_nh {P t p : Nat} {g : Mem} {x : Int32} (h : EP P t g) (hp : p < P) (hx : ¬ hv g p x) : ¬ hv (pr g p t) p x := by
  have h1 := h.pt1 (w := 3 * p) (by omega)
  have h2 := h1.pt1 (w := 3 * p + 1) (by omega)
  have a := nh_pt1 (w := 3 * p) (x := x) h (by rw [show 3 * p / 3 = p by omega]; exact hx)
  rw [show 3 * p / 3 = p by omega] at a
  have b := nh_pt1 (w := 3 * p + 1) (x := x) h1 (by rw [show (3 * p + 1) / 3 = p by omega]; exact a)
  rw [show (3 * p + 1) / 3 = p by omega] at b
  have c := nh_pt1 (w := 3 * p + 2) (x := x) h2 (by rw [show (3 * p + 2) / 3 = p by omega]; exact b)
  rw [show (3 * p + 2) / 3 = p by omega] at c
  exact c
theorem pr_id {t p : Nat} {g : Mem} (h : ∀ k, k < 3 → ¬ cput g (3 * p + k) t) : pr g p t = g := by
  have e0 : pt1 g t (3 * p) = g := by unfold pt1; rw [if_neg (show ¬ cput g (3 * p) t from h 0 (by omega))]
  have e1 : pt1 g t (3 * p + 1) = g := by unfold pt1; rw [if_neg (h 1 (by omega))]
  have e2 : pt1 g t (3 * p + 2) = g := by unfold pt1; rw [if_neg (h 2 (by omega))]
  unfold pr
  rw [e0, e1, e2]
theorem cput_qt {N u j w t : Nat} {g : Mem} (h : ∃ a, a ≤ 1000000 ∧ g 7 w = nI a ∧ (a = 0 ∨ u ≤ a)) (hw : w < N) (hj : j < u) : cput (qt g N j) w t ↔ cput g w t := by
  have l : lft (qt g N j) t = lft g t := by rw [lft_nc, lft_nc, qt_n _ _ _ (by omega) (by omega) (by omega), qt_n _ _ _ (by omega) (by omega) (by omega)]
  unfold cput hv
  rw [qz h hw hj, l, qt_n _ _ _ (show 6 ≠ 0 by omega) (by omega) (by omega), qt_n _ _ _ (show 2 ≠ 0 by omega) (by omega) (by omega), qt_n _ _ _ (show 14 ≠ 0 by omega) (by omega) (by omega)]
theorem ern_quiet {P p t u k n : Nat} {x : Int32} {g : Mem} (hp : p < P) (h0 : g 0 6 = 0) (hu : ∀ i, i < 3 * P → ∃ a, a ≤ 1000000 ∧ g 7 i = nI a ∧ (a = 0 ∨ u ≤ a)) (hi : ∀ k, k < 3 → ¬ cput g (3 * p + k) t) (hx : ¬ hv g p x) : ∀ j, j + 1 ≤ u → j ≤ k → ern P p t x k (n + 1) (stp g P 1).2 = ern P p t x (k - j) (n + (j + 1)) (advs P (j + 1) g).2
  | 0, _, _ => rfl
  | j + 1, h1, h2 => by
    rw [ern_quiet hp h0 hu hi hx j (by omega) (by omega)]
    have e : (advs P (j + 1) g).2 = qt g (3 * P) (j + 1) := by rw [quiet h0 hu (j + 1) (by omega)]
    have hx' : ¬ hv (qt g (3 * P) (j + 1)) p x := by
      unfold hv
      rw [qt_n _ _ _ (by omega) (by omega) (by omega)]
      exact hx
    have hi' : pr (qt g (3 * P) (j + 1)) p t = qt g (3 * P) (j + 1) := pr_id (fun k hk q => hi k hk ((cput_qt (hu _ (by omega)) (by omega) (by omega)).mp q))
    rw [advs_add P (j + 1) 1, e, show k - j = (k - (j + 1)) + 1 by omega]
    show (if hv (qt g (3 * P) (j + 1)) p x then _ else ern P p t x (k - (j + 1)) (n + (j + 1) + 1) (stp (pr (qt g (3 * P) (j + 1)) p t) P 1).2) = _
    rw [if_neg hx', hi']
    rfl
theorem s_pt1 {Q : Int32 → Mem → Prop} {P p k t : Nat} {g : Mem} (h : EP P t g) (hp : p < P) (hk : k < 3) (hq : ∀ r, Q r (pt1 g t (3 * p + k))) : vc_X1_putWorker Q g (nI p) (nI k) (nI t) := by
  have hP := h.1.1.hP
  obtain ⟨a, b, c, T, hT, eT, htT⟩ := h
  refine s_put hP a.1.pl hT eT a.1.pt ?_
  have cw : isW g (nI p) (nI k) := ⟨by rw [a.1.pl]; exact rng_of hp (by omega), nI_pos' (by omega), gec (a := 2) (b := k) (by omega)⟩
  have ct : rng (nI t) (g 12 0) := by rw [eT]; exact rng_of htT (by omega)
  have eg : gl (nI p) (nI k) = 3 * p + k := by unfold gl; rw [i3, nI_clamp (by omega)]
  have e2 : (o_put g (nI p) (nI k) (nI t)).2 = pt1 g t (3 * p + k) := by
    unfold o_put pt1
    rw [if_pos cw, if_pos ct, eg, nI_clamp (by omega)]
    split <;> rfl
  rw [e2]
  exact hq _
theorem s_untilAffordable {Q : Int32 → Mem → Prop} {P p t : Nat} {g : Mem} {x : Int32} (h : EP P t g) (hp : p < P) (hq : ∀ g', g' 0 6 = 0 → Q (ern P p t x 601 0 g) g') : vc_X1_untilAffordable Q g (nI p) x (nI t) := by
  have hP := h.1.1.hP
  have st : ∀ m k n g f, k ≤ m → n + k = 601 → 5 * k + 1 ≤ f → EP P t g → (∀ g', g' 0 6 = 0 → Q (ern P p t x k n g) g') → vl_X1_untilAffordable Q f 0 g (nI p) x (nI t) (nI n) 0 := by
    intro m
    induction m with
    | zero =>
      intro k n g f hk hn hf h hq
      obtain ⟨f, rfl⟩ : ∃ f', f = f' + 1 := ⟨f - 1, by omega⟩
      have : k = 0 := by omega
      subst this
      exact br_t (nI_lt (a := 600) (b := n) (by omega) (by omega)) (hq g h.1.1.d0)
    | succ m ih =>
      intro k n g f hk hn hf h hq
      rcases Nat.eq_zero_or_pos k with rfl | hk0
      · obtain ⟨f, rfl⟩ : ∃ f', f = f' + 1 := ⟨f - 1, by omega⟩
        exact br_t (nI_lt (a := 600) (b := n) (by omega) (by omega)) (hq g h.1.1.d0)
      · obtain ⟨k, rfl⟩ : ∃ k', k = k' + 1 := ⟨k - 1, by omega⟩
        obtain ⟨f, rfl⟩ : ∃ f', f = f' + 5 := ⟨f - 5, by omega⟩
        have eq : ern P p t x (k + 1) n g = if hv g p x then nI n else ern P p t x k (n + 1) (stp (pr g p t) P 1).2 := rfl
        refine br_f (fun q => absurd ((nI_ltI (a := 600) (b := n) (by omega) (by omega)).mp q) (by omega)) (s_have (by omega) ?_)
        by_cases c : hv g p x
        · rw [if_pos c] at eq ⊢
          rw [eq] at hq
          exact ⟨fun q => absurd q (by decide), fun _ => hq g h.1.1.d0⟩
        · rw [if_neg c] at eq ⊢
          rw [eq] at hq
          refine ⟨fun _ => ?_, fun q => absurd rfl q⟩
          have h1 := h.pt1 (w := 3 * p + 0) (by omega)
          have h2 := h1.pt1 (w := 3 * p + 1) (by omega)
          have step : ∀ f k' g', k' < 3 → EP P t g' → vl_X1_untilAffordable Q f 1 (pt1 g' t (3 * p + k')) (nI p) x (nI t) (nI n) (nI (k' + 1)) → vl_X1_untilAffordable Q (f + 1) 1 g' (nI p) x (nI t) (nI n) (nI k') := by
            intro f k' g' hk' h' hn'
            show vb_X1_untilAffordable_29 Q (vl_X1_untilAffordable Q f) g' (nI p) x (nI t) (nI n) (nI k')
            exact br_f (ltc (a := k') (b := 3) hk') (s_pt1 h' hp hk' (fun r => nm_e (by rw [nI_1]; exact hn')))
          refine step (f + 3) 0 g (by omega) h (step (f + 2) 1 _ (by omega) h1 (step (f + 1) 2 _ (by omega) h2 ?_))
          show vb_X1_untilAffordable_29 Q (vl_X1_untilAffordable Q f) (pr g p t) (nI p) x (nI t) (nI n) (nI 3)
          have h3 := h.pr hp
          have idle := pr_idle h hp
          have nh := pr_nh h hp c
          generalize pr g p t = μ at h3 idle nh hq
          obtain ⟨u, eu, u1, u2, u3, u4⟩ := unt_spec h3.1.1.gs
          refine br_t (gec (a := 3) (b := 3) (by omega)) (nm_e (s_untilNextOut (nm_e (nm_e ?_))))
          rw [eu, show (601 : Int32) - nI n = nI (k + 1) from by rw [show (601 : Int32) = nI 601 from rfl, nI_sub (by omega)]; congr 1; omega]
          obtain ⟨s, es, s1, s2, s3⟩ : ∃ s, (if 1 < (if nI u < nI (k + 1) then nI u else nI (k + 1)) then (if nI u < nI (k + 1) then nI u else nI (k + 1)) else 1) = nI s ∧ 1 ≤ s ∧ s ≤ u ∧ s ≤ k + 1 := by
            have mn : (if nI u < nI (k + 1) then nI u else nI (k + 1)) = nI (min u (k + 1)) := by
              by_cases l : u < k + 1
              · rw [if_pos (nI_lt l (by omega)), Nat.min_eq_left (by omega)]
              · rw [if_neg (fun q => l ((nI_ltI (by omega) (by omega)).mp q)), Nat.min_eq_right (by omega)]
            rw [mn]
            refine ⟨min u (k + 1), ?_, by omega, by omega, by omega⟩
            by_cases l : 1 < min u (k + 1)
            · rw [if_pos (show (1 : Int32) < nI (min u (k + 1)) from nI_lt (a := 1) l (by omega))]
            · rw [if_neg (show ¬ (1 : Int32) < nI (min u (k + 1)) from fun q => l ((nI_ltI (a := 1) (by omega) (by omega)).mp q)), show min u (k + 1) = 1 by omega]
              rfl
          rw [es]
          refine s_advance h3.1.1 (by omega) (nm_e ?_)
          rw [nI_add]
          have w3 : ∀ i, i < 3 * P → ∃ a, a ≤ 1000000 ∧ μ 7 i = nI a ∧ (a = 0 ∨ u ≤ a) := fun i hi => by
            obtain ⟨a, a1, a2, a3⟩ := u3 i (by omega)
            exact ⟨a, by omega, a2, a3⟩
          have eqq := ern_quiet (n := n) (k := k) hp h3.1.1.d0 w3 idle nh (s - 1) (by omega) (by omega)
          rw [eqq, Nat.sub_add_cancel s1] at hq
          refine ih (k - (s - 1)) (n + s) _ f (by omega) (by omega) (by omega) (EP.advs s μ h3) hq
  exact ⟨3006, st 601 601 0 g 3006 (by omega) (by omega) (by omega) h hq⟩
theorem r_earnsLoop {Q : Int32 → Mem → Prop} {P p t : Nat} {ρ : Mem} {x : Int32} (hp : p < P) (hP : P ≤ 4) (ht : t < 8) : ∀ k n g ρ' f, n + k = 601 → 5 * k + 1 ≤ f → EP P t g → RR P g ρ' → Fr (cpr ρ 1 0 4 0 164) ρ' → (∀ ρ2, KP ρ ρ2 → Q (ern P p t x k n g) ρ2) → vl_X8_earns Q f 0 ρ' (nI p) (nI t) x (nI n) 0 := by
  intro k
  induction k with
  | zero =>
    intro n g ρ' f hn hf h R' fr hq
    obtain ⟨f, rfl⟩ : ∃ f', f = f' + 1 := ⟨f - 1, by omega⟩
    refine br_t (nI_lt (a := 600) (b := n) (by omega) (by omega)) (r_copies (by omega) (br_f (ltc (a := 600) (b := n) (by omega)) (hq _ (kp_back fr))))
  | succ k ih =>
    intro n g ρ' f hn hf h R' fr hq
    obtain ⟨f, rfl⟩ : ∃ f', f = f' + 5 := ⟨f - 5, by omega⟩
    have eq : ern P p t x (k + 1) n g = if hv g p x then nI n else ern P p t x k (n + 1) (stp (pr g p t) P 1).2 := rfl
    refine br_f (fun q => absurd ((nI_ltI (a := 600) (b := n) (by omega) (by omega)).mp q) (by omega)) (r_has R' hp ?_)
    by_cases c : hv g p x
    · rw [if_pos c] at eq ⊢
      rw [eq] at hq
      exact ⟨fun _ => r_copies (by omega) (br_t (gec (a := 600) (b := n) (by omega)) (hq _ (kp_back fr))), fun q => absurd q (by decide)⟩
    · rw [if_neg c] at eq ⊢
      rw [eq] at hq
      refine ⟨fun q => absurd rfl q, fun _ => nm_e ?_⟩
      have e3 : (3 : Int32) * nI p + 3 = nI (3 * p + 3) := i3 p 3
      have step : ∀ f k' g' ρ', k' < 3 → EP P t g' → RR P g' ρ' → Fr (cpr ρ 1 0 4 0 164) ρ' → (∀ ρ', RR P (pt1 g' t (3 * p + k')) ρ' → Fr (cpr ρ 1 0 4 0 164) ρ' → vl_X8_earns Q f 1 ρ' (nI p) (nI t) x (nI n) (nI (3 * p + k' + 1))) → vl_X8_earns Q (f + 1) 1 ρ' (nI p) (nI t) x (nI n) (nI (3 * p + k')) := by
        intro f k' g' ρ' hk' h' R' fr hn'
        show vb_X8_earns_78 Q (vl_X8_earns Q f) ρ' (nI p) (nI t) x (nI n) (nI (3 * p + k'))
        refine br_f (by rw [e3]; exact ltc (a := 3 * p + k') (b := 3 * p + 3) (by omega)) (r_canPut R' h'.1.2.2 (by omega) ht ?_)
        unfold pt1 at hn'
        by_cases c : cput g' (3 * p + k') t
        · rw [if_pos c] at hn' ⊢
          exact ⟨fun q => absurd q (by decide), fun _ => r_puts R' (by omega) ht (fun ρ2 R2 fr2 => nm_e (by rw [nI_1]; exact hn' ρ2 R2 (fr.tr fr2)))⟩
        · rw [if_neg c] at hn' ⊢
          exact ⟨fun _ => nm_e (by rw [nI_1]; exact hn' ρ' R' fr), fun q => absurd rfl q⟩
      have h1 := h.pt1 (w := 3 * p + 0) (by omega)
      have h2 := h1.pt1 (w := 3 * p + 1) (by omega)
      rw [show (3 : Int32) * nI p = nI (3 * p + 0) from by rw [show (3 : Int32) = nI 3 from rfl, pk_mul]; rfl]
      refine step (f + 3) 0 g ρ' (by omega) h R' fr (fun ρ1 R1 fr1 => step (f + 2) 1 _ ρ1 (by omega) h1 R1 fr1 (fun ρ2 R2 fr2 => step (f + 1) 2 _ ρ2 (by omega) h2 R2 fr2 (fun ρ3 R3 fr3 => ?_)))
      show vb_X8_earns_78 Q (vl_X8_earns Q f) ρ3 (nI p) (nI t) x (nI n) (nI (3 * p + 3))
      have h3 := h.pr hp
      refine br_t (by rw [e3]; exact gec (a := 3 * p + 3) (b := 3 * p + 3) (by omega)) (r_go (g := pr g p t) R3 h3.1 (fun ρ4 R4 fr4 => nm_e ?_))
      rw [nI_1]
      exact ih (n + 1) _ ρ4 f (by omega) (by omega) h3.stp R4 (fr3.tr fr4) hq
theorem q_earns {K : Mem → Mem → Prop} {P T C : Nat} {ξ γ τ η ο ρ : Mem} {σ : Nat → Mem} {x y z : Int32} (h : RR P γ ρ) (hg : GO P γ) (hs : ∀ i, i < 12 → γ 5 i ≠ 0) (hc : ∀ t, t < 8 → 0 ≤ γ 14 t ∧ γ 14 t ≤ 999) (hT : T ≤ 8) (eT : γ 12 0 = nI T) (hC : C ≤ 6) (eC : γ 18 0 = nI C) (h0 : τ 0 6 = 0) (hk : ∀ τ' ρ', τ' 0 6 = 0 → KP ρ ρ' → K τ' ρ') :
    vc_X7_earns (fun r τ' => vc_X8_earns (fun r' ρ' => (r = r' → K τ' ρ') ∧ (¬ r = r' → False)) ρ x y z) ξ γ τ η σ ο x y z := by
  have hP := h.1
  have k0 := hk τ ρ h0 KP.rfl'
  refine s_hasPlayer hg.1.pt ?_
  by_cases c : rng x (γ 1 0)
  · rw [if_pos c]
    have c' := c
    rw [h.2.1] at c'
    obtain ⟨p, hp, ex⟩ := rng_nat (by omega) c'
    refine ⟨fun q => absurd q (by decide), fun _ => s_hasContract hg.1.pt ?_⟩
    by_cases c2 : rng y (γ 18 0)
    · rw [if_pos c2]
      have c2' := c2
      rw [eC] at c2'
      obtain ⟨d, hd, ey⟩ := rng_nat (by omega) c2'
      refine ⟨fun q => absurd q (by decide), fun _ => s_hasTask hg.1.pt ?_⟩
      by_cases c3 : rng z (γ 12 0)
      · rw [if_pos c3]
        have c3' := c3
        rw [eT] at c3'
        obtain ⟨t, ht, ez⟩ := rng_nat (by omega) c3'
        refine ⟨fun _ => s_copyFrom (fun τ1 cp e0 => ⟨by rw [ey]; exact vp_in_nI (by omega) (by omega), ?_⟩), fun q => absurd q (by decide)⟩
        have G' := hg.cp cp (e0.trans h0)
        have R' := h.cp cp
        have E' : EP P t τ1 := ⟨G', by rw [cp.r (c := 5) rfl]; exact hs, by rw [cp.r (c := 14) rfl]; exact hc t (by omega), T, hT, cp.2.2.2.2.2.1.trans eT, ht⟩
        have rf : ∀ τ2 : Mem, τ2 0 6 = 0 → vc_X8_earns (fun r' ρ' => (ern P p t (γ 19 d) 601 0 τ1 = r' → K τ2 ρ') ∧ (¬ ern P p t (γ 19 d) 601 0 τ1 = r' → False)) ρ x y z := by
          intro τ2 h2
          refine ⟨3006, r_isP h ?_⟩
          rw [if_pos c]
          refine ⟨fun q => absurd q (by decide), fun _ => r_isC h ?_⟩
          rw [if_pos c2]
          refine ⟨fun q => absurd q (by decide), fun _ => r_isT h ?_⟩
          rw [if_pos c3]
          refine ⟨fun _ => ?_, fun q => absurd q (by decide)⟩
          rw [ex, ey, ez, show (152 : Int32) + 2 * nI d = nI (152 + 2 * d) from by rw [show (152 : Int32) = nI 152 from rfl, show (2 : Int32) = nI 2 from rfl, pk_mul, nI_add], nI_clamp (by omega), h.r 19 d (j := 152 + 2 * d) (by simp [liv]; omega) rfl]
          refine ⟨vp_in_nI (by omega) (by omega), nm_e (r_copies (by omega) ?_)⟩
          exact r_earnsLoop (ρ := ρ) hp hP (by omega) 601 0 τ1 _ 3006 (by omega) (by omega) E' R'.copy Fr.rfl' (fun ρ2 kp => sme rfl (hk _ _ h2 kp))
        rw [ex, ey, ez] at rf ⊢
        rw [nI_clamp (by omega)]
        exact s_untilAffordable E' hp rf
      · rw [if_neg c3]
        refine ⟨fun q => absurd rfl q, fun _ => ⟨0, r_isP h ?_⟩⟩
        rw [if_pos c]
        refine ⟨fun q => absurd q (by decide), fun _ => r_isC h ?_⟩
        rw [if_pos c2]
        refine ⟨fun q => absurd q (by decide), fun _ => r_isT h ?_⟩
        rw [if_neg c3]
        exact ⟨fun q => absurd rfl q, fun _ => sme rfl k0⟩
    · rw [if_neg c2]
      refine ⟨fun _ => ⟨0, r_isP h ?_⟩, fun q => absurd rfl q⟩
      rw [if_pos c]
      refine ⟨fun q => absurd q (by decide), fun _ => r_isC h ?_⟩
      rw [if_neg c2]
      exact ⟨fun _ => sme rfl k0, fun q => absurd rfl q⟩
  · rw [if_neg c]
    refine ⟨fun _ => ⟨0, r_isP h ?_⟩, fun q => absurd rfl q⟩
    rw [if_neg c]
    exact ⟨fun _ => sme rfl k0, fun q => absurd rfl q⟩
