/-- the players that have the goods, of the first n -/
def awh (γ : Mem) (x : Int32) : Nat → Int32
  | 0 => 0
  | n + 1 => if hv γ n x then awh γ x n ||| (1 <<< (nI n &&& 31)) else awh γ x n
theorem s_allWhoHave {Q : Int32 → Prop} {P : Nat} {γ : Mem} {x : Int32} (hP : P ≤ 4) (e : γ 1 0 = nI P) (h : Q (awh γ x P)) : vc_X5_allWhoHave Q γ x := by
  have st : ∀ k n, n + k = P → vl_X5_allWhoHave Q γ (k + 1) 0 x (awh γ x n) (nI n) := by
    intro k
    induction k with
    | zero =>
      intro n hn
      refine br_t (by rw [e]; exact gec (a := n) (b := P) (by omega)) ?_
      rw [show n = P by omega]; exact h
    | succ k ih =>
      intro n hn
      have nx := ih (n + 1) (by omega)
      unfold awh at nx
      refine br_f (by rw [e]; exact ltc (a := n) (b := P) (by omega)) (br_f (ltc (a := n) (b := 4) (by omega)) (s_have (by omega) ?_))
      by_cases c : hv γ n x
      · rw [if_pos c] at nx ⊢
        exact ⟨fun q => absurd q (by decide), fun _ => nm_e (nm_e (by rw [nI_1]; exact nx))⟩
      · rw [if_neg c] at nx ⊢
        exact ⟨fun _ => nm_e (by rw [nI_1]; exact nx), fun q => absurd rfl q⟩
  exact ⟨P + 1, st P 0 (by omega)⟩
theorem r_allWho {Q : Int32 → Prop} {P C t : Nat} {γ ρ : Mem} (h : RR P γ ρ) (ht : t < 6) (hq : Q (awh γ (γ 19 t) P)) : ∀ k n, n + k = P → vl_X8_contractOf Q ρ (k + 1) 0 (nI t) (awh γ (γ 19 t) n) (nI n) := by
  have hP := h.1
  intro k
  induction k with
  | zero =>
    intro n hn
    refine br_t (by rw [show (0 : Int32).toNatClampNeg = 0 from rfl, h.p]; exact gec (a := n) (b := P) (by omega)) ?_
    rw [show n = P by omega]; exact hq
  | succ k ih =>
    intro n hn
    have nx := ih (n + 1) (by omega)
    unfold awh at nx
    refine br_f (by rw [show (0 : Int32).toNatClampNeg = 0 from rfl, h.p]; exact ltc (a := n) (b := P) (by omega)) ?_
    rw [show (152 : Int32) + 2 * nI t = nI (152 + 2 * t) from by rw [show (152 : Int32) = nI 152 from rfl, show (2 : Int32) = nI 2 from rfl, pk_mul, nI_add], nI_clamp (by omega), h.r 19 t (j := 152 + 2 * t) (by simp [liv]; omega) rfl]
    refine ⟨vp_in_nI (by omega) (by omega), r_has h (by omega) ?_⟩
    by_cases c : hv γ n (γ 19 t)
    · rw [if_pos c] at nx ⊢
      exact ⟨fun q => absurd q (by decide), fun _ => nm_e (nm_e (by rw [nI_1]; exact nx))⟩
    · rw [if_neg c] at nx ⊢
      exact ⟨fun _ => nm_e (nm_e (by rw [nI_1, Int32.or_zero]; exact nx)), fun q => absurd rfl q⟩
theorem q_contractOf {K : Prop} {P C : Nat} {ξ γ τ η ο ρ : Mem} {σ : Nat → Mem} {x z : Int32} (h : RR P γ ρ) (hp : PT γ) (hC : C ≤ 6) (eC : γ 18 0 = nI C) (hk : K) :
    vc_X7_contractOf (fun r => vc_X8_contractOf (fun r' => (r = r' → K) ∧ (¬ r = r' → False)) ρ x z) ξ γ τ η σ ο x z := by
  have hP := h.1
  refine s_hasContract hp ?_
  by_cases c : rng x (γ 18 0)
  · rw [if_pos c]
    have c' := c
    rw [eC] at c'
    obtain ⟨t, ht, et⟩ := rng_nat (by omega) c'
    refine ⟨fun q => absurd q (by decide), fun _ => ?_⟩
    rw [e_win]
    by_cases c2 : 0 ≤ z ∧ z ≤ 2
    · rw [if_pos c2]
      refine ⟨fun _ => ?_, fun q => absurd q (by decide)⟩
      obtain ⟨j, hj, ej⟩ := nat_le (m := 2) (by omega) c2.1 c2.2
      have rf : ∀ v : Int32, (j < 2 → v = ρ 1 (152 + 2 * t + j)) → (j = 2 → v = awh γ (γ 19 t) P) → vc_X8_contractOf (fun r' => (v = r' → K) ∧ (¬ v = r' → False)) ρ x z := by
        intro v h1 h2
        refine ⟨P + 1, r_isC h ?_⟩
        rw [if_pos c]
        refine ⟨fun q => absurd q (by decide), fun _ => ?_⟩
        rw [e_rin, if_pos c2]
        refine ⟨fun _ => ?_, fun q => absurd q (by decide)⟩
        rw [et, ej]
        rcases (show j < 2 ∨ j = 2 by omega) with hj4 | rfl
        · refine br_f (ltc (a := j) (b := 2) hj4) ?_
          rw [i2, nI_clamp (by omega)]
          exact ⟨vp_in_nI (by omega) (by omega), sme (h1 hj4) hk⟩
        · exact br_t (by decide) (r_allWho (C := C) h (by omega) (sme (h2 rfl) hk) P 0 (by omega))
      have vi : vp_in x 6 := by rw [et]; exact vp_in_nI (by omega) (by omega)
      have ec : x.toNatClampNeg = t := by rw [et, nI_clamp (by omega)]
      rw [ec]
      refine ⟨vi, nm_e ?_⟩
      rcases (show j = 0 ∨ j = 1 ∨ j = 2 by omega) with rfl | rfl | rfl
      · rw [show z = 0 from ej] at rf ⊢
        exact br_t rfl (rf _ (fun _ => (h.r 19 t (by simp [liv]; omega) rfl).symm) (fun q => absurd q (by decide)))
      · rw [show z = 1 from ej] at rf ⊢
        exact br_f (by decide) (br_t rfl (rf _ (fun _ => (h.r 20 t (by simp [liv]; omega) rfl).symm) (fun q => absurd q (by decide))))
      · rw [show z = 2 from ej] at rf ⊢
        exact br_f (by decide) (br_f (by decide) (s_allWhoHave hP h.2.1 (rf _ (fun q => absurd q (by decide)) (fun _ => rfl))))
    · rw [if_neg c2]
      refine ⟨fun q => absurd rfl q, fun _ => ⟨0, r_isC h ?_⟩⟩
      rw [if_pos c]
      refine ⟨fun q => absurd q (by decide), fun _ => ?_⟩
      rw [e_rin, if_neg c2]
      exact ⟨fun q => absurd rfl q, fun _ => sme rfl hk⟩
  · rw [if_neg c]
    refine ⟨fun _ => ⟨0, r_isC h ?_⟩, fun q => absurd rfl q⟩
    rw [if_neg c]
    exact ⟨fun _ => sme rfl hk, fun q => absurd rfl q⟩
/-- how many of the first n glasses were put ahead of w on its task -/
def ahd (γ : Mem) (w : Nat) : Nat → Int32
  | 0 => 0
  | n + 1 => if γ 6 n = γ 6 w ∧ γ 8 n < γ 8 w then ahd γ w n + 1 else ahd γ w n
theorem s_aheadOnTask {Q : Int32 → Prop} {γ : Mem} {w : Nat} (hw : w < 12) (h : Q (ahd γ w 12)) : vc_X2_aheadOnTask Q γ (nI w) := by
  have st : ∀ k n, n + k = 12 → vl_X2_aheadOnTask Q γ (k + 1) 0 (nI w) (ahd γ w n) (nI n) := by
    intro k
    induction k with
    | zero =>
      intro n hn
      refine br_t (gec (a := n) (b := 12) (by omega)) ?_
      rw [show n = 12 by omega]; exact h
    | succ k ih =>
      intro n hn
      have nx := ih (n + 1) (by omega)
      unfold ahd at nx
      refine br_f (ltc (a := n) (b := 12) (by omega)) ⟨vp_in_nI (by omega) (by omega), vp_in_nI (by omega) (by omega), ?_⟩
      rw [nI_clamp (n := n) (by omega), nI_clamp (n := w) (by omega)]
      refine ⟨fun c => nm_e ?_, fun c => ⟨fun c2 => nm_e ?_, fun c2 => nm_e (nm_e ?_)⟩⟩
      · rw [if_neg (fun q => c q.1)] at nx; rw [nI_1]; exact nx
      · rw [if_neg (fun q => by have := q.2; grind)] at nx; rw [nI_1]; exact nx
      · rw [if_pos ⟨c, by grind⟩] at nx; rw [nI_1]; exact nx
  exact ⟨13, st 12 0 (by omega)⟩
/-- the glass w stands at the place on the task -/
abbrev atp (γ : Mem) (x pl : Int32) (w : Nat) : Prop := γ 6 w = x ∧ ahd γ w 12 = pl
theorem s_atPlace {Q : Int32 → Prop} {γ : Mem} {x pl : Int32} (h1 : ∀ w, w < 12 → atp γ x pl w → (∀ i, i < w → ¬ atp γ x pl i) → Q (nI w)) (h2 : (∀ i, i < 12 → ¬ atp γ x pl i) → Q (-1)) : vc_X2_atPlace Q γ x pl := by
  have st : ∀ k n, n + k = 12 → (∀ i, i < n → ¬ atp γ x pl i) → vl_X2_atPlace Q γ (k + 1) 0 x pl (nI n) := by
    intro k
    induction k with
    | zero =>
      intro n hn hno
      refine br_t (gec (a := n) (b := 12) (by omega)) (h2 ?_)
      rw [show n = 12 by omega] at hno; exact hno
    | succ k ih =>
      intro n hn hno
      refine br_f (ltc (a := n) (b := 12) (by omega)) ⟨vp_in_nI (by omega) (by omega), ?_⟩
      rw [nI_clamp (n := n) (by omega), nI_1]
      have nx : ¬ atp γ x pl n → vl_X2_atPlace Q γ (k + 1) 0 x pl (nI (n + 1)) := fun q => ih (n + 1) (by omega) (fun i hi => by
        by_cases e : i = n
        · rw [e]; exact q
        · exact hno i (by omega))
      refine ⟨fun c => nm_e (nx (fun q => c q.1)), fun c => s_aheadOnTask (by omega) ⟨fun c2 => nm_e (nx (fun q => c2 q.2)), fun c2 => h1 n (by omega) ⟨c, c2⟩ hno⟩⟩
  exact ⟨13, st 12 0 (by omega) (fun i hi => by omega)⟩
theorem ahd_at {P t w : Nat} {γ : Mem} (ha : AT P γ) (ht : t < 8) (e : γ 6 w = nI t) : ∀ j, 3 * P + j ≤ 12 → ahd γ w (3 * P + j) = ahd γ w (3 * P)
  | 0, _ => rfl
  | j + 1, h => by
    show (if γ 6 (3 * P + j) = γ 6 w ∧ γ 8 (3 * P + j) < γ 8 w then _ else ahd γ w (3 * P + j)) = _
    rw [if_neg (fun q => by
      have h1 := q.1
      rw [ha _ (by omega) (by omega), e] at h1
      exact nI_m1 (by omega) h1.symm)]
    exact ahd_at ha ht e j (by omega)
theorem r_told {Q : Int32 → Prop} {w : Nat} (hw : w < 12) (h : Q (nI (10 * (w / 3) + w % 3))) : vc_X8_told Q (nI w) := by
  unfold vc_X8_told
  have e : nI w / 3 * 10 + (nI w - nI w / 3 * 3) = nI (10 * (w / 3) + w % 3) := by
    rw [div3 (by omega), show (10 : Int32) = nI 10 from rfl, show (3 : Int32) = nI 3 from rfl, pk_mul, pk_mul, nI_sub (by omega), nI_add]
    congr 1; omega
  rw [e]; exact h
theorem s_told {Q : Int32 → Prop} {w : Nat} (hw : w < 12) (h : Q (nI (10 * (w / 3) + w % 3))) : vc_X7_toldOf Q (nI w) := by
  show Q (10 * (nI w / 3) + (nI w - nI w / 3 * 3))
  have e : 10 * (nI w / 3) + (nI w - nI w / 3 * 3) = nI (10 * (w / 3) + w % 3) := by
    rw [div3 (by omega), show (10 : Int32) = nI 10 from rfl, show (3 : Int32) = nI 3 from rfl, pk_mul, pk_mul, nI_sub (by omega), nI_add]
    congr 1; omega
  rw [e]; exact h
theorem r_onLoop {Q : Int32 → Prop} {P t : Nat} {γ ρ : Mem} {pl : Int32} (h : RR P γ ρ) (ha : AT P γ) (ht : t < 8) (h1 : ∀ w, w < 12 → atp γ (nI t) pl w → (∀ i, i < w → ¬ atp γ (nI t) pl i) → Q (nI (10 * (w / 3) + w % 3))) (h2 : (∀ i, i < 12 → ¬ atp γ (nI t) pl i) → Q (-1000004)) : ∀ k n f, n + k = 3 * P → (k + 1) * 15 ≤ f → (∀ i, i < n → ¬ atp γ (nI t) pl i) → vl_X8_on Q ρ f 0 (nI t) pl (nI n) 0 0 := by
  have hP := h.1
  intro k
  induction k with
  | zero =>
    intro n f hn hf hno
    obtain ⟨f, rfl⟩ : ∃ f', f = f' + 1 := ⟨f - 1, by omega⟩
    show vb_X8_on_17 Q ρ (vl_X8_on Q ρ f) (nI t) pl (nI n)
    refine r_workers h (br_t (gec (a := n) (b := 3 * P) (by omega)) (h2 (fun i hi => ?_)))
    by_cases e : i < n
    · exact hno i e
    · intro q
      have := q.1
      rw [ha i (by omega) hi] at this
      exact nI_m1 (by omega) this.symm
  | succ k ih =>
    intro n f hn hf hno
    obtain ⟨f, rfl⟩ : ∃ f', f = f' + 1 := ⟨f - 1, by omega⟩
    show vb_X8_on_17 Q ρ (vl_X8_on Q ρ f) (nI t) pl (nI n)
    refine r_workers h (br_f (ltc (a := n) (b := 3 * P) (by omega)) ?_)
    have nx : ∀ f, (k + 1) * 15 ≤ f → ¬ atp γ (nI t) pl n → vl_X8_on Q ρ f 0 (nI t) pl (nI (n + 1)) 0 0 := fun f hf q => ih (n + 1) f (by omega) hf (fun i hi => by
        by_cases e : i = n
        · rw [e]; exact q
        · exact hno i (by omega))
    have hn12 : n < 12 := by omega
    have r6 : ∀ i, i < 3 * P → ρ 1 (28 + 7 * i + 1) = γ 6 i := fun i hi => h.r 6 i (by simp [liv]; omega) rfl
    have r8 : ∀ i, i < 3 * P → ρ 1 (28 + 7 * i + 6) = γ 8 i := fun i hi => h.r 8 i (by simp [liv]; omega) rfl
    have inner : ∀ j m v f, m + j = 3 * P → j + 1 + (k + 1) * 15 ≤ f → (γ 6 n = nI t → v = ahd γ n m) → vl_X8_on Q ρ f 1 (nI t) pl (nI n) v (nI m) := by
      intro j
      induction j with
      | zero =>
        intro m v f hm hf hv
        obtain ⟨f, rfl⟩ : ∃ f', f = f' + 1 := ⟨f - 1, by omega⟩
        show vb_X8_on_31 Q ρ (vl_X8_on Q ρ f) (nI t) pl (nI n) v (nI m)
        refine r_workers h (br_t (gec (a := m) (b := 3 * P) (by omega)) (r_of 1 (by omega) (by omega) ?_))
        rw [r6 n (by omega), nI_1]
        refine ⟨fun c => nm_e (nx f (by omega) (fun q => c q.1)), fun c => ?_⟩
        have e12 : ahd γ n 12 = ahd γ n (3 * P) := by
          have := ahd_at ha ht c (12 - 3 * P) (by omega)
          rw [show 3 * P + (12 - 3 * P) = 12 by omega] at this
          exact this
        have hv' := hv c
        rw [show m = 3 * P by omega, ← e12] at hv'
        refine ⟨fun c2 => nm_e (nx f (by omega) (fun q => c2 (hv'.trans q.2))), fun c2 => r_told (by omega) (h1 n hn12 ⟨c, hv'.symm.trans c2⟩ hno)⟩
      | succ j ihj =>
        intro m v f hm hf hv
        obtain ⟨f, rfl⟩ : ∃ f', f = f' + 1 := ⟨f - 1, by omega⟩
        show vb_X8_on_31 Q ρ (vl_X8_on Q ρ f) (nI t) pl (nI n) v (nI m)
        refine r_workers h (br_f (ltc (a := m) (b := 3 * P) (by omega)) (r_of 1 (by omega) (by omega) ?_))
        rw [r6 m (by omega), nI_1]
        have nxj : ∀ v', (γ 6 n = nI t → v' = ahd γ n (m + 1)) → vl_X8_on Q ρ f 1 (nI t) pl (nI n) v' (nI (m + 1)) := fun v' hv' => ihj (m + 1) v' f (by omega) (by omega) hv'
        refine ⟨fun c => nm_e (nm_e (nxj _ (fun q => ?_))), fun c => r_of 6 (by omega) (by omega) (r_of 6 (by omega) (by omega) ?_)⟩
        · rw [Int32.add_zero, hv q]
          show _ = if γ 6 m = γ 6 n ∧ γ 8 m < γ 8 n then _ else ahd γ n m
          rw [if_neg (fun z => c (z.1.trans q))]
        · rw [r8 m (by omega), r8 n (by omega)]
          refine ⟨fun c2 => nm_e (nm_e (nxj _ (fun q => ?_))), fun c2 => nm_e (nm_e (nxj _ (fun q => ?_)))⟩
          · rw [Int32.add_zero, hv q]
            show _ = if γ 6 m = γ 6 n ∧ γ 8 m < γ 8 n then _ else ahd γ n m
            rw [if_neg (fun z => by have := z.2; grind)]
          · rw [hv q]
            show _ = if γ 6 m = γ 6 n ∧ γ 8 m < γ 8 n then _ else ahd γ n m
            rw [if_pos ⟨c.trans q.symm, by grind⟩]
    exact inner (3 * P) 0 0 f (by omega) (by omega) (fun _ => rfl)
theorem q_on {K : Prop} {P T : Nat} {ξ γ τ η ο ρ : Mem} {σ : Nat → Mem} {x z : Int32} (h : RR P γ ρ) (ha : AT P γ) (hp : PT γ) (hT : T ≤ 8) (eT : γ 12 0 = nI T) (hk : K) :
    vc_X7_on (fun r => vc_X8_on (fun r' => (r = r' → K) ∧ (¬ r = r' → False)) ρ x z) ξ γ τ η σ ο x z := by
  have hP := h.1
  refine s_hasTask hp ?_
  by_cases c : rng x (γ 12 0)
  · rw [if_pos c]
    have c' := c
    rw [eT] at c'
    obtain ⟨t, ht, et⟩ := rng_nat (by omega) c'
    refine ⟨fun q => absurd q (by decide), fun _ => ?_⟩
    by_cases c2 : 0 ≤ z
    · refine br_t c2 ?_
      have rf : ∀ v : Int32, (∀ w, w < 12 → atp γ (nI t) z w → (∀ i, i < w → ¬ atp γ (nI t) z i) → v = nI (10 * (w / 3) + w % 3)) → ((∀ i, i < 12 → ¬ atp γ (nI t) z i) → v = -1000004) → vc_X8_on (fun r' => (v = r' → K) ∧ (¬ v = r' → False)) ρ x z := by
        intro v h1 h2
        refine ⟨300, r_isT h ?_⟩
        rw [if_pos c]
        refine ⟨fun q => absurd q (by decide), fun _ => br_t c2 ?_⟩
        rw [et]
        exact r_onLoop h ha (by omega) (fun w hw q1 q2 => sme (h1 w hw q1 q2) hk) (fun q => sme (h2 q) hk) (3 * P) 0 300 (by omega) (by omega) (fun i hi => by omega)
      rw [et] at rf ⊢
      refine s_atPlace (fun w hw q1 q2 => ⟨fun _ => s_told hw (rf _ (fun w' hw' q1' q2' => ?_) (fun q => absurd q1 (q w hw))), fun q => absurd q (nI_m1 (by omega))⟩) (fun q => ⟨fun c => absurd rfl c, fun _ => rf _ (fun w' hw' q1' _ => absurd q1' (q w' hw')) (fun _ => rfl)⟩)
      have : w = w' := by
        rcases Nat.lt_trichotomy w w' with l | l | l
        · exact absurd q1 (q2' w l)
        · exact l
        · exact absurd q1' (q2 w' l)
      rw [this]
    · refine br_f c2 ⟨0, r_isT h ?_⟩
      rw [if_pos c]
      exact ⟨fun q => absurd q (by decide), fun _ => br_f c2 (sme rfl hk)⟩
  · rw [if_neg c]
    refine ⟨fun _ => ⟨0, r_isT h ?_⟩, fun q => absurd rfl q⟩
    rw [if_neg c]
    exact ⟨fun _ => sme rfl hk, fun q => absurd rfl q⟩
