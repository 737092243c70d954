/-- the best of the first n tasks -/
def bst (γ : Mem) (w : Nat) : Nat → Int32
  | 0 => -1
  | n + 1 => if cput γ w n then (if bst γ w n = -1 then nI n else if dif γ n ≤ dif γ (bst γ w n).toNatClampNeg then bst γ w n else nI n) else bst γ w n
theorem bst_spec (γ : Mem) (w : Nat) : ∀ n, n ≤ 8 → bst γ w n = -1 ∨ ∃ b, b < n ∧ bst γ w n = nI b
  | 0, _ => Or.inl rfl
  | n + 1, hn => by
    have ih := bst_spec γ w n (by omega)
    have eb : bst γ w (n + 1) = if cput γ w n then (if bst γ w n = -1 then nI n else if dif γ n ≤ dif γ (bst γ w n).toNatClampNeg then bst γ w n else nI n) else bst γ w n := rfl
    rw [eb]
    have k : bst γ w n = -1 ∨ ∃ b, b < n + 1 ∧ bst γ w n = nI b := by
      rcases ih with e | ⟨b, hb, e⟩
      · exact Or.inl e
      · exact Or.inr ⟨b, by omega, e⟩
    have k2 : nI n = -1 ∨ ∃ b, b < n + 1 ∧ nI n = nI b := Or.inr ⟨n, by omega, rfl⟩
    by_cases c1 : cput γ w n
    · rw [if_pos c1]
      by_cases c2 : bst γ w n = -1
      · rw [if_pos c2]; exact k2
      · rw [if_neg c2]
        by_cases c3 : dif γ n ≤ dif γ (bst γ w n).toNatClampNeg
        · rw [if_pos c3]; exact k
        · rw [if_neg c3]; exact k2
    · rw [if_neg c1]; exact k
theorem s_bestTask {Q : Int32 → Prop} {T w : Nat} {γ : Mem} (hT : T ≤ 8) (eT : γ 12 0 = nI T) (hw : w < 12) (h : Q (bst γ w T)) : vc_X1_bestTask Q γ (nI w) := by
  have st : ∀ k n, n + k = T → vl_X1_bestTask Q γ (k + 1) 0 (nI w) (bst γ w n) (nI n) := by
    intro k
    induction k with
    | zero =>
      intro n hn
      refine br_t (by rw [eT]; exact gec (a := n) (b := T) (by omega)) ?_
      rw [show n = T by omega]; exact h
    | succ k ih =>
      intro n hn
      have nx := ih (n + 1) (by omega)
      have hs := bst_spec γ w n (by omega)
      unfold bst at nx
      refine br_f (by rw [eT]; exact ltc (a := n) (b := T) (by omega)) (br_f (ltc (a := n) (b := 8) (by omega)) (s_canBePut hw (by omega) ?_))
      by_cases c1 : cput γ w n
      · rw [if_pos c1] at nx ⊢
        refine ⟨fun q => absurd q (by decide), fun _ => ?_⟩
        rcases hs with e | ⟨b, hb, e⟩
        · rw [if_pos e] at nx
          exact br_t e (nm_e (by rw [nI_1]; exact nx))
        · have ne : ¬ bst γ w n = -1 := by rw [e]; exact nI_m1 (by omega)
          rw [if_neg ne] at nx
          refine br_f ne ?_
          rw [e] at nx ⊢
          rw [nI_clamp (by omega)] at nx
          refine s_difference (by omega) (s_difference (by omega) ⟨fun q => nm_e ?_, fun q => nm_e ?_⟩)
          · rw [if_pos q] at nx; rw [nI_1]; exact nx
          · rw [if_neg q] at nx; rw [nI_1]; exact nx
      · rw [if_neg c1] at nx ⊢
        exact ⟨fun _ => nm_e (by rw [nI_1]; exact nx), fun q => absurd rfl q⟩
  exact ⟨T + 1, st T 0 (by omega)⟩
theorem r_sum {Q : Int32 → Prop} {ρ : Mem} {x : Int32} (h : Q (all3 x)) : vc_X8_sum Q ρ x := by
  unfold vc_X8_sum
  rw [show (0 : Int32) = nI 0 from rfl, e_amount _ _ (by omega), show (1 : Int32) = nI 1 from rfl, e_amount _ _ (by omega), show (2 : Int32) = nI 2 from rfl, e_amount _ _ (by omega)]
  exact h
theorem r_bestLoop {Q : Int32 → Prop} {P T w : Nat} {γ ρ : Mem} {z : Int32} (h : RR P γ ρ) (ha : AT P γ) (hT : T ≤ 8) (eT : γ 12 0 = nI T) (hw : w < 3 * P) (h1 : bst γ w T = -1 → Q (-1000004)) (h2 : ∀ b, b < T → bst γ w T = nI b → (¬ z = 0 → Q (dif γ b + 100)) ∧ (z = 0 → Q (nI b))) : ∀ k n (v m : Int32), n + k = T → (bst γ w n = -1 → v = -1000004) → (∀ b, b < n → bst γ w n = nI b → v = nI b ∧ m = dif γ b) → vl_X8_best Q ρ (k + 1) 0 z (nI w) v m (nI n) := by
  have hP := h.1
  have e1 : ρ 1 (1 : Int32).toNatClampNeg = nI T := (h.r 12 0 (j := 1) (by simp [liv]) rfl).trans eT
  intro k
  induction k with
  | zero =>
    intro n v m hn hv1 hv2
    refine br_t (by rw [e1]; exact gec (a := n) (b := T) (by omega)) ?_
    have en : n = T := by omega
    subst en
    rcases bst_spec γ w n (by omega) with e | ⟨b, hb, e⟩
    · rw [hv1 e]; exact br_t (by decide) (h1 e)
    · obtain ⟨ev, em⟩ := hv2 b hb e
      rw [ev, em]
      exact br_f (nn (by omega)) (h2 b hb e)
  | succ k ih =>
    intro n v m hn hv1 hv2
    refine br_f (by rw [e1]; exact ltc (a := n) (b := T) (by omega)) (r_ofTask 2 (by omega) (by omega) (r_sum (r_ofTask 1 (by omega) (by omega) (r_sum (nm_e (r_canPut h ha hw (by omega) ?_))))))
    rw [h.r 15 n (j := 112 + 5 * n + 2) (by simp [liv]; omega) rfl, h.r 14 n (j := 112 + 5 * n + 1) (by simp [liv]; omega) rfl, show all3 (γ 15 n) - all3 (γ 14 n) = dif γ n from rfl, nI_1]
    have eb : bst γ w (n + 1) = if cput γ w n then (if bst γ w n = -1 then nI n else if dif γ n ≤ dif γ (bst γ w n).toNatClampNeg then bst γ w n else nI n) else bst γ w n := rfl
    have hs := bst_spec γ w n (by omega)
    have nxn : bst γ w (n + 1) = nI n → vl_X8_best Q ρ (k + 1) 0 z (nI w) (nI n) (dif γ n) (nI (n + 1)) := fun q => ih (n + 1) _ _ (by omega) (fun q2 => absurd (q.symm.trans q2) (nI_m1 (by omega))) (fun b hb q2 => by
      have : n = b := by
        have e := nI_clamp (n := n) (by omega)
        rw [q.symm.trans q2, nI_clamp (by omega)] at e
        exact e.symm
      subst this
      exact ⟨rfl, rfl⟩)
    have nxo' : bst γ w (n + 1) = bst γ w n → vl_X8_best Q ρ (k + 1) 0 z (nI w) v m (nI (n + 1)) := fun q => ih (n + 1) _ _ (by omega) (fun q2 => hv1 (q.symm.trans q2)) (fun b hb q2 => by
      rcases hs with e | ⟨b', hb', e⟩
      · exact absurd ((q2.symm.trans q).trans e) (nI_m1 (by omega))
      · have : b = b' := by
          have e5 := nI_clamp (n := b) (by omega)
          rw [q2.symm.trans (q.trans e), nI_clamp (by omega)] at e5
          exact e5.symm
        subst this
        exact hv2 b hb' e)
    by_cases c1 : cput γ w n
    · rw [if_pos c1] at eb ⊢
      refine ⟨fun q => absurd q (by decide), fun _ => ?_⟩
      rcases hs with e | ⟨b, hb, e⟩
      · rw [if_pos e] at eb
        rw [hv1 e]
        exact br_t (by decide) (nm_e (nxn eb))
      · have ne : ¬ bst γ w n = -1 := by rw [e]; exact nI_m1 (by omega)
        obtain ⟨ev, em⟩ := hv2 b hb e
        rw [if_neg ne] at eb
        refine br_f (by rw [ev]; exact nn (by omega)) ?_
        rw [em]
        rw [show (bst γ w n).toNatClampNeg = b by rw [e, nI_clamp (by omega)]] at eb
        refine ⟨fun c => nm_e ?_, fun c => nm_e ?_⟩
        · rw [if_pos c] at eb; rw [← em]; exact nxo' eb
        · rw [if_neg c] at eb; exact nxn eb
    · rw [if_neg c1] at eb ⊢
      exact ⟨fun _ => nm_e (nxo' eb), fun q => absurd rfl q⟩
theorem q_best {K : Prop} {P T : Nat} {ξ γ τ η ο ρ : Mem} {σ : Nat → Mem} {x y z : Int32} (h : RR P γ ρ) (gs : GS γ) (ha : AT P γ) (hp : PT γ) (hT : T ≤ 8) (eT : γ 12 0 = nI T) (hk : K) :
    vc_X7_best (fun r => vc_X8_best (fun r' => (r = r' → K) ∧ (¬ r = r' → False)) ρ x y z) ξ γ τ η σ ο x y z := by
  have hP := h.1
  refine s_hasW hp ?_
  by_cases c : isW γ x y
  · rw [if_pos c]
    obtain ⟨p, k, hp', hk', ex, ey, e3, eg⟩ := gl_spec hP h.2.1 c
    refine ⟨fun q => absurd q (by decide), fun _ => ?_⟩
    rw [e_win]
    by_cases c2 : 0 ≤ z ∧ z ≤ 1
    · rw [if_pos c2]
      refine ⟨fun _ => s_gl ?_, fun q => absurd q (by decide)⟩
      rw [e3]
      obtain ⟨zz, a, g5, g7, haz, hz⟩ := gs (3 * p + k) (by omega)
      have r7 : ρ 1 (28 + 7 * (3 * p + k) + 2) = nI a := (h.r 7 (3 * p + k) (by simp [liv]; omega) rfl).trans g7
      refine s_isOut (by omega) ?_
      rw [g7]
      by_cases c3 : a = 0
      · subst c3
        rw [if_pos (show nI 0 = 0 from rfl)]
        refine ⟨fun _ => s_bestTask hT eT (by omega) ?_, fun q => absurd q (by decide)⟩
        have rf : ∀ v : Int32, (bst γ (3 * p + k) T = -1 → v = -1000004) → (∀ b, b < T → bst γ (3 * p + k) T = nI b → (¬ z = 0 → v = dif γ b + 100) ∧ (z = 0 → v = nI b)) → vc_X8_best (fun r' => (v = r' → K) ∧ (¬ v = r' → False)) ρ x y z := by
          intro v h1 h2
          refine ⟨T + 1, r_isW h ?_⟩
          rw [if_pos c]
          refine ⟨fun q => absurd q (by decide), fun _ => ?_⟩
          rw [e_rin, if_pos c2]
          refine ⟨fun _ => nm_e ?_, fun q => absurd q (by decide)⟩
          rw [e3]
          refine r_of 2 (by omega) (by omega) ?_
          rw [r7]
          exact br_t (Int32.le_refl _) (r_bestLoop h ha hT eT (by omega) (fun q => sme (h1 q) hk) (fun b hb q => ⟨fun z0 => sme ((h2 b hb q).1 z0) hk, fun z0 => sme ((h2 b hb q).2 z0) hk⟩) T 0 _ _ (by omega) (fun _ => rfl) (fun b hb _ => by omega))
        rcases bst_spec γ (3 * p + k) T hT with e | ⟨b, hb, e⟩
        · refine ⟨fun q => absurd e q, fun _ => rf _ (fun _ => rfl) (fun b hb q => absurd (q.symm.trans e) (nI_m1 (by omega)))⟩
        · rw [e] at rf ⊢
          have un : ∀ b', b' < T → nI b = nI b' → b = b' := fun b' hb' q => by
            have e5 := nI_clamp (n := b) (by omega)
            rw [q, nI_clamp (by omega)] at e5
            exact e5.symm
          refine ⟨fun _ => ⟨fun z0 => s_difference (by omega) (rf _ (fun q => absurd q (nI_m1 (by omega))) (fun b' hb' q => ?_)), fun z0 => rf _ (fun q => absurd q (nI_m1 (by omega))) (fun b' hb' q => ?_)⟩, fun q => absurd q (nI_m1 (by omega))⟩
          · rw [un b' hb' q]; exact ⟨fun _ => rfl, fun q => absurd q z0⟩
          · rw [un b' hb' q]; exact ⟨fun q => absurd z0 q, fun _ => rfl⟩
      · rw [if_neg (ai0 (by omega) c3)]
        refine ⟨fun q => absurd rfl q, fun _ => ⟨0, r_isW h ?_⟩⟩
        rw [if_pos c]
        refine ⟨fun q => absurd q (by decide), fun _ => ?_⟩
        rw [e_rin, if_pos c2]
        refine ⟨fun _ => nm_e ?_, fun q => absurd q (by decide)⟩
        rw [e3]
        refine r_of 2 (by omega) (by omega) ?_
        rw [r7]
        exact br_f (fun q => absurd ((nI_leI (a := a) (b := 0) (by omega) (by omega)).mp q) (by omega)) (sme rfl hk)
    · rw [if_neg c2]
      refine ⟨fun q => absurd rfl q, fun _ => ⟨0, r_isW h ?_⟩⟩
      rw [if_pos c]
      refine ⟨fun q => absurd q (by decide), fun _ => ?_⟩
      rw [e_rin, if_neg c2]
      exact ⟨fun q => absurd rfl q, fun _ => sme rfl hk⟩
  · rw [if_neg c]
    refine ⟨fun _ => ⟨0, r_isW h ?_⟩, fun q => absurd rfl q⟩
    rw [if_neg c]
    exact ⟨fun _ => sme rfl hk, fun q => absurd rfl q⟩
/-- the points of the players are far from the bounds of an int -/
def PB (B : Nat) (γ : Mem) : Prop := ∀ p, p < 4 → ∃ a, a ≤ B ∧ γ 3 p = nI a
def sumG (γ : Mem) (p : Nat) : Int32 := γ 2 (3 * p) + γ 2 (3 * p + 1) + γ 2 (3 * p + 2)
theorem s_allGoodsOf {Q : Int32 → Prop} {γ : Mem} {p : Nat} (hp : p < 4) (h : Q (sumG γ p)) : vc_X5_allGoodsOf Q γ (nI p) := by
  unfold vc_X5_allGoodsOf
  rw [show (0 : Int32) = nI 0 from rfl, e_amountOf _ _ hp (by omega), show (1 : Int32) = nI 1 from rfl, e_amountOf _ _ hp (by omega), show (2 : Int32) = nI 2 from rfl, e_amountOf _ _ hp (by omega)]
  exact h
/-- q is ahead of p -/
abbrev aof (γ : Mem) (q p : Nat) : Prop := if γ 3 q = γ 3 p then ¬ sumG γ q ≤ sumG γ p else ¬ γ 3 q ≤ γ 3 p
def ah (γ : Mem) : Nat → Nat
  | 0 => 0
  | n + 1 => if aof γ n (ah γ n) then n else ah γ n
theorem ah_lt (γ : Mem) : ∀ n, 1 ≤ n → ah γ n < n
  | 0, h => by omega
  | n + 1, _ => by
    show (if aof γ n (ah γ n) then n else ah γ n) < n + 1
    split
    · omega
    · rcases Nat.eq_zero_or_pos n with rfl | h
      · exact Nat.zero_lt_one
      · have := ah_lt γ n h; omega
theorem s_isAheadOf {Q : Int32 → Prop} {γ : Mem} {p q : Nat} (hp : p < 4) (hq : q < 4) (h : Q (if aof γ q p then 1 else 0)) : vc_X5_isAheadOf Q γ (nI q) (nI p) := by
  refine ⟨vp_in_nI hq (by omega), vp_in_nI hp (by omega), ?_⟩
  rw [nI_clamp (n := q) (by omega), nI_clamp (n := p) (by omega)]
  refine ⟨fun c => s_allGoodsOf hq (s_allGoodsOf hp ⟨fun c2 => ?_, fun c2 => ?_⟩), fun c => ⟨fun c2 => ?_, fun c2 => ?_⟩⟩
  · rw [if_neg (by unfold aof; rw [if_pos c]; exact fun z => z c2)] at h; exact h
  · rw [if_pos (by unfold aof; rw [if_pos c]; exact c2)] at h; exact h
  · rw [if_neg (by unfold aof; rw [if_neg c]; exact fun z => z c2)] at h; exact h
  · rw [if_pos (by unfold aof; rw [if_neg c]; exact c2)] at h; exact h
theorem s_ahead {Q : Int32 → Prop} {P : Nat} {γ : Mem} (hP : P ≤ 4) (e : γ 1 0 = nI P) (h : Q (if P = 0 then -1000004 else nI (ah γ P))) : vc_X5_ahead Q γ := by
  by_cases c : P = 0
  · rw [if_pos c] at h
    refine ⟨0, fun q => absurd (by rw [e, c]; rfl) q, fun _ => h⟩
  · rw [if_neg c] at h
    have st : ∀ k n, n + k = P → 1 ≤ n → vl_X5_ahead Q γ (k + 1) 0 (nI (ah γ n)) (nI n) := by
      intro k
      induction k with
      | zero =>
        intro n hn h1
        refine br_t (by rw [e]; exact gec (a := n) (b := P) (by omega)) ?_
        rw [show n = P by omega]; exact h
      | succ k ih =>
        intro n hn h1
        have nx := ih (n + 1) (by omega) (by omega)
        have hl := ah_lt γ n h1
        unfold ah at nx
        refine br_f (by rw [e]; exact ltc (a := n) (b := P) (by omega)) (br_f (ltc (a := n) (b := 4) (by omega)) (s_isAheadOf (by omega) (by omega) ?_))
        by_cases c1 : aof γ n (ah γ n)
        · rw [if_pos c1] at nx ⊢
          exact ⟨fun q => absurd q (by decide), fun _ => nm_e (by rw [nI_1]; exact nx)⟩
        · rw [if_neg c1] at nx ⊢
          exact ⟨fun _ => nm_e (by rw [nI_1]; exact nx), fun q => absurd rfl q⟩
    have s1 := st (P - 1) 1 (by omega) (Nat.le_refl _)
    have a1 : ah γ 1 = 0 := by
      show (if aof γ 0 0 then 0 else 0) = 0
      split <;> rfl
    rw [a1] at s1
    exact ⟨P - 1 + 1, fun _ => s1, fun q => absurd (by rw [e] at q; exact q) (ai0 (by omega) c)⟩
theorem r_goods {Q : Int32 → Prop} {P p : Nat} {γ ρ : Mem} (h : RR P γ ρ) (hp : p < P) (hq : Q (sumG γ p)) : vc_X8_goods Q ρ (nI p) := by
  have hP := h.1
  unfold vc_X8_goods
  rw [show (8 : Int32) + 5 * nI p + 2 = nI (8 + 5 * p + 2) from i8 p 2, show (8 : Int32) + 5 * nI p + 1 = nI (8 + 5 * p + 1) from i8 p 1, show (8 : Int32) + 5 * nI p = nI (8 + 5 * p + 0) from by rw [show (8 : Int32) = nI 8 from rfl, show (5 : Int32) = nI 5 from rfl, pk_mul, nI_add]; rfl, nI_clamp (by omega), nI_clamp (by omega), nI_clamp (by omega)]
  refine ⟨vp_in_nI (by omega) (by omega), vp_in_nI (by omega) (by omega), vp_in_nI (by omega) (by omega), ?_⟩
  rw [h.g hp (k := 0) (by omega), h.g hp (k := 1) (by omega), h.g hp (k := 2) (by omega)]
  exact hq
theorem r_ahead {Q : Int32 → Prop} {P B : Nat} {γ ρ : Mem} (h : RR P γ ρ) (hb : PB B γ) (hB : B ≤ 1000000000) (hq : Q (if P = 0 then -1000004 else nI (ah γ P))) : vc_X8_ahead Q ρ := by
  have hP := h.1
  by_cases c : P = 0
  · rw [if_pos c] at hq
    refine ⟨1, fun q => absurd (by rw [show (0 : Int32).toNatClampNeg = 0 from rfl, h.p, c]; rfl) q, fun _ => br_t ?_ hq⟩
    rw [show (0 : Int32).toNatClampNeg = 0 from rfl, h.p, c]
    decide
  · rw [if_neg c] at hq
    have st : ∀ k n, n + k = P → 1 ≤ n → vl_X8_ahead Q ρ (k + 1) 0 (nI (ah γ n)) (nI n) := by
      intro k
      induction k with
      | zero =>
        intro n hn h1
        refine br_t (by rw [show (0 : Int32).toNatClampNeg = 0 from rfl, h.p]; exact gec (a := n) (b := P) (by omega)) ?_
        rw [show n = P by omega]; exact hq
      | succ k ih =>
        intro n hn h1
        have nx := ih (n + 1) (by omega) (by omega)
        have hl := ah_lt γ n h1
        unfold ah at nx
        obtain ⟨a, ha, ea⟩ := hb n (by omega)
        obtain ⟨b, hb', eb⟩ := hb (ah γ n) (by omega)
        refine br_f (by rw [show (0 : Int32).toNatClampNeg = 0 from rfl, h.p]; exact ltc (a := n) (b := P) (by omega)) ?_
        rw [show (8 : Int32) + 5 * nI n + 3 = nI (8 + 5 * n + 3) from i8 n 3, show (8 : Int32) + 5 * nI (ah γ n) + 3 = nI (8 + 5 * ah γ n + 3) from i8 _ 3, nI_clamp (by omega), nI_clamp (by omega), h.r 3 n (j := 8 + 5 * n + 3) (by simp [liv]; omega) rfl, h.r 3 (ah γ n) (j := 8 + 5 * ah γ n + 3) (by simp [liv]; omega) rfl, nI_1]
        refine ⟨vp_in_nI (by omega) (by omega), vp_in_nI (by omega) (by omega), nm_e ?_⟩
        have eq0 : γ 3 n - γ 3 (ah γ n) = 0 ↔ γ 3 n = γ 3 (ah γ n) := by constructor <;> intro q <;> grind
        have gt0 : 0 < γ 3 n - γ 3 (ah γ n) ↔ ¬ γ 3 n ≤ γ 3 (ah γ n) := by
          rw [ea, eb, nI_leI (by omega) (by omega)]
          by_cases l : b ≤ a
          · rw [nI_sub l, show (0 : Int32) = nI 0 from rfl, nI_ltI (by omega) (by omega)]
            omega
          · have : nI a - nI b = - nI (b - a) := by
              have e : nI b = nI (b - a) + nI a := by rw [nI_add]; congr 1; omega
              rw [e]; grind
            rw [this]
            have := nI_pos' (n := b - a) (by omega)
            have := nI_lt (a := b - a) (b := 1000000001) (by omega) (by omega)
            rw [Int32.le_iff_toInt_le] at *
            rw [Int32.lt_iff_toInt_lt] at *
            rw [Int32.toInt_neg]
            rw [show (0 : Int32).toInt = 0 from rfl] at *
            rw [show (nI 1000000001).toInt = 1000000001 from rfl] at *
            rw [Int.bmod_eq_of_le (by omega) (by omega)]
            omega
        refine ⟨fun q => nm_e ?_, fun q => ⟨fun q2 => nm_e ?_, fun q2 => r_goods h (by omega) (r_goods h (by omega) ⟨fun q3 => nm_e ?_, fun q3 => nm_e ?_⟩)⟩⟩
        · rw [if_pos (by unfold aof; rw [if_neg (fun z => by rw [eq0.mpr z] at q; exact absurd q (by decide))]; exact gt0.mp q)] at nx
          exact nx
        · rw [if_neg (by unfold aof; rw [if_neg (fun z => q2 (eq0.mpr z))]; exact fun z => q (gt0.mpr z))] at nx
          exact nx
        · rw [if_neg (by unfold aof; rw [if_pos (eq0.mp q2)]; exact fun z => z q3)] at nx
          exact nx
        · rw [if_pos (by unfold aof; rw [if_pos (eq0.mp q2)]; exact q3)] at nx
          exact nx
    have s1 := st (P - 1) 1 (by omega) (Nat.le_refl _)
    have a1 : ah γ 1 = 0 := by
      show (if aof γ 0 0 then 0 else 0) = 0
      split <;> rfl
    rw [a1] at s1
    exact ⟨P - 1 + 1, fun _ => s1, fun q => absurd (by rw [show (0 : Int32).toNatClampNeg = 0 from rfl, h.p] at q; exact q) (ai0 (by omega) c)⟩
theorem v164 (k : Nat) (h : k < 164) : vp_in (nI k) 164 := vp_in_nI h (by omega)
theorem q_count {K : Prop} {P B : Nat} {ξ γ τ η ο ρ : Mem} {σ : Nat → Mem} {x : Int32} (h : RR P γ ρ) (hb : PB B γ) (hB : B ≤ 1000000000) (e8 : ρ 0 4 = η 0 0) (e9 : ρ 0 7 = ο 0 0) (hk : K) :
    vc_X7_count (fun r => vc_X8_count (fun r' => (r = r' → K) ∧ (¬ r = r' → False)) ρ x) ξ γ τ η σ ο x := by
  have hP := h.1
  unfold vc_X7_count vc_X8_count
  refine ⟨fun c => ?_, fun c0 => ⟨fun c => ?_, fun c1 => ⟨fun c => ?_, fun c2 => ⟨fun c => ?_, fun c3 => ⟨fun c => ?_, fun c4 => ⟨fun c => ?_, fun c5 => ⟨fun c => ?_, fun c6 => ⟨fun c => ?_, fun c7 => ⟨fun c => ?_, fun c8 => ⟨fun c => ?_, fun c9 => ?_⟩⟩⟩⟩⟩⟩⟩⟩⟩⟩
  · subst c
    exact br_t rfl ⟨v164 0 (by omega), sme (h.r 1 0 (j := 0) (by simp [liv]) rfl).symm hk⟩
  · subst c
    exact br_f (by decide) (br_t rfl ⟨v164 1 (by omega), sme (h.r 12 0 (j := 1) (by simp [liv]) rfl).symm hk⟩)
  · subst c
    exact br_f (by decide) (br_f (by decide) (br_t rfl ⟨v164 2 (by omega), sme (h.r 18 0 (j := 2) (by simp [liv]) rfl).symm hk⟩))
  · subst c
    exact br_f (by decide) (br_f (by decide) (br_f (by decide) (br_t rfl ⟨v164 3 (by omega), sme (h.r 0 0 (j := 3) (by simp [liv]) rfl).symm hk⟩)))
  · subst c
    exact s_sumOfAll (br_f (by decide) (br_f (by decide) (br_f (by decide) (br_f (by decide) (br_t rfl ⟨v164 4 (by omega), sme h.2.2.2.1.symm hk⟩)))))
  · subst c
    exact s_sumOfAll (br_f (by decide) (br_f (by decide) (br_f (by decide) (br_f (by decide) (br_f (by decide) (br_t rfl ⟨v164 5 (by omega), sme h.2.2.2.2.1.symm hk⟩))))))
  · subst c
    exact s_ahead hP h.2.1 (br_f (by decide) (br_f (by decide) (br_f (by decide) (br_f (by decide) (br_f (by decide) (br_f (by decide) (br_t rfl (r_ahead h hb hB (sme rfl hk)))))))))
  · subst c
    exact br_f (by decide) (br_f (by decide) (br_f (by decide) (br_f (by decide) (br_f (by decide) (br_f (by decide) (br_f (by decide) (br_t rfl (sme (h.r 1 1 (j := 6) (by simp [liv]) rfl).symm hk))))))))
  · subst c
    exact br_f (by decide) (br_f (by decide) (br_f (by decide) (br_f (by decide) (br_f (by decide) (br_f (by decide) (br_f (by decide) (br_f (by decide) (br_t rfl (sme e8.symm hk)))))))))
  · subst c
    exact br_f (by decide) (br_f (by decide) (br_f (by decide) (br_f (by decide) (br_f (by decide) (br_f (by decide) (br_f (by decide) (br_f (by decide) (br_f (by decide) (br_t rfl (sme e9.symm hk))))))))))
  · exact br_f c0 (br_f c1 (br_f c2 (br_f c3 (br_f c4 (br_f c5 (br_f c6 (br_f c7 (br_f c8 (br_f c9 (sme rfl hk))))))))))
