/-! the Game's methods: what they answer and leave, as functions of the memory -/
def all3 (x : Int32) : Int32 := amt x 0 + amt x 1 + amt x 2
theorem s_allAmountsIn {Q : Int32 → Prop} {x : Int32} (h : Q (all3 x)) : vc_X7_allAmountsIn Q x := by
  unfold vc_X7_allAmountsIn
  rw [show (0 : Int32) = nI 0 from rfl, e_amountIn _ _ (by omega), show (1 : Int32) = nI 1 from rfl, e_amountIn _ _ (by omega), show (2 : Int32) = nI 2 from rfl, e_amountIn _ _ (by omega)]
  exact h
def dif (γ : Mem) (t : Nat) : Int32 := all3 (γ 15 t) - all3 (γ 14 t)
theorem s_difference {Q : Int32 → Prop} {γ : Mem} {t : Nat} (ht : t < 8) (h : Q (dif γ t)) : vc_X6_differenceOf Q γ (nI t) := by
  refine ⟨vp_in_nI ht (by omega), ?_⟩
  rw [nI_clamp (by omega)]
  exact s_allAmountsIn (s_allAmountsIn h)
/-- the count of the glasses on a task -/
def numOn (γ : Mem) (x : Int32) : Nat → Int32
  | 0 => 0
  | n + 1 => if γ 6 n = x then numOn γ x n + 1 else numOn γ x n
def lft (γ : Mem) (t : Nat) : Int32 := γ 13 t - numOn γ (nI t) 12
theorem s_placesLeft {Q : Int32 → Prop} {γ : Mem} {t : Nat} (ht : t < 8) (h : Q (lft γ t)) : vc_X1_placesLeft Q γ (nI t) := by
  refine ⟨vp_in_nI ht (by omega), s_numberOn (c := numOn γ (nI t)) (fun n => rfl) rfl ?_⟩
  rw [nI_clamp (by omega)]
  exact h
theorem div3 {w : Nat} (hw : w < 2 ^ 31) : nI w / 3 = nI (w / 3) := by rw [show (3 : Int32) = nI 3 from rfl, pk_div hw (by omega) (by omega)]
abbrev cput (γ : Mem) (w t : Nat) : Prop := γ 7 w = 0 ∧ (γ 6 w = nI t ∨ 0 < lft γ t) ∧ hv γ (w / 3) (γ 14 t)
theorem s_canBePut {Q : Int32 → Prop} {γ : Mem} {w t : Nat} (hw : w < 12) (ht : t < 8) (h : Q (if cput γ w t then 1 else 0)) : vc_X1_canBePut Q γ (nI w) (nI t) := by
  have fin : ∀ z : Int32, (z = 0 ↔ ¬ (γ 6 w = nI t ∨ 0 < lft γ t)) → vl_X1_canBePut Q γ 1 0 (nI w) (nI t) z := by
    intro z hz
    show vb_X1_canBePut_26 Q γ (vl_X1_canBePut Q γ 0) (nI w) (nI t) z
    unfold vb_X1_canBePut_26
    refine s_isOut hw ?_
    by_cases c1 : γ 7 w = 0
    · rw [if_pos c1]
      refine ⟨fun q => absurd q (by decide), fun _ => ⟨fun q => ?_, fun q => ?_⟩⟩
      · rw [if_neg (fun z => (hz.mp q) z.2.1)] at h; exact h
      · have c2 : γ 6 w = nI t ∨ 0 < lft γ t := by by_cases c : γ 6 w = nI t ∨ 0 < lft γ t; exact c; exact absurd (hz.mpr c) q
        show vc_X5_have _ γ (nI w / 3) _ |> fun p => vp_in (nI t) 8 ∧ p
        refine ⟨vp_in_nI ht (by omega), ?_⟩
        rw [div3 (by omega), nI_clamp (by omega)]
        refine s_have (by omega) ?_
        by_cases c3 : hv γ (w / 3) (γ 14 t)
        · rw [if_pos c3]; rw [if_pos ⟨c1, c2, c3⟩] at h
          exact ⟨fun q => absurd q (by decide), fun _ => h⟩
        · rw [if_neg c3]; rw [if_neg (fun z => c3 z.2.2)] at h
          exact ⟨fun _ => h, fun q => absurd rfl q⟩
    · rw [if_neg c1]
      refine ⟨fun _ => ?_, fun q => absurd rfl q⟩
      rw [if_neg (fun z => c1 z.1)] at h; exact h
  refine ⟨1, vp_in_nI hw (by omega), ?_⟩
  rw [nI_clamp (by omega)]
  refine ⟨fun q => fin 1 ⟨fun z => absurd z (by decide), fun z => absurd (Or.inl q) z⟩, fun q => s_placesLeft ht ⟨fun c => fin 0 ⟨fun _ => ?_, fun _ => rfl⟩, fun c => fin 1 ⟨fun z => absurd z (by decide), fun z => absurd (Or.inr ?_) z⟩⟩⟩
  · rintro (a | a)
    · exact q a
    · exact absurd c (Int32.not_le.mpr a)
  · exact Int32.not_le.mp c
def stt (γ : Mem) (w : Nat) (x : Int32) : Mem := up (up (up (up γ 6 w x) 7 w (γ 5 w)) 8 w (γ 4 0)) 4 0 (γ 4 0 + 1)
theorem s_start {Q : Mem → Prop} {γ : Mem} {w : Nat} (hw : w < 12) {x : Int32} (h : Q (stt γ w x)) : vc_X2_start Q γ (nI w) x := by
  refine ⟨vp_in_nI hw (by omega), nm_e (nm_e (nm_e (nm_e ?_)))⟩
  rw [nI_clamp (by omega)]
  simp only [up_n _ _ _ (show 5 ≠ 6 by omega), up_n _ _ _ (show 4 ≠ 6 by omega), up_n _ _ _ (show 4 ≠ 7 by omega), up_n _ _ _ (show 4 ≠ 8 by omega)]
  exact h
/-! the glasses whose work is due -/
def due1 (γ : Mem) (w : Nat) : Mem := if γ 7 w = 0 then (if 12 ≤ γ 0 6 then γ else up (up γ 21 (γ 0 6).toNatClampNeg (nI w)) 0 6 (γ 0 6 + 1)) else γ
theorem s_addIfDue {Q : Mem → Prop} {γ : Mem} {w : Nat} (hw : w < 12) (h0 : 0 ≤ γ 0 6) (h : Q (due1 γ w)) : vc_X1_addIfDue Q γ (nI w) := by
  refine ⟨vp_in_nI hw (by omega), ?_⟩
  rw [nI_clamp (by omega)]
  unfold due1 at h
  refine ⟨fun q => ?_, fun q => ⟨fun c => ?_, fun c => ?_⟩⟩
  · rw [if_neg q] at h; exact h
  · rw [if_pos q, if_pos c] at h; exact h
  · rw [if_pos q, if_neg c] at h
    have hin : vp_in (γ 0 6) 12 := by
      rw [vp_in_iff]
      have a := Int32.not_le.mp c
      rw [Int32.lt_iff_toInt_lt] at a
      rw [Int32.le_iff_toInt_le] at h0
      exact ⟨h0, a⟩
    refine ⟨hin, nm_e (nm_e ?_)⟩
    rw [up_n _ _ _ (show 0 ≠ 21 by omega)]
    exact h
def fst1 (γ : Mem) (i : Nat) : Mem := if γ 7 i ≤ 0 then γ else due1 (fl1 γ i) i
def fsts (γ : Mem) : Nat → Mem
  | 0 => γ
  | n + 1 => fst1 (fsts γ n) n
def ptp (γ : Mem) (p : Nat) : Mem := up γ 3 p (γ 3 p + 1)
def eff (γ : Mem) (e : Int32) (p : Nat) : Mem := if e = 1 then fsts γ 12 else if e = 2 then ptp γ p else γ
theorem due1_06 (γ : Mem) (w : Nat) (h0 : 0 ≤ γ 0 6) : 0 ≤ due1 γ w 0 6 := by
  unfold due1
  by_cases c : γ 7 w = 0
  · by_cases c2 : 12 ≤ γ 0 6
    · rw [if_pos c, if_pos c2]; exact h0
    · rw [if_pos c, if_neg c2, up_s, pk_us]; grind
  · rw [if_neg c]; exact h0
theorem fl1_06 (γ : Mem) (w : Nat) : fl1 γ w 0 6 = γ 0 6 := rfl
theorem fst1_06 (γ : Mem) (w : Nat) (h0 : 0 ≤ γ 0 6) : 0 ≤ fst1 γ w 0 6 := by
  unfold fst1
  split
  · exact h0
  · exact due1_06 _ _ h0
theorem fsts_06 (γ : Mem) (h0 : 0 ≤ γ 0 6) : ∀ n, 0 ≤ fsts γ n 0 6
  | 0 => h0
  | n + 1 => fst1_06 _ _ (fsts_06 γ h0 n)
theorem s_takeEffect {Q : Mem → Prop} {γ : Mem} {e : Int32} {p : Nat} (hp : p < 4) (h0 : 0 ≤ γ 0 6) (h : Q (eff γ e p)) : vc_X1_takeEffect Q γ e (nI p) := by
  have st : ∀ k n, n + k = 12 → (e = 1 → Q (fsts γ 12)) → (e ≠ 1 → Q (fsts γ n)) → vl_X1_takeEffect Q (k + 1) 0 (fsts γ n) e (nI n) := by
    intro k
    induction k with
    | zero =>
      intro n hn h1 h2
      refine ⟨fun c => h2 c, fun c => br_t (gec (a := n) (b := 12) (by omega)) ?_⟩
      rw [show n = 12 by omega]; exact h1 c
    | succ k ih =>
      intro n hn h1 h2
      refine ⟨fun c => h2 c, fun c => br_f (ltc (a := n) (b := 12) (by omega)) ⟨vp_in_nI (by omega) (by omega), ?_⟩⟩
      rw [nI_clamp (by omega)]
      have nx := ih (n + 1) (by omega) h1 (fun q => absurd c q)
      refine ⟨fun q => nm_e ?_, fun q => s_flipOne (by omega) (s_addIfDue (by omega) (fsts_06 γ h0 n) (nm_e ?_))⟩
      · have e1 : fsts γ (n + 1) = fsts γ n := by show fst1 _ _ = _; unfold fst1; rw [if_pos q]
        rw [e1] at nx; rw [nI_1]; exact nx
      · have e1 : fsts γ (n + 1) = due1 (fl1 (fsts γ n) n) n := by show fst1 _ _ = _; unfold fst1; rw [if_neg q]
        rw [e1] at nx; rw [nI_1]; exact nx
  unfold eff at h
  refine ⟨13, fun c => ?_, fun c => ⟨vp_in_nI hp (by omega), nm_e ?_⟩⟩
  · refine st 12 0 (by omega) (fun q => ?_) (fun q => ?_)
    · rw [if_pos q] at h; exact h
    · rw [if_neg q, if_neg c] at h; exact h
  · rw [nI_clamp (by omega)]
    subst c
    rw [if_neg (by decide), if_pos rfl] at h
    exact ⟨fun _ => h, fun q => absurd q (by decide)⟩
abbrev rng (x n : Int32) : Prop := 0 ≤ x ∧ x < n
theorem s_range {Q : Int32 → Prop} {x n : Int32} (h0 : 0 ≤ n) (h1 : n ≤ 100) (h : Q (if rng x n then 1 else 0)) : vc_X7_within (fun r => narrow .boolean (.int r) = .int r ∧ Q r) x 0 (n - 1) := by
  rw [e_within]
  unfold rng at h
  by_cases c1 : x < 0
  · rw [if_pos c1]; rw [if_neg (by grind)] at h; exact ⟨rfl, h⟩
  · rw [if_neg c1]
    by_cases c2 : n - 1 < x
    · rw [if_pos c2]; rw [if_neg (by grind)] at h; exact ⟨rfl, h⟩
    · rw [if_neg c2]; rw [if_pos (by grind)] at h; exact ⟨rfl, h⟩
def PT (γ : Mem) : Prop := ∃ P T C : Nat, P ≤ 4 ∧ T ≤ 8 ∧ C ≤ 6 ∧ γ 1 0 = nI P ∧ γ 12 0 = nI T ∧ γ 18 0 = nI C
theorem nI_b {n : Nat} (h : n ≤ 100) : 0 ≤ nI n ∧ nI n ≤ 100 := ⟨nI_pos' (by omega), by rw [nlit 100]; exact gec h⟩
theorem s_hasPlayer {Q : Int32 → Prop} {γ : Mem} {x : Int32} (h1 : PT γ) (h : Q (if rng x (γ 1 0) then 1 else 0)) : vc_X1_hasPlayer Q γ x := by
  obtain ⟨P, T, C, hP, hT, hC, e1, e2, e3⟩ := h1
  have := nI_b (n := P) (by omega)
  exact s_range (by rw [e1]; exact this.1) (by rw [e1]; exact this.2) h
theorem s_hasTask {Q : Int32 → Prop} {γ : Mem} {x : Int32} (h1 : PT γ) (h : Q (if rng x (γ 12 0) then 1 else 0)) : vc_X1_hasTask Q γ x := by
  obtain ⟨P, T, C, hP, hT, hC, e1, e2, e3⟩ := h1
  have := nI_b (n := T) (by omega)
  exact s_range (by rw [e2]; exact this.1) (by rw [e2]; exact this.2) h
theorem s_hasContract {Q : Int32 → Prop} {γ : Mem} {x : Int32} (h1 : PT γ) (h : Q (if rng x (γ 18 0) then 1 else 0)) : vc_X1_hasContract Q γ x := by
  obtain ⟨P, T, C, hP, hT, hC, e1, e2, e3⟩ := h1
  have := nI_b (n := C) (by omega)
  exact s_range (by rw [e3]; exact this.1) (by rw [e3]; exact this.2) h
theorem s_hasWorker {Q : Int32 → Prop} {γ : Mem} {x y : Int32} (h1 : PT γ) (h : Q (if rng x (γ 1 0) ∧ rng y 3 then 1 else 0)) : vc_X1_hasWorker Q γ x y := by
  refine s_hasPlayer h1 ?_
  by_cases c : rng x (γ 1 0)
  · rw [if_pos c]
    refine ⟨fun q => absurd q (by decide), fun _ => ?_⟩
    rw [e_within]
    by_cases c2 : rng y 3
    · rw [if_pos ⟨c, c2⟩] at h
      rw [if_neg (by grind), if_neg (by grind)]
      exact ⟨fun q => absurd q (by decide), fun _ => h⟩
    · rw [if_neg (fun z => c2 z.2)] at h
      have : (if y < 0 then (0 : Int32) else if 2 < y then 0 else 1) = 0 := by
        by_cases c3 : y < 0
        · rw [if_pos c3]
        · rw [if_neg c3, if_pos (by grind)]
      rw [this]
      exact ⟨fun _ => h, fun q => absurd rfl q⟩
  · rw [if_neg c]
    rw [if_neg (fun z => c z.1)] at h
    exact ⟨fun _ => h, fun q => absurd rfl q⟩
/-- x is one of n -/
theorem rng_nat {x : Int32} {n : Nat} (hn : n ≤ 100) (h : rng x (nI n)) : ∃ k, k < n ∧ x = nI k := by
  obtain ⟨k, hk, e⟩ := nI_of (x := x) (by grind)
  refine ⟨k, ?_, e⟩
  have := h.2
  rw [e, nI_ltI (by omega) (by omega)] at this
  exact this
theorem rng_of {k n : Nat} (h : k < n) (hn : n < 2 ^ 31) : rng (nI k) (nI n) := ⟨nI_pos' (by omega), nI_lt h hn⟩
/-! the due ones, done one after the other -/
def DOk (γ : Mem) : Prop := ∃ n : Nat, n ≤ 12 ∧ γ 0 6 = nI n ∧ ∀ j, j < n → ∃ w, w < 12 ∧ γ 21 j = nI w
theorem DOk.of {γ γ' : Mem} (h : DOk γ) (h0 : γ' 0 6 = γ 0 6) (h1 : γ' 21 = γ 21) : DOk γ' := by
  obtain ⟨n, a, b, c⟩ := h
  exact ⟨n, a, by rw [h0]; exact b, fun j hj => by rw [h1]; exact c j hj⟩
theorem dok_due1 {γ : Mem} (h : DOk γ) {w : Nat} (hw : w < 12) : DOk (due1 γ w) := by
  unfold due1
  by_cases c : γ 7 w = 0
  · by_cases c2 : 12 ≤ γ 0 6
    · rw [if_pos c, if_pos c2]; exact h
    · rw [if_pos c, if_neg c2]
      obtain ⟨n, a, b, d⟩ := h
      have hn : n < 12 := by
        rw [b, nlit 12, nI_leI (by omega) (by omega)] at c2
        omega
      refine ⟨n + 1, by omega, ?_, fun j hj => ?_⟩
      · rw [up_s, pk_us, b, nI_1]
      · rw [up_n _ _ _ (show 21 ≠ 0 by omega), up_s, b, nI_clamp (by omega)]
        by_cases e : j = n
        · subst e; rw [pk_us]; exact ⟨w, hw, rfl⟩
        · rw [pk_un e]; exact d j (by omega)
  · rw [if_neg c]; exact h
