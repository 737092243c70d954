/-! PURE: from here on no machine -/
theorem nlit (n : Nat) : (OfNat.ofNat n : Int32) = nI n := rfl
theorem e_within (Q : Int32 → Prop) (a b c : Int32) : vc_X7_within Q a b c ↔ Q (if a < b then 0 else if c < a then 0 else 1) := by
  unfold vc_X7_within
  by_cases h1 : a < b
  · simp [h1]
  · by_cases h2 : c < a
    · simp [h1, h2]
    · simp [h1, h2]
def amt (x : Int32) (g : Nat) : Int32 := if g = 0 then x / 100 else if g = 1 then (x / 10) - (x / 10) / 10 * 10 else x - x / 10 * 10
theorem e_amountIn (Q : Int32 → Prop) (x : Int32) {g : Nat} (hg : g < 3) : vc_X7_amountIn Q x (nI g) ↔ Q (amt x g) := by
  unfold vc_X7_amountIn amt
  rcases (show g = 0 ∨ g = 1 ∨ g = 2 by omega) with rfl | rfl | rfl <;> simp [nI]
theorem i3 (p k : Nat) : (3 : Int32) * nI p + nI k = nI (3 * p + k) := by rw [show (3 : Int32) = nI 3 from rfl, pk_mul, nI_add]
theorem e_amountOf (Q : Int32 → Prop) (γ : Mem) {p g : Nat} (hp : p < 4) (hg : g < 3) : vc_X5_amountOf Q γ (nI p) (nI g) ↔ Q (γ 2 (3 * p + g)) := by
  unfold vc_X5_amountOf
  rw [i3, nI_clamp (by omega)]
  exact ⟨fun h => h.2, fun h => ⟨vp_in_nI (by omega) (by omega), h⟩⟩
theorem nI_le_lit {n m : Nat} (hn : n < 2 ^ 31) (hm : m < 2 ^ 31) : nI n ≤ nI m ↔ n ≤ m := nI_leI hn hm
/-- has the goods -/
abbrev hv (γ : Mem) (p : Nat) (x : Int32) : Prop := amt x 0 ≤ γ 2 (3 * p) ∧ amt x 1 ≤ γ 2 (3 * p + 1) ∧ amt x 2 ≤ γ 2 (3 * p + 2)
theorem ltc {a b : Nat} (h : a < b) (hb : b < 2 ^ 31 := by omega) : ¬ nI b ≤ nI a := nI_ge h hb
theorem gec {a b : Nat} (h : b ≤ a) (ha : a < 2 ^ 31 := by omega) : nI b ≤ nI a := nI_le h ha
theorem s_have {Q : Int32 → Prop} {γ : Mem} {p : Nat} (hp : p < 4) {x : Int32} (h : Q (if hv γ p x then 1 else 0)) : vc_X5_have Q γ (nI p) x := by
  have st : ∀ n g, g < 3 → (amt x g ≤ γ 2 (3 * p + g) → vl_X5_have Q γ n 0 (nI p) x (nI (g + 1))) → (¬ amt x g ≤ γ 2 (3 * p + g) → Q 0) → vl_X5_have Q γ (n + 1) 0 (nI p) x (nI g) := by
    intro n g hg h1 h2
    refine br_f (ltc (a := g) (b := 3) hg) ?_
    rw [e_amountOf _ _ hp hg, e_amountIn _ _ hg]
    exact ⟨fun c => nm_e (by rw [nI_1]; exact h1 c), h2⟩
  refine ⟨4, st 3 0 (by omega) (fun h0 => st 2 1 (by omega) (fun h1 => st 1 2 (by omega) (fun h2 => br_t (gec (a := 3) (b := 3) (by omega)) ?_) ?_) ?_) ?_⟩
  · rw [if_pos ⟨h0, h1, h2⟩] at h; exact h
  · intro h2; rw [if_neg (fun q => h2 q.2.2)] at h; exact h
  · intro h1; rw [if_neg (fun q => h1 q.2.1)] at h; exact h
  · intro h0; rw [if_neg (fun q => h0 q.1)] at h; exact h
def pay1 (γ : Mem) (p : Nat) (x : Int32) (k : Nat) : Mem := up γ 2 (3 * p + k) (γ 2 (3 * p + k) - amt x k)
/-- the price is paid -/
def pay (γ : Mem) (p : Nat) (x : Int32) : Mem := pay1 (pay1 (pay1 γ p x 0) p x 1) p x 2
theorem s_pay {Q : Mem → Prop} {γ : Mem} {p : Nat} (hp : p < 4) {x : Int32} (h : Q (pay γ p x)) : vc_X5_pay Q γ (nI p) x := by
  have st : ∀ n g γ, g < 3 → vl_X5_pay Q n 0 (pay1 γ p x g) (nI p) x (nI (g + 1)) → vl_X5_pay Q (n + 1) 0 γ (nI p) x (nI g) := by
    intro n g γ hg h1
    refine br_f (ltc (a := g) (b := 3) hg) ?_
    rw [i3, nI_clamp (by omega), e_amountIn _ _ hg]
    exact ⟨vp_in_nI (by omega) (by omega), nm_e (nm_e (by rw [nI_1]; exact h1))⟩
  exact ⟨4, st 3 0 _ (by omega) (st 2 1 _ (by omega) (st 1 2 _ (by omega) (br_t (gec (a := 3) (b := 3) (by omega)) h)))⟩
def gain1 (γ : Mem) (p : Nat) (x : Int32) (k : Nat) : Mem := up (up γ 2 (3 * p + k) (if 99 < γ 2 (3 * p + k) + amt x k then 99 else γ 2 (3 * p + k) + amt x k)) 1 1 (γ 1 1 + (if 99 < γ 2 (3 * p + k) + amt x k then γ 2 (3 * p + k) + amt x k - 99 else 0))
/-- the goods are gained, what is above 99 is lost -/
def gain (γ : Mem) (p : Nat) (x : Int32) : Mem := gain1 (gain1 (gain1 γ p x 0) p x 1) p x 2
theorem s_gain {Q : Mem → Prop} {γ : Mem} {p : Nat} (hp : p < 4) {x : Int32} (h : Q (gain γ p x)) : vc_X5_gain Q γ (nI p) x := by
  have st : ∀ n g γ, g < 3 → vl_X5_gain Q n 0 (gain1 γ p x g) (nI p) x (nI (g + 1)) → vl_X5_gain Q (n + 1) 0 γ (nI p) x (nI g) := by
    intro n g γ hg h1
    refine br_f (ltc (a := g) (b := 3) hg) ?_
    rw [e_amountOf _ _ hp hg, e_amountIn _ _ hg]
    refine nm_e (nm_e ⟨by rw [i3]; exact vp_in_nI (by omega) (by omega), nm_e (nm_e (nm_e ?_))⟩)
    rw [nI_1, i3, nI_clamp (by omega)]
    unfold gain1 at h1
    rw [up_n _ _ _ (show 1 ≠ 2 by omega)]
    by_cases c : 99 < γ 2 (3 * p + g) + amt x g
    · simp only [c, if_true] at h1 ⊢; exact h1
    · simp only [c, if_false, Int32.sub_self] at h1 ⊢; exact h1
  exact ⟨4, st 3 0 _ (by omega) (st 2 1 _ (by omega) (st 1 2 _ (by omega) (br_t (gec (a := 3) (b := 3) (by omega)) h)))⟩
/-- a glass flipped -/
def fl1 (γ : Mem) (w : Nat) : Mem := up (up γ 7 w (γ 5 w - γ 7 w)) 11 w (γ 11 w + 1)
theorem s_flipOne {Q : Mem → Prop} {γ : Mem} {w : Nat} (hw : w < 12) (h : Q (fl1 γ w)) : vc_X2_flipOne Q γ (nI w) := by
  refine ⟨vp_in_nI hw (by omega), nm_e (nm_e ?_)⟩
  rw [nI_clamp (by omega), up_n _ _ _ (show 11 ≠ 7 by omega)]
  exact h
theorem s_isOut {Q : Int32 → Prop} {γ : Mem} {w : Nat} (hw : w < 12) (h : Q (if γ 7 w = 0 then 1 else 0)) : vc_X2_isOut Q γ (nI w) := by
  refine ⟨vp_in_nI hw (by omega), ?_⟩
  rw [nI_clamp (by omega)]
  by_cases c : γ 7 w = 0
  · rw [if_pos c] at h; exact ⟨fun q => absurd c q, fun _ => h⟩
  · rw [if_neg c] at h; exact ⟨fun _ => h, fun q => absurd q c⟩
theorem s_numberOn {Q : Int32 → Prop} {γ : Mem} {x : Int32} {c : Nat → Int32} (hc : ∀ n, c (n + 1) = if γ 6 n = x then c n + 1 else c n) (h0 : c 0 = 0) (h : Q (c 12)) : vc_X2_numberOn Q γ x := by
  have st : ∀ k n, n + k = 12 → vl_X2_numberOn Q γ (k + 1) 0 x (c n) (nI n) := by
    intro k
    induction k with
    | zero =>
      intro n hn
      refine br_t (gec (a := n) (b := 12) (by omega)) ?_
      rw [show n = 12 by omega]; exact h
    | succ k ih =>
      intro n hn
      refine br_f (ltc (a := n) (b := 12) (by omega)) ?_
      refine ⟨vp_in_nI (by omega) (by omega), ?_⟩
      rw [nI_clamp (by omega)]
      have e := hc n
      refine ⟨fun q => nm_e ?_, fun q => nm_e (nm_e ?_)⟩
      · rw [if_neg q] at e; rw [← e, nI_1]; exact ih (n + 1) (by omega)
      · rw [if_pos q] at e; rw [← e, nI_1]; exact ih (n + 1) (by omega)
  refine ⟨13, ?_⟩
  have := st 12 0 (by omega)
  rw [h0] at this
  exact this
