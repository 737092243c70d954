/-! the works that are due, and what comes of them; the seconds -/
theorem pay_n (γ : Mem) (p : Nat) (x : Int32) {c : Nat} (h : c ≠ 2) : pay γ p x c = γ c := by
  simp only [pay, pay1, up_n _ _ _ h]
theorem gain1_n (γ : Mem) (p : Nat) (x : Int32) (k : Nat) {c : Nat} (h : c ≠ 2) (h1 : c ≠ 1) : gain1 γ p x k c = γ c := by
  simp only [gain1, up_n _ _ _ h, up_n _ _ _ h1]
theorem gain_n (γ : Mem) (p : Nat) (x : Int32) {c : Nat} (h : c ≠ 2) (h1 : c ≠ 1) : gain γ p x c = γ c := by
  simp only [gain, gain1_n _ _ _ _ h h1]
theorem gain1_10 (γ : Mem) (p : Nat) (x : Int32) (k : Nat) {f : Nat} (h : f ≠ 1) : gain1 γ p x k 1 f = γ 1 f := by
  unfold gain1
  rw [up_s, pk_un h, up_n _ _ _ (show 1 ≠ 2 by omega)]
theorem gain_10 (γ : Mem) (p : Nat) (x : Int32) {f : Nat} (h : f ≠ 1) : gain γ p x 1 f = γ 1 f := by
  simp only [gain, gain1_10 _ _ _ _ h]
theorem fl1_n (γ : Mem) (w : Nat) {c : Nat} (h : c ≠ 7) (h1 : c ≠ 11) : fl1 γ w c = γ c := by
  simp only [fl1, up_n _ _ _ h, up_n _ _ _ h1]
theorem due1_n (γ : Mem) (w : Nat) {c : Nat} (h : c ≠ 21) (h1 : c ≠ 0) : due1 γ w c = γ c := by
  unfold due1
  split
  · split
    · rfl
    · simp only [up_n _ _ _ h, up_n _ _ _ h1]
  · rfl
theorem due1_0 (γ : Mem) (w : Nat) {f : Nat} (h : f ≠ 6) : due1 γ w 0 f = γ 0 f := by
  unfold due1
  split
  · split
    · rfl
    · rw [up_s, pk_un h, up_n _ _ _ (show 0 ≠ 21 by omega)]
  · rfl
theorem fst1_n (γ : Mem) (w : Nat) {c : Nat} (h : c ≠ 7) (h1 : c ≠ 11) (h2 : c ≠ 21) (h3 : c ≠ 0) : fst1 γ w c = γ c := by
  unfold fst1
  split
  · rfl
  · rw [due1_n _ _ h2 h3, fl1_n _ _ h h1]
theorem fst1_0 (γ : Mem) (w : Nat) {f : Nat} (h : f ≠ 6) : fst1 γ w 0 f = γ 0 f := by
  unfold fst1
  split
  · rfl
  · rw [due1_0 _ _ h]; rfl
theorem fsts_n (γ : Mem) {c : Nat} (h : c ≠ 7) (h1 : c ≠ 11) (h2 : c ≠ 21) (h3 : c ≠ 0) : ∀ n, fsts γ n c = γ c
  | 0 => rfl
  | n + 1 => (fst1_n _ _ h h1 h2 h3).trans (fsts_n γ h h1 h2 h3 n)
theorem fsts_0 (γ : Mem) {f : Nat} (h : f ≠ 6) : ∀ n, fsts γ n 0 f = γ 0 f
  | 0 => rfl
  | n + 1 => (fst1_0 _ _ h).trans (fsts_0 γ h n)
theorem ptp_n (γ : Mem) (p : Nat) {c : Nat} (h : c ≠ 3) : ptp γ p c = γ c := up_n _ _ _ h
theorem eff_n (γ : Mem) (e : Int32) (p : Nat) {c : Nat} (h : c ≠ 7) (h1 : c ≠ 11) (h2 : c ≠ 21) (h3 : c ≠ 0) (h4 : c ≠ 3) : eff γ e p c = γ c := by
  unfold eff
  split
  · exact fsts_n _ h h1 h2 h3 _
  · split
    · exact ptp_n _ _ h4
    · rfl
theorem eff_0 (γ : Mem) (e : Int32) (p : Nat) {f : Nat} (h : f ≠ 6) : eff γ e p 0 f = γ 0 f := by
  unfold eff
  split
  · exact fsts_0 _ h _
  · split
    · rfl
    · rfl
theorem dok_fst1 {γ : Mem} (h : DOk γ) {w : Nat} (hw : w < 12) : DOk (fst1 γ w) := by
  unfold fst1
  split
  · exact h
  · exact dok_due1 (γ := fl1 γ w) (h.of rfl rfl) hw
theorem dok_fsts {γ : Mem} (h : DOk γ) : ∀ n, n ≤ 12 → DOk (fsts γ n)
  | 0, _ => h
  | n + 1, hn => dok_fst1 (dok_fsts h n (by omega)) (by omega)
theorem dok_eff {γ : Mem} (h : DOk γ) (e : Int32) (p : Nat) : DOk (eff γ e p) := by
  unfold eff
  split
  · exact dok_fsts h 12 (by omega)
  · split
    · exact h.of rfl rfl
    · exact h
/-- a work counted: of the glass, of its task -/
def wrk (γ : Mem) (w t : Nat) : Mem := up (up γ 9 w (γ 9 w + 1)) 17 t (γ 17 t + 1)
/-- the work of the glass w is done -/
def dn1 (γ : Mem) (w : Nat) : Mem := if rng (γ 6 w) (γ 12 0) then eff (gain (wrk γ w (γ 6 w).toNatClampNeg) (w / 3) (γ 15 (γ 6 w).toNatClampNeg)) (γ 16 (γ 6 w).toNatClampNeg) (w / 3) else γ
def finD : Nat → Mem → Nat → Int32 × Mem
  | 0, γ, k => (nI k, up γ 0 6 0)
  | n + 1, γ, k => if γ 0 6 ≤ nI k then (nI k, up γ 0 6 0) else finD n (dn1 γ (γ 21 k).toNatClampNeg) (k + 1)
theorem dn1_n (γ : Mem) (w : Nat) {c : Nat} (h : c = 12 ∨ c = 18 ∨ c = 5 ∨ c = 6 ∨ c = 8 ∨ c = 10 ∨ c = 4 ∨ c = 13 ∨ c = 14 ∨ c = 15 ∨ c = 16 ∨ c = 19 ∨ c = 20) : dn1 γ w c = γ c := by
  unfold dn1
  split
  · rw [eff_n _ _ _ (by omega) (by omega) (by omega) (by omega) (by omega), gain_n _ _ _ (by omega) (by omega)]
    simp only [wrk, up_n _ _ _ (show c ≠ 17 by omega), up_n _ _ _ (show c ≠ 9 by omega)]
  · rfl
theorem dn1_10 (γ : Mem) (w : Nat) : dn1 γ w 1 0 = γ 1 0 := by
  unfold dn1
  split
  · rw [eff_n _ _ _ (by omega) (by omega) (by omega) (by omega) (by omega), gain_10 _ _ _ (by omega)]
    rfl
  · rfl
theorem dn1_0 (γ : Mem) (w : Nat) {f : Nat} (h : f ≠ 6) : dn1 γ w 0 f = γ 0 f := by
  unfold dn1
  split
  · rw [eff_0 _ _ _ h, gain_n _ _ _ (by omega) (by omega)]
    rfl
  · rfl
theorem PT.of {γ γ' : Mem} (h : PT γ) (h1 : γ' 1 0 = γ 1 0) (h2 : γ' 12 0 = γ 12 0) (h3 : γ' 18 0 = γ 18 0) : PT γ' := by
  obtain ⟨P, T, C, a, b, c, d, e, f⟩ := h
  exact ⟨P, T, C, a, b, c, h1.trans d, h2.trans e, h3.trans f⟩
theorem pt_dn1 {γ : Mem} (h : PT γ) (w : Nat) : PT (dn1 γ w) := h.of (dn1_10 _ _) (by rw [dn1_n _ _ (by omega)]) (by rw [dn1_n _ _ (by omega)])
theorem dok_dn1 {γ : Mem} (h : DOk γ) (w : Nat) : DOk (dn1 γ w) := by
  unfold dn1
  split
  · exact dok_eff (h.of (by rw [gain_n _ _ _ (by omega) (by omega)]; rfl) (by rw [gain_n _ _ _ (by omega) (by omega)]; rfl)) _ _
  · exact h
theorem s_finishDue {Q : Int32 → Mem → Prop} {γ : Mem} (h1 : PT γ) (h2 : DOk γ) (h : Q (finD 12 γ 0).1 (finD 12 γ 0).2) : vc_X1_finishDue Q γ := by
  have st : ∀ n k γ, n + k = 12 → PT γ → DOk γ → Q (finD n γ k).1 (finD n γ k).2 → vl_X1_finishDue Q (n + 1) 0 γ (nI k) := by
    intro n
    induction n with
    | zero =>
      intro k γ hk h1 h2 h
      refine ⟨fun c => nm_e h, fun c => br_t (gec (a := k) (b := 12) (by omega)) (nm_e h)⟩
    | succ n ih =>
      intro k γ hk h1 h2 h
      unfold finD at h
      refine ⟨fun c => ?_, fun c => br_f (ltc (a := k) (b := 12) (by omega)) ⟨vp_in_nI (by omega) (by omega), nm_e ?_⟩⟩
      · rw [if_pos c] at h; exact nm_e h
      · rw [if_neg c] at h
        rw [nI_clamp (by omega)]
        have h2' := h2
        obtain ⟨m, hm, e6, h21⟩ := h2'
        rw [e6, nI_leI (by omega) (by omega)] at c
        obtain ⟨w, hw, ew⟩ := h21 k (by omega)
        rw [ew, nI_clamp (by omega)] at h
        rw [ew, nI_clamp (by omega)]
        refine ⟨vp_in_nI hw (by omega), nm_e (nm_e ?_)⟩
        have nx := ih (k + 1) (dn1 γ w) (by omega) (pt_dn1 h1 w) (dok_dn1 h2 w) h
        rw [nI_1]
        refine s_hasTask h1 ?_
        unfold dn1 at nx
        by_cases c2 : rng (γ 6 w) (γ 12 0)
        · rw [if_pos c2] at nx ⊢
          obtain ⟨P, T, C, hP, hT, hC, e1, e2, e3⟩ := h1
          have c3 := c2
          rw [e2] at c3
          obtain ⟨t, ht, et⟩ := rng_nat (by omega) c3
          rw [et, nI_clamp (by omega)] at nx
          refine ⟨fun q => absurd q (by decide), fun _ => nm_e ⟨by rw [et]; exact vp_in_nI (by omega) (by omega), nm_e ?_⟩⟩
          rw [et, nI_clamp (by omega)]
          show vc_X5_gain _ _ (nI w / 3) _
          rw [div3 (by omega)]
          refine s_gain (by omega) ?_
          show vc_X1_takeEffect _ _ _ (nI w / 3)
          rw [div3 (by omega), gain_n _ _ _ (show 16 ≠ 2 by omega) (by omega)]
          exact s_takeEffect (by omega) (by rw [gain_n _ _ _ (show 0 ≠ 2 by omega) (by omega)]; show 0 ≤ γ 0 6; rw [e6]; exact nI_pos' (by omega)) nx
        · rw [if_neg c2] at nx ⊢
          exact ⟨fun _ => nx, fun q => absurd rfl q⟩
  exact ⟨13, st 12 0 γ (by omega) h1 h2 h⟩
