/-! seconds that pass -/
def nxo (γ : Mem) : Nat → Int32
  | 0 => -1
  | n + 1 => if γ 7 n = 0 then nxo γ n else if nxo γ n = -1 then nI n else if γ 7 (nxo γ n).toNatClampNeg ≤ γ 7 n then nxo γ n else nI n
theorem nI_m1 {n : Nat} (h : n < 2 ^ 31) : ¬ nI n = -1 := by
  intro q
  have := nI_pos' h
  rw [q] at this
  exact absurd this (by decide)
theorem nxo_spec (γ : Mem) : ∀ n, n ≤ 12 → (nxo γ n = -1 ∧ ∀ i, i < n → γ 7 i = 0) ∨ ∃ b, b < n ∧ nxo γ n = nI b ∧ γ 7 b ≠ 0 ∧ (∀ i, i < n → γ 7 i ≠ 0 → γ 7 b ≤ γ 7 i) ∧ (∀ i, i < b → γ 7 i ≠ 0 → γ 7 b < γ 7 i)
  | 0, _ => Or.inl ⟨rfl, fun i h => by omega⟩
  | n + 1, hn => by
    rcases nxo_spec γ n (by omega) with ⟨h1, h2⟩ | ⟨b, hb, h1, h2, h3, h4⟩
    · by_cases c : γ 7 n = 0
      · refine Or.inl ⟨by unfold nxo; rw [if_pos c]; exact h1, fun i hi => ?_⟩
        by_cases e : i = n
        · rw [e]; exact c
        · exact h2 i (by omega)
      · refine Or.inr ⟨n, by omega, by unfold nxo; rw [if_neg c, if_pos h1], c, fun i hi hx => ?_, fun i hi hx => absurd (h2 i hi) hx⟩
        by_cases e : i = n
        · rw [e]; exact Int32.le_refl _
        · exact absurd (h2 i (by omega)) hx
    · have hne : ¬ nxo γ n = -1 := by rw [h1]; exact nI_m1 (by omega)
      by_cases c : γ 7 n = 0
      · refine Or.inr ⟨b, by omega, by unfold nxo; rw [if_pos c]; exact h1, h2, fun i hi hx => ?_, h4⟩
        by_cases e : i = n
        · rw [e] at hx; exact absurd c hx
        · exact h3 i (by omega) hx
      · by_cases c2 : γ 7 b ≤ γ 7 n
        · refine Or.inr ⟨b, by omega, ?_, h2, fun i hi hx => ?_, h4⟩
          · unfold nxo; rw [if_neg c, if_neg hne, h1, nI_clamp (by omega), if_pos c2]
          · by_cases e : i = n
            · rw [e]; exact c2
            · exact h3 i (by omega) hx
        · refine Or.inr ⟨n, by omega, ?_, c, fun i hi hx => ?_, fun i hi hx => ?_⟩
          · unfold nxo; rw [if_neg c, if_neg hne, h1, nI_clamp (by omega), if_neg c2]
          · by_cases e : i = n
            · rw [e]; exact Int32.le_refl _
            · have := h3 i (by omega) hx
              grind
          · have := h3 i (by omega) hx
            grind
theorem s_nextOut {Q : Int32 → Prop} {γ : Mem} (h : Q (nxo γ 12)) : vc_X2_nextOut Q γ := by
  have st : ∀ k n, n + k = 12 → vl_X2_nextOut Q γ (k + 1) 0 (nxo γ n) (nI n) := by
    intro k
    induction k with
    | zero =>
      intro n hn
      refine br_t (gec (a := n) (b := 12) (by omega)) ?_
      rw [show n = 12 by omega]; exact h
    | succ k ih =>
      intro n hn
      have nx := ih (n + 1) (by omega)
      refine br_f (ltc (a := n) (b := 12) (by omega)) (s_isOut (by omega) ?_)
      unfold nxo at nx
      by_cases c : γ 7 n = 0
      · rw [if_pos c] at nx ⊢
        refine ⟨fun _ => nm_e (by rw [nI_1]; exact nx), fun q => absurd q (by decide)⟩
      · rw [if_neg c] at nx ⊢
        refine ⟨fun q => absurd rfl q, fun _ => ⟨fun c1 => nm_e (by rw [nI_1]; rw [if_pos c1] at nx; exact nx), fun c1 => ?_⟩⟩
        rw [if_neg c1] at nx
        have hin : vp_in (nxo γ n) 12 := by
          rcases nxo_spec γ n (by omega) with ⟨h1, h2⟩ | ⟨b, hb, h1, h2, h3, h4⟩
          · exact absurd h1 c1
          · rw [h1]; exact vp_in_nI (by omega) (by omega)
        refine ⟨vp_in_nI (by omega) (by omega), hin, ?_⟩
        rw [nI_clamp (n := n) (by omega)]
        refine ⟨fun c2 => nm_e ?_, fun c2 => nm_e ?_⟩
        · rw [nI_1]; rw [if_pos c2] at nx; exact nx
        · rw [nI_1]; rw [if_neg c2] at nx; exact nx
  exact ⟨13, st 12 0 rfl⟩
def unt (γ : Mem) : Int32 := if nxo γ 12 = -1 then 1000000 else γ 7 (nxo γ 12).toNatClampNeg
theorem s_untilNextOut {Q : Int32 → Prop} {γ : Mem} (h : Q (unt γ)) : vc_X2_untilNextOut Q γ := by
  refine s_nextOut ?_
  unfold unt at h
  refine ⟨fun c => ?_, fun c => ?_⟩
  · rw [if_neg c] at h
    refine ⟨?_, h⟩
    rcases nxo_spec γ 12 (by omega) with ⟨h1, h2⟩ | ⟨b, hb, h1, h2, h3, h4⟩
    · exact absurd h1 c
    · rw [h1]; exact vp_in_nI (by omega) (by omega)
  · rw [if_pos c] at h; exact h
/-- one glass, k seconds -/
def tk1 (γ : Mem) (k : Int32) (i : Nat) : Mem := if γ 7 i = 0 then up γ 10 i (γ 10 i + k) else due1 (up γ 7 i (if 0 < γ 7 i - k then γ 7 i - k else 0)) i
def tks (γ : Mem) (k : Int32) : Nat → Mem
  | 0 => γ
  | n + 1 => tk1 (tks γ k n) k n
def sec (γ : Mem) (k : Int32) : Mem := up γ 0 0 (γ 0 0 + k)
/-- a step of k seconds: how many works were done, and what is then -/
def stp (γ : Mem) (P : Nat) (k : Int32) : Int32 × Mem := finD 12 (sec (tks γ k (3 * P)) k) 0
def advs (P : Nat) : Nat → Mem → Int32 × Mem
  | 0, γ => (0, γ)
  | n + 1, γ => ((stp γ P 1).1 + (advs P n (stp γ P 1).2).1, (advs P n (stp γ P 1).2).2)
theorem advs_add (P : Nat) : ∀ (a b : Nat) (γ : Mem), advs P (a + b) γ = ((advs P a γ).1 + (advs P b (advs P a γ).2).1, (advs P b (advs P a γ).2).2)
  | 0, b, γ => by rw [Nat.zero_add]; simp [advs]
  | a + 1, b, γ => by
    rw [show a + 1 + b = (a + b) + 1 by omega]
    show ((stp γ P 1).1 + (advs P (a + b) (stp γ P 1).2).1, _) = _
    rw [advs_add P a b]
    simp only [advs, Int32.add_assoc]
theorem tk1_n (γ : Mem) (k : Int32) (i : Nat) {c : Nat} (h : c ≠ 7) (h1 : c ≠ 10) (h2 : c ≠ 21) (h3 : c ≠ 0) : tk1 γ k i c = γ c := by
  unfold tk1
  split
  · exact up_n _ _ _ h1
  · rw [due1_n _ _ h2 h3, up_n _ _ _ h]
theorem tks_n (γ : Mem) (k : Int32) {c : Nat} (h : c ≠ 7) (h1 : c ≠ 10) (h2 : c ≠ 21) (h3 : c ≠ 0) : ∀ n, tks γ k n c = γ c
  | 0 => rfl
  | n + 1 => (tk1_n _ _ _ h h1 h2 h3).trans (tks_n γ k h h1 h2 h3 n)
theorem tk1_0 (γ : Mem) (k : Int32) (i : Nat) {f : Nat} (h : f ≠ 6) : tk1 γ k i 0 f = γ 0 f := by
  unfold tk1
  split
  · rfl
  · rw [due1_0 _ _ h]; rfl
theorem tks_0 (γ : Mem) (k : Int32) {f : Nat} (h : f ≠ 6) : ∀ n, tks γ k n 0 f = γ 0 f
  | 0 => rfl
  | n + 1 => (tk1_0 _ _ _ h).trans (tks_0 γ k h n)
theorem dok_tk1 {γ : Mem} (h : DOk γ) (k : Int32) {i : Nat} (hi : i < 12) : DOk (tk1 γ k i) := by
  unfold tk1
  split
  · exact h.of rfl rfl
  · exact dok_due1 (γ := up γ 7 i _) (h.of rfl rfl) hi
theorem dok_tks {γ : Mem} (h : DOk γ) (k : Int32) : ∀ n, n ≤ 12 → DOk (tks γ k n)
  | 0, _ => h
  | n + 1, hn => dok_tk1 (dok_tks h k n (by omega)) k (by omega)
