/-! the reference's own parts -/
/-- what the reference's moves leave alone -/
def Fr (ρ ρ' : Mem) : Prop := (∀ c, c ≠ 0 → c ≠ 1 → c ≠ 6 → ρ' c = ρ c) ∧ ∀ f, f ≠ 9 → ρ' 0 f = ρ 0 f
theorem Fr.rfl' {ρ : Mem} : Fr ρ ρ := ⟨fun _ _ _ _ => rfl, fun _ _ => rfl⟩
theorem Fr.tr {a b c : Mem} (h : Fr a b) (h' : Fr b c) : Fr a c := ⟨fun i h0 h1 h6 => (h'.1 i h0 h1 h6).trans (h.1 i h0 h1 h6), fun f hf => (h'.2 f hf).trans (h.2 f hf)⟩
theorem fr_1 (ρ : Mem) (f : Nat) (v : Int32) : Fr ρ (up ρ 1 f v) := ⟨fun c _ h1 _ => up_n _ _ _ h1, fun f' _ => by rw [up_n _ _ _ (show 0 ≠ 1 by omega)]⟩
theorem fr_6 (ρ : Mem) (f : Nat) (v : Int32) : Fr ρ (up ρ 6 f v) := ⟨fun c _ _ h6 => up_n _ _ _ h6, fun f' _ => by rw [up_n _ _ _ (show 0 ≠ 6 by omega)]⟩
theorem fr_9 (ρ : Mem) (v : Int32) : Fr ρ (up ρ 0 9 v) := ⟨fun c h0 _ _ => up_n _ _ _ h0, fun f' hf => by rw [up_s, pk_un hf]⟩
theorem e_in (Q : Int32 → Prop) (a b c : Int32) : vc_X8_in Q a b c ↔ Q (if a < b then 0 else if c < a then 0 else 1) := e_within Q a b c
theorem e_amount (Q : Int32 → Prop) (x : Int32) {g : Nat} (hg : g < 3) : vc_X8_amount Q x (nI g) ↔ Q (amt x g) := by
  unfold vc_X8_amount amt
  rcases (show g = 0 ∨ g = 1 ∨ g = 2 by omega) with rfl | rfl | rfl <;> simp [nI]
theorem i7 (w k : Nat) : ((28 : Int32) + 7 * nI w) + nI k = nI (28 + 7 * w + k) := by rw [show (28 : Int32) = nI 28 from rfl, show (7 : Int32) = nI 7 from rfl, pk_mul, nI_add, nI_add]
theorem i5 (w k : Nat) : ((112 : Int32) + 5 * nI w) + nI k = nI (112 + 5 * w + k) := by rw [show (112 : Int32) = nI 112 from rfl, show (5 : Int32) = nI 5 from rfl, pk_mul, nI_add, nI_add]
theorem i8 (w k : Nat) : ((8 : Int32) + 5 * nI w) + nI k = nI (8 + 5 * w + k) := by rw [show (8 : Int32) = nI 8 from rfl, show (5 : Int32) = nI 5 from rfl, pk_mul, nI_add, nI_add]
theorem i2 (w k : Nat) : ((152 : Int32) + 2 * nI w) + nI k = nI (152 + 2 * w + k) := by rw [show (152 : Int32) = nI 152 from rfl, show (2 : Int32) = nI 2 from rfl, pk_mul, nI_add, nI_add]
theorem r_of {Q : Int32 → Prop} {ρ : Mem} {w : Nat} (k : Nat) (hw : w < 12) (hk : k < 7) (h : Q (ρ 1 (28 + 7 * w + k))) : vc_X8_of Q ρ (nI w) (nI k) := by
  unfold vc_X8_of
  rw [i7, nI_clamp (by omega)]
  exact ⟨vp_in_nI (by omega) (by omega), h⟩
theorem r_ofTask {Q : Int32 → Prop} {ρ : Mem} {t : Nat} (k : Nat) (ht : t < 8) (hk : k < 5) (h : Q (ρ 1 (112 + 5 * t + k))) : vc_X8_ofTask Q ρ (nI t) (nI k) := by
  unfold vc_X8_ofTask
  rw [i5, nI_clamp (by omega)]
  exact ⟨vp_in_nI (by omega) (by omega), h⟩
/-- the reference beside a game of P players -/
def RR (P : Nat) (g ρ : Mem) : Prop := P ≤ 4 ∧ g 1 0 = nI P ∧ Rel P g (ρ 1)
theorem RR.r {P : Nat} {g ρ : Mem} (h : RR P g ρ) (c f : Nat) {j : Nat} (hl : liv P c f = true) (hj : J c f = j) : ρ 1 j = g c f := by
  rw [← hj]
  exact rel_r h.2.2 h.1 hl
theorem RR.w {P : Nat} {g ρ : Mem} (h : RR P g ρ) (c f : Nat) {j : Nat} (v : Int32) (hl : liv P c f = true) (hj : J c f = j) (h9 : c ≠ 9) (h11 : c ≠ 11) (h1 : c = 1 → f ≠ 0) : RR P (up g c f v) (up ρ 1 j v) := by
  refine ⟨h.1, ?_, ?_⟩
  · rw [up_at, if_neg (fun q => h1 q.1.symm q.2.symm)]
    exact h.2.1
  · rw [up_s, ← hj]
    exact rel_w h.2.2 h.1 v hl h9 h11
theorem RR.fr {P : Nat} {g ρ ρ' : Mem} (h : RR P g ρ) (e : ρ' 1 = ρ 1) : RR P g ρ' := ⟨h.1, h.2.1, by rw [e]; exact h.2.2⟩
theorem RR.p {P : Nat} {g ρ : Mem} (h : RR P g ρ) : ρ 1 0 = nI P := (h.r 1 0 (by simp [liv]) rfl).trans h.2.1
theorem RR.g {P : Nat} {g ρ : Mem} (h : RR P g ρ) {p k : Nat} (hp : p < P) (hk : k < 3) : ρ 1 (8 + 5 * p + k) = g 2 (3 * p + k) := h.r 2 (3 * p + k) (by simp [liv]; omega) (by simp [J]; omega)
theorem RR.gw {P : Nat} {g ρ : Mem} (h : RR P g ρ) {p k : Nat} (v : Int32) (hp : p < P) (hk : k < 3) : RR P (up g 2 (3 * p + k) v) (up ρ 1 (8 + 5 * p + k) v) := h.w 2 (3 * p + k) v (by simp [liv]; omega) (by simp [J]; omega) (by omega) (by omega) (by omega)
theorem r_workers {Q : Int32 → Prop} {P : Nat} {g ρ : Mem} (h : RR P g ρ) (hq : Q (nI (3 * P))) : vc_X8_workers Q ρ := by
  show Q ((3 : Int32) * ρ 1 0)
  rw [h.p, show (3 : Int32) = nI 3 from rfl, pk_mul]
  exact hq
theorem r_has {Q : Int32 → Prop} {P p : Nat} {g ρ : Mem} (h : RR P g ρ) (hp : p < P) {x : Int32} (hq : Q (if hv g p x then 1 else 0)) : vc_X8_has Q ρ (nI p) x := by
  have hP := h.1
  have st0 : ∀ n k, k < 3 → vl_X8_has Q ρ n 0 (nI p) x 0 (nI (k + 1)) → vl_X8_has Q ρ (n + 1) 0 (nI p) x 0 (nI k) := by
    intro n k hk h1
    refine br_f (ltc (a := k) (b := 3) hk) ⟨fun _ => nm_e (by rw [nI_1]; exact h1), fun q => absurd rfl q⟩
  have z : ∀ k n, k ≤ 3 → 4 ≤ n + k → Q 0 → vl_X8_has Q ρ n 0 (nI p) x 0 (nI k) := by
    intro k n hk hn hq
    have e3 : ∀ n, vl_X8_has Q ρ (n + 1) 0 (nI p) x 0 (nI 3) := fun n => br_t (gec (a := 3) (b := 3) (by omega)) ⟨by decide, hq⟩
    rcases (show k = 0 ∨ k = 1 ∨ k = 2 ∨ k = 3 by omega) with rfl | rfl | rfl | rfl
    · obtain ⟨m, rfl⟩ : ∃ m, n = m + 4 := ⟨n - 4, by omega⟩
      exact st0 _ 0 (by omega) (st0 _ 1 (by omega) (st0 _ 2 (by omega) (e3 m)))
    · obtain ⟨m, rfl⟩ : ∃ m, n = m + 3 := ⟨n - 3, by omega⟩
      exact st0 _ 1 (by omega) (st0 _ 2 (by omega) (e3 m))
    · obtain ⟨m, rfl⟩ : ∃ m, n = m + 2 := ⟨n - 2, by omega⟩
      exact st0 _ 2 (by omega) (e3 m)
    · obtain ⟨m, rfl⟩ : ∃ m, n = m + 1 := ⟨n - 1, by omega⟩
      exact e3 m
  have st : ∀ n k, k < 3 → 3 ≤ n + k → (amt x k ≤ g 2 (3 * p + k) → vl_X8_has Q ρ n 0 (nI p) x 1 (nI (k + 1))) → (¬ amt x k ≤ g 2 (3 * p + k) → Q 0) → vl_X8_has Q ρ (n + 1) 0 (nI p) x 1 (nI k) := by
    intro n k hk hn h1 h2
    refine br_f (ltc (a := k) (b := 3) hk) ⟨fun q => absurd q (by decide), fun _ => ?_⟩
    rw [i8, e_amount _ _ hk, nI_clamp (by omega), h.g hp hk, nI_1]
    refine ⟨vp_in_nI (by omega) (by omega), fun c => nm_e (z (k + 1) n (by omega) (by omega) (h2 ?_)), fun c => nm_e (h1 ?_)⟩
    · grind
    · grind
  refine ⟨4, st 3 0 (by omega) (by omega) (fun h0 => st 2 1 (by omega) (by omega) (fun h1 => st 1 2 (by omega) (by omega) (fun h2 => br_t (gec (a := 3) (b := 3) (by omega)) ⟨by decide, ?_⟩) ?_) ?_) ?_⟩
  · rw [if_pos ⟨h0, h1, h2⟩] at hq; exact hq
  · intro h2; rw [if_neg (fun q => h2 q.2.2)] at hq; exact hq
  · intro h1; rw [if_neg (fun q => h1 q.2.1)] at hq; exact hq
  · intro h0; rw [if_neg (fun q => h0 q.1)] at hq; exact hq
theorem r_pays {Q : Mem → Prop} {P p : Nat} {g ρ : Mem} (h : RR P g ρ) (hp : p < P) {x : Int32} (hq : ∀ ρ', RR P (pay g p x) ρ' → Fr ρ ρ' → Q ρ') : vc_X8_pays Q ρ (nI p) x := by
  have hP := h.1
  have st : ∀ n k g ρ, k < 3 → RR P g ρ → (∀ ρ', RR P (pay1 g p x k) ρ' → Fr ρ ρ' → vl_X8_pays Q n 0 ρ' (nI p) x (nI (k + 1))) → vl_X8_pays Q (n + 1) 0 ρ (nI p) x (nI k) := by
    intro n k g ρ hk h hq
    refine br_f (ltc (a := k) (b := 3) hk) ?_
    rw [i8, e_amount _ _ hk, nI_clamp (by omega), nI_1, h.g hp hk]
    exact ⟨vp_in_nI (by omega) (by omega), nm_e (nm_e (hq _ (h.gw _ hp hk) (fr_1 _ _ _)))⟩
  exact ⟨4, st 3 0 g ρ (by omega) h fun ρ1 h1 f1 => st 2 1 _ ρ1 (by omega) h1 fun ρ2 h2 f2 => st 1 2 _ ρ2 (by omega) h2 fun ρ3 h3 f3 => br_t (gec (a := 3) (b := 3) (by omega)) (hq ρ3 h3 (f1.tr (f2.tr f3)))⟩
