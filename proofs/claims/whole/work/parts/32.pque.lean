theorem up_comm (γ : Mem) {c c' : Nat} (f f' : Nat) (v v' : Int32) (h : c ≠ c') : up (up γ c f v) c' f' v' = up (up γ c' f' v') c f v := by
  funext a b
  rw [up_at, up_at, up_at, up_at]
  by_cases h1 : a = c' ∧ b = f'
  · rw [if_pos h1, if_neg (by omega), if_pos h1]
  · rw [if_neg h1, if_neg h1]
theorem r_gains {Q : Mem → Prop} {P p : Nat} {g ρ : Mem} (h : RR P g ρ) (hp : p < P) {x : Int32} (hq : ∀ ρ', RR P (gain g p x) ρ' → Fr ρ ρ' → ρ' 0 = ρ 0 → ρ' 6 = ρ 6 → Q ρ') : vc_X8_gains Q ρ (nI p) x := by
  have hP := h.1
  have st : ∀ n k g ρ, k < 3 → RR P g ρ → (∀ ρ', RR P (gain1 g p x k) ρ' → Fr ρ ρ' → ρ' 0 = ρ 0 → ρ' 6 = ρ 6 → vl_X8_gains Q n 0 ρ' (nI p) x (nI (k + 1)) 0 0 0 0) → vl_X8_gains Q (n + 2) 0 ρ (nI p) x (nI k) 0 0 0 0 := by
    intro n k g ρ hk h hq
    refine br_f (ltc (a := k) (b := 3) hk) ?_
    rw [i8, e_amount _ _ hk, nI_clamp (by omega), h.g hp hk]
    refine ⟨vp_in_nI (by omega) (by omega), nm_e ?_⟩
    have e6 : ρ 1 6 = g 1 1 := h.r 1 1 (by simp [liv]) rfl
    have hx := fun l v => RR.gw (k := k) (h.w 1 1 l (by simp [liv]) rfl (by omega) (by omega) (by omega)) v hp hk
    have hg : ∀ l v, up (up g 1 1 l) 2 (3 * p + k) v = up (up g 2 (3 * p + k) v) 1 1 l := fun l v => up_comm _ _ _ _ _ (by omega)
    have e0 : ∀ l v, up (up ρ 1 6 l) 1 (8 + 5 * p + k) v 0 = ρ 0 := fun l v => by rw [up_n _ _ _ (show 0 ≠ 1 by omega), up_n _ _ _ (show 0 ≠ 1 by omega)]
    have e66 : ∀ l v, up (up ρ 1 6 l) 1 (8 + 5 * p + k) v 6 = ρ 6 := fun l v => by rw [up_n _ _ _ (show 6 ≠ 1 by omega), up_n _ _ _ (show 6 ≠ 1 by omega)]
    unfold gain1 at hq
    generalize g 2 (3 * p + k) + amt x k = v at hq
    refine ⟨fun c => ⟨vp_in_nI (n := 6) (by omega) (by omega), nm_e ⟨fun c' => ⟨by rw [i8]; exact vp_in_nI (by omega) (by omega), nm_e (nm_e ?_)⟩, fun c' => absurd c c'⟩⟩, fun c => ⟨vp_in_nI (n := 6) (by omega) (by omega), nm_e ⟨fun c' => absurd c' c, fun c' => ⟨by rw [i8]; exact vp_in_nI (by omega) (by omega), nm_e (nm_e ?_)⟩⟩⟩⟩
    · have nc : ¬ 99 < v := by grind
      simp only [nc, if_false] at hq
      rw [i8, nI_1, nI_clamp (n := 8 + 5 * p + k) (by omega)]
      show vl_X8_gains Q n 0 (up (up ρ 1 6 (ρ 1 6 + 0)) 1 (8 + 5 * p + k) v) (nI p) x (nI (k + 1)) 0 0 0 0
      rw [e6]
      exact hq _ (by rw [← hg]; exact hx _ _) ((fr_1 _ _ _).tr (fr_1 _ _ _)) (e0 _ _) (e66 _ _)
    · have nc : 99 < v := by grind
      simp only [nc, if_true] at hq
      rw [i8, nI_1, nI_clamp (n := 8 + 5 * p + k) (by omega)]
      show vl_X8_gains Q n 0 (up (up ρ 1 6 (ρ 1 6 + (v - 99))) 1 (8 + 5 * p + k) 99) (nI p) x (nI (k + 1)) 0 0 0 0
      rw [e6]
      exact hq _ (by rw [← hg]; exact hx _ _) ((fr_1 _ _ _).tr (fr_1 _ _ _)) (e0 _ _) (e66 _ _)
  exact ⟨7, st 5 0 g ρ (by omega) h fun ρ1 h1 f1 a1 b1 => st 3 1 _ ρ1 (by omega) h1 fun ρ2 h2 f2 a2 b2 => st 1 2 _ ρ2 (by omega) h2 fun ρ3 h3 f3 a3 b3 => br_t (gec (a := 3) (b := 3) (by omega)) (hq ρ3 h3 (f1.tr (f2.tr f3)) (a3.trans (a2.trans a1)) (b3.trans (b2.trans b1)))⟩
/-- how many glasses of a row have sand above -/
def ac (r : Nat → Int32) : Nat → Nat
  | 0 => 0
  | n + 1 => ac r n + if r n = 0 then 0 else 1
theorem ac_congr {r r' : Nat → Int32} : ∀ n, (∀ i, i < n → r i = r' i) → ac r n = ac r' n
  | 0, _ => rfl
  | n + 1, h => by
    show ac r n + (if r n = 0 then 0 else 1) = ac r' n + (if r' n = 0 then 0 else 1)
    rw [ac_congr n (fun i hi => h i (by omega)), h n (by omega)]
theorem ac_upd (r : Nat → Int32) {w : Nat} (v : Int32) (h : r w ≠ 0) : ∀ n, w < n → ac (upd r w v) n + (if v = 0 then 1 else 0) = ac r n
  | 0, q => by omega
  | n + 1, q => by
    show ac (upd r w v) n + (if upd r w v n = 0 then 0 else 1) + (if v = 0 then 1 else 0) = ac r n + (if r n = 0 then 0 else 1)
    by_cases e : w = n
    · subst e
      rw [pk_us, ac_congr (r' := r) w (fun i hi => pk_un (show i ≠ w by omega)), if_neg h]
      split <;> omega
    · have := ac_upd r v h n (by omega)
      rw [pk_un (show n ≠ w by omega)]
      omega
theorem ac_pos {r : Nat → Int32} {w n : Nat} (h : r w ≠ 0) (hw : w < n) : 1 ≤ ac r n := by
  have := ac_upd r 0 h n hw
  rw [if_pos rfl] at this
  omega
/-- sand lies above at workers of players alone, and they are on a task -/
def TI (P : Nat) (g : Mem) : Prop := ∀ i, i < 12 → g 7 i ≠ 0 → i < 3 * P ∧ rng (g 6 i) (g 12 0)
/-- what is due -/
def DQ (P : Nat) (g : Mem) : Prop := ∃ n, g 0 6 = nI n ∧ n + ac (g 7) 12 ≤ 12 ∧ ∀ j, j < n → ∃ w, w < 3 * P ∧ g 21 j = nI w ∧ g 7 w = 0 ∧ rng (g 6 w) (g 12 0)
theorem dq_step {P w : Nat} {g g' : Mem} {v : Int32} (hP : P ≤ 4) (hw : w < 12) (hd : DQ P g) (ht : TI P g) (h7 : g 7 w ≠ 0) (e7 : g' 7 = upd (g 7) w v) (e6 : g' 6 = g 6) (e12 : g' 12 = g 12) (e21 : g' 21 = g 21) (e0 : g' 0 6 = g 0 6) : DQ P (due1 g' w) ∧ TI P (due1 g' w) ∧ ∃ n, n < 12 ∧ g' 0 6 = nI n := by
  obtain ⟨n, h1, h2, h3⟩ := hd
  have hpos := ac_pos h7 hw
  have hu := ac_upd (g 7) v h7 12 hw
  obtain ⟨hw3, hr⟩ := ht w hw h7
  have d7 : due1 g' w 7 = upd (g 7) w v := by rw [due1_n _ _ (by omega) (by omega), e7]
  have d6 : due1 g' w 6 = g 6 := by rw [due1_n _ _ (by omega) (by omega), e6]
  have d12 : due1 g' w 12 = g 12 := by rw [due1_n _ _ (by omega) (by omega), e12]
  have e06 : g' 0 6 = nI n := e0.trans h1
  have ng : ¬ (12 : Int32) ≤ nI n := nI_ge (b := 12) (a := n) (by omega) (by omega)
  refine ⟨?_, ?_, n, by omega, e06⟩
  · by_cases c : v = 0
    · rw [if_pos c] at hu
      refine ⟨n + 1, ?_, ?_, fun j hj => ?_⟩
      · rw [due1_at, e06, if_pos ⟨by rw [e7, pk_us]; exact c, ng⟩, if_pos ⟨rfl, rfl⟩, nI_1]
      · rw [d7]; omega
      · have e21j : due1 g' w 21 j = if j = n then nI w else g 21 j := by
          rw [due1_at, e06, if_pos ⟨by rw [e7, pk_us]; exact c, ng⟩, if_neg (by omega), nI_clamp (by omega), e21]
          by_cases q : j = n
          · rw [if_pos ⟨rfl, q⟩, if_pos q]
          · rw [if_neg (fun z => q z.2), if_neg q]
        rw [e21j, d7, d6, d12]
        by_cases q : j = n
        · exact ⟨w, hw3, if_pos q, by rw [pk_us]; exact c, hr⟩
        · obtain ⟨w', a, b, c', d⟩ := h3 j (by omega)
          exact ⟨w', a, by rw [if_neg q]; exact b, by rw [pk_un (show w' ≠ w from fun z => h7 (by rw [← z]; exact c'))]; exact c', d⟩
    · rw [if_neg c] at hu
      have dd : due1 g' w = g' := due1_ne (by rw [e7, pk_us]; exact c)
      rw [dd]
      refine ⟨n, e06, by rw [e7]; omega, fun j hj => ?_⟩
      obtain ⟨w', a, b, c', d⟩ := h3 j hj
      rw [e21, e7, e6, e12]
      exact ⟨w', a, b, by rw [pk_un (show w' ≠ w from fun z => h7 (by rw [← z]; exact c'))]; exact c', d⟩
  · intro i hi hn
    rw [d7] at hn
    rw [d6, d12]
    by_cases e : i = w
    · subst e; exact ⟨hw3, hr⟩
    · rw [pk_un e] at hn; exact ht i hi hn
