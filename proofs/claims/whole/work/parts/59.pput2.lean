/-! what a put does -/
/-- the glass w put on the task t -/
def pst (g : Mem) (t w : Nat) : Mem := stt (pay g (w / 3) (g 14 t)) w (nI t)
theorem pst_n (g : Mem) (t w : Nat) {c : Nat} (h2 : c ≠ 2) (h6 : c ≠ 6) (h7 : c ≠ 7) (h8 : c ≠ 8) (h4 : c ≠ 4) : pst g t w c = g c := by
  unfold pst stt
  rw [up_n _ _ _ h4, up_n _ _ _ h8, up_n _ _ _ h7, up_n _ _ _ h6, pay_n _ _ _ h2]
theorem pst_6 (g : Mem) (t w : Nat) : pst g t w 6 = upd (g 6) w (nI t) := by
  unfold pst stt
  rw [up_n _ _ _ (by omega), up_n _ _ _ (by omega), up_n _ _ _ (by omega), up_s, pay_n _ _ _ (by omega)]
theorem pst_7 (g : Mem) (t w : Nat) : pst g t w 7 = upd (g 7) w (g 5 w) := by
  unfold pst stt
  rw [up_n _ _ _ (by omega), up_n _ _ _ (by omega), up_s, up_n _ _ _ (by omega), pay_n _ _ _ (by omega), pay_n _ _ _ (by omega)]
theorem pay_at (g : Mem) (p : Nat) (x : Int32) {f : Nat} : pay g p x 2 f = if f = 3 * p then g 2 f - amt x 0 else if f = 3 * p + 1 then g 2 f - amt x 1 else if f = 3 * p + 2 then g 2 f - amt x 2 else g 2 f := by
  unfold pay pay1
  simp only [up_at]
  by_cases c0 : f = 3 * p
  · subst c0; simp
  · by_cases c1 : f = 3 * p + 1
    · subst c1; simp
    · by_cases c2 : f = 3 * p + 2
      · subst c2; simp
      · simp [c0, c1, c2]
theorem pst_2 (g : Mem) (t w : Nat) : pst g t w 2 = pay g (w / 3) (g 14 t) 2 := by
  unfold pst stt
  rw [up_n _ _ _ (by omega), up_n _ _ _ (by omega), up_n _ _ _ (by omega), up_n _ _ _ (by omega)]
/-- how many of the first n stand on t -/
def nc (r : Nat → Int32) (t : Nat) : Nat → Nat
  | 0 => 0
  | n + 1 => nc r t n + if r n = nI t then 1 else 0
theorem numOn_nc (g : Mem) (t : Nat) : ∀ n, numOn g (nI t) n = nI (nc (g 6) t n)
  | 0 => rfl
  | n + 1 => by
    show (if g 6 n = nI t then numOn g (nI t) n + 1 else numOn g (nI t) n) = nI (nc (g 6) t n + if g 6 n = nI t then 1 else 0)
    rw [numOn_nc g t n]
    split
    · exact nI_1 _
    · rfl
theorem nc_congr {r r' : Nat → Int32} (t : Nat) : ∀ n, (∀ i, i < n → r' i = r i) → nc r' t n = nc r t n
  | 0, _ => rfl
  | n + 1, h => by
    show nc r' t n + _ = nc r t n + _
    rw [nc_congr t n (fun i hi => h i (by omega)), h n (by omega)]
theorem nc_upd (r : Nat → Int32) (t : Nat) {w : Nat} (v : Int32) : ∀ n, w < n → nc (upd r w v) t n + (if r w = nI t then 1 else 0) = nc r t n + (if v = nI t then 1 else 0)
  | 0, h => by omega
  | n + 1, h => by
    show nc (upd r w v) t n + (if upd r w v n = nI t then 1 else 0) + _ = nc r t n + (if r n = nI t then 1 else 0) + _
    by_cases e : w = n
    · subst e
      rw [nc_congr (r := r) (r' := upd r w v) t w (fun i hi => pk_un (show i ≠ w by omega)), pk_us]
      omega
    · have ih := nc_upd r t (w := w) v n (by omega)
      rw [pk_un (show n ≠ w by omega)]
      omega
theorem nc_le (r : Nat → Int32) (t : Nat) : ∀ n, nc r t n ≤ n
  | 0 => Nat.le_refl _
  | n + 1 => by
    have := nc_le r t n
    show nc r t n + (if r n = nI t then 1 else 0) ≤ n + 1
    split <;> omega
theorem lft_nc (g : Mem) (t : Nat) : lft g t = g 13 t - nI (nc (g 6) t 12) := by
  unfold lft
  rw [numOn_nc]
/-- a task has no more glasses than places -/
def LF (g : Mem) : Prop := ∀ t, t < 8 → ∃ c, c ≤ 3 ∧ g 13 t = nI c ∧ nc (g 6) t 12 ≤ c
theorem lf_lft {g : Mem} (h : LF g) {t : Nat} (ht : t < 8) : ∃ a, a ≤ 3 ∧ lft g t = nI a := by
  obtain ⟨c, hc, e, hn⟩ := h t ht
  exact ⟨c - nc (g 6) t 12, by omega, by rw [lft_nc, e, nI_sub hn]⟩
theorem LF.of {g g' : Mem} (h : LF g) (e13 : g' 13 = g 13) (e6 : g' 6 = g 6) : LF g' := by
  intro t ht
  obtain ⟨c, a⟩ := h t ht
  exact ⟨c, by rw [e13, e6]; exact a⟩
theorem LF.put {g : Mem} (h : LF g) {t w : Nat} (ht : t < 8) (hw : w < 12) (hc : g 6 w = nI t ∨ 0 < lft g t) : LF (pst g t w) := by
  intro t' ht'
  obtain ⟨c, hc3, e, hn⟩ := h t' ht'
  refine ⟨c, hc3, by rw [pst_n _ _ _ (by omega) (by omega) (by omega) (by omega) (by omega)]; exact e, ?_⟩
  rw [pst_6]
  have u := nc_upd (g 6) t' (w := w) (nI t) 12 hw
  by_cases et : t = t'
  · subst et
    rw [if_pos rfl] at u
    rcases hc with q | q
    · rw [if_pos q] at u; omega
    · rw [lft_nc, e, nI_sub hn, show (0 : Int32) = nI 0 from rfl, nI_ltI (by omega) (by omega)] at q
      split at u <;> omega
  · have nt : ¬ nI t = nI t' := fun q => et (by
      have := nI_clamp (n := t) (by omega)
      rw [q, nI_clamp (by omega)] at this
      exact this.symm)
    rw [if_neg nt] at u
    split at u <;> omega
theorem lft_put {g : Mem} {t w : Nat} (hw : w < 12) : lft (pst g t w) t = if g 6 w = nI t then lft g t else lft g t - 1 := by
  rw [lft_nc, lft_nc, pst_n _ _ _ (by omega) (by omega) (by omega) (by omega) (by omega), pst_6]
  have u := nc_upd (g 6) t (w := w) (nI t) 12 hw
  rw [if_pos rfl] at u
  by_cases c : g 6 w = nI t
  · rw [if_pos c] at u ⊢
    rw [show nc (upd (g 6) w (nI t)) t 12 = nc (g 6) t 12 by omega]
  · rw [if_neg c] at u ⊢
    rw [show nc (upd (g 6) w (nI t)) t 12 = nc (g 6) t 12 + 1 by omega, ← nI_1]
    grind
theorem amt_pos {x : Int32} {k : Nat} (h0 : 0 ≤ x) (h1 : x ≤ 999) (hk : k < 3) : ∃ a, a ≤ 9 ∧ amt x k = nI a := by
  obtain ⟨n, hn, e⟩ := nat_le (m := 999) (by omega) h0 h1
  unfold amt
  rw [e, show (100 : Int32) = nI 100 from rfl, show (10 : Int32) = nI 10 from rfl, pk_div (by omega) (by omega) (by omega), pk_div (by omega) (by omega) (by omega), pk_div (by omega) (by omega) (by omega), pk_mul, pk_mul, nI_sub (by omega), nI_sub (by omega)]
  rcases (show k = 0 ∨ k = 1 ∨ k = 2 by omega) with rfl | rfl | rfl
  · exact ⟨n / 100, by omega, by simp⟩
  · exact ⟨n / 10 - n / 10 / 10 * 10, by omega, by simp⟩
  · exact ⟨n - n / 10 * 10, by omega, by simp⟩
theorem le_sub {a b : Int32} (h0 : 0 ≤ b) (h : b ≤ a) : a - b ≤ a := by
  rw [Int32.le_iff_toInt_le] at *
  rw [show (0 : Int32).toInt = 0 from rfl] at h0
  have := a.toInt_lt
  have := a.le_toInt
  have := b.toInt_lt
  rw [Int32.toInt_sub, Int.bmod_eq_of_le (by omega) (by omega)]
  omega
/-- who has paid has not more than before -/
theorem hv_put {g : Mem} {t w : Nat} {x : Int32} (h0 : 0 ≤ g 14 t) (h1 : g 14 t ≤ 999) (hc : hv g (w / 3) (g 14 t)) (h : hv (pst g t w) (w / 3) x) : hv g (w / 3) x := by
  obtain ⟨c0, c1, c2⟩ := hc
  have am : ∀ k, k < 3 → 0 ≤ amt (g 14 t) k := fun k hk => by
    obtain ⟨a, _, e⟩ := amt_pos h0 h1 hk
    rw [e]; exact nI_pos' (by omega)
  unfold hv at h ⊢
  rw [pst_2, pay_at, pay_at, pay_at, if_pos rfl, if_neg (by omega), if_pos rfl, if_neg (by omega), if_neg (by omega), if_pos rfl] at h
  obtain ⟨q0, q1, q2⟩ := h
  exact ⟨Int32.le_trans q0 (le_sub (am 0 (by omega)) c0), Int32.le_trans q1 (le_sub (am 1 (by omega)) c1), Int32.le_trans q2 (le_sub (am 2 (by omega)) c2)⟩
theorem GO.put {P T : Nat} {g : Mem} (h : GO P g) {t w : Nat} (hT : T ≤ 8) (eT : g 12 0 = nI T) (ht : t < T) (hw : w < 3 * P) : GO P (pst g t w) := by
  have hP := h.1.hP
  obtain ⟨⟨_, a1, a2, a3, a4⟩, b, c⟩ := h
  have n5 : pst g t w 5 = g 5 := pst_n _ _ _ (by omega) (by omega) (by omega) (by omega) (by omega)
  have n12 : pst g t w 12 = g 12 := pst_n _ _ _ (by omega) (by omega) (by omega) (by omega) (by omega)
  refine ⟨⟨hP, ?_, a2.of ?_ (by rw [n12]) ?_, ?_, ?_⟩, ?_, ?_⟩
  · rw [pst_n _ _ _ (by omega) (by omega) (by omega) (by omega) (by omega)]; exact a1
  · rw [pst_n _ _ _ (by omega) (by omega) (by omega) (by omega) (by omega)]
  · rw [pst_n _ _ _ (by omega) (by omega) (by omega) (by omega) (by omega)]
  · rw [pst_n _ _ _ (by omega) (by omega) (by omega) (by omega) (by omega)]; exact a3
  · intro i hi
    obtain ⟨z, a, e5, e7, q1, q2⟩ := a4 i hi
    rw [n5, pst_7]
    by_cases e : i = w
    · subst e
      exact ⟨z, z, e5, by rw [pk_us]; exact e5, Nat.le_refl _, q2⟩
    · exact ⟨z, a, e5, by rw [pk_un e]; exact e7, q1, q2⟩
  · intro i hi h7
    rw [pst_7] at h7
    rw [pst_6, n12]
    by_cases e : i = w
    · subst e
      rw [pk_us, eT]
      exact ⟨hw, rng_of ht (by omega)⟩
    · rw [pk_un e] at h7 ⊢
      exact b i hi h7
  · intro i h1 h2
    rw [pst_6, pk_un (by omega)]
    exact c i h1 h2
