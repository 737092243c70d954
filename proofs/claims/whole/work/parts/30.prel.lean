/-! the reference's row beside a game -/
/-- where the reference keeps a game's int -/
def J (c f : Nat) : Nat :=
  if c = 2 then 8 + 5 * (f / 3) + f % 3 else if c = 3 then 8 + 5 * f + 3 else if c = 5 then 28 + 7 * f else if c = 6 then 28 + 7 * f + 1 else if c = 7 then 28 + 7 * f + 2 else if c = 9 then 28 + 7 * f + 3 else if c = 10 then 28 + 7 * f + 4 else if c = 11 then 28 + 7 * f + 5 else if c = 8 then 28 + 7 * f + 6 else if c = 13 then 112 + 5 * f else if c = 14 then 112 + 5 * f + 1 else if c = 15 then 112 + 5 * f + 2 else if c = 16 then 112 + 5 * f + 3 else if c = 17 then 112 + 5 * f + 4 else if c = 19 then 152 + 2 * f else if c = 20 then 152 + 2 * f + 1 else if c = 1 then (if f = 0 then 0 else 6) else if c = 12 then 1 else if c = 18 then 2 else if c = 0 then 3 else 7
/-- the game's ints that the reference keeps, of P players -/
def liv (P c f : Nat) : Bool :=
  (c == 2 && decide (f < 3 * P)) || (c == 3 && decide (f < P)) || (decide (5 ≤ c) && decide (c ≤ 11) && decide (f < 3 * P)) || (decide (13 ≤ c) && decide (c ≤ 17) && decide (f < 8)) || ((c == 19 || c == 20) && decide (f < 6)) || (c == 1 && decide (f < 2)) || ((c == 12 || c == 18 || c == 0 || c == 4) && f == 0)
def Ji (j : Nat) : Nat × Nat :=
  if j < 8 then (if j = 0 then (1, 0) else if j = 1 then (12, 0) else if j = 2 then (18, 0) else if j = 3 then (0, 0) else if j = 6 then (1, 1) else if j = 7 then (4, 0) else (99, j)) else if j < 28 then (if (j - 8) % 5 < 3 then (2, 3 * ((j - 8) / 5) + (j - 8) % 5) else if (j - 8) % 5 = 3 then (3, (j - 8) / 5) else (99, j)) else if j < 112 then ((if (j - 28) % 7 = 0 then 5 else if (j - 28) % 7 = 1 then 6 else if (j - 28) % 7 = 2 then 7 else if (j - 28) % 7 = 3 then 9 else if (j - 28) % 7 = 4 then 10 else if (j - 28) % 7 = 5 then 11 else 8), (j - 28) / 7) else if j < 152 then (13 + (j - 112) % 5, (j - 112) / 5) else (19 + (j - 152) % 2, (j - 152) / 2)
theorem liv_lt {P c f : Nat} (h : liv P c f = true) : c < 21 ∧ (P ≤ 4 → f < 12) := by
  simp [liv] at h
  omega
theorem Ji_J0 : ∀ c, c < 21 → ∀ f, f < 12 → liv 4 c f = true → Ji (J c f) = (c, f) := by decide
theorem J_sum0 : ∀ c, c < 21 → ∀ f, f < 12 → liv 4 c f = true → (decide (J c f < 164) && !(J c f == 4 || J c f == 5 || J c f == 12 || J c f == 17 || J c f == 22 || J c f == 27)) = true := by decide
theorem J_inj {c f c' f' : Nat} (h : liv 4 c f = true) (h' : liv 4 c' f' = true) (e : J c f = J c' f') : c = c' ∧ f = f' := by
  have h1 := Ji_J0 c (liv_lt h).1 f ((liv_lt h).2 (by omega)) h
  have h2 := Ji_J0 c' (liv_lt h').1 f' ((liv_lt h').2 (by omega)) h'
  rw [e, h2] at h1
  exact ⟨(Prod.mk.inj h1).1.symm, (Prod.mk.inj h1).2.symm⟩
theorem J_sum {c f : Nat} (h : liv 4 c f = true) : J c f < 164 ∧ J c f ≠ 4 ∧ J c f ≠ 5 ∧ ∀ p, p < 4 → J c f ≠ 8 + 5 * p + 4 := by
  have := J_sum0 c (liv_lt h).1 f ((liv_lt h).2 (by omega)) h
  simp at this
  exact ⟨by omega, by omega, by omega, fun p hp => by omega⟩
theorem liv_4 {P c f : Nat} (hP : P ≤ 4) (h : liv P c f = true) : liv 4 c f = true := by
  simp [liv] at h ⊢
  omega
def sm (r : Nat → Int32) : Nat → Int32
  | 0 => 0
  | n + 1 => sm r n + r n
theorem sm_congr {r r' : Nat → Int32} : ∀ n, (∀ i, i < n → r i = r' i) → sm r n = sm r' n
  | 0, _ => rfl
  | n + 1, h => by
    show sm r n + r n = sm r' n + r' n
    rw [sm_congr n (fun i hi => h i (by omega)), h n (by omega)]
theorem sm_inc (r : Nat → Int32) {w : Nat} : ∀ n, w < n → sm (upd r w (r w + 1)) n = sm r n + 1
  | 0, h => by omega
  | n + 1, h => by
    show sm (upd r w (r w + 1)) n + upd r w (r w + 1) n = sm r n + r n + 1
    by_cases e : w = n
    · subst e
      rw [pk_us, sm_congr w (fun i hi => pk_un (show i ≠ w by omega))]
      grind
    · rw [sm_inc r n (by omega), pk_un (show n ≠ w by omega)]
      grind
/-- the works of a player -/
def wks (g : Mem) (p : Nat) : Int32 := g 9 (3 * p) + g 9 (3 * p + 1) + g 9 (3 * p + 2)
def Rel (P : Nat) (g : Mem) (s : Nat → Int32) : Prop :=
  (∀ c f, liv 4 c f = true → s (J c f) = if liv P c f = true then g c f else 0) ∧ s 4 = sm (g 9) 12 ∧ s 5 = sm (g 11) 12 ∧ ∀ p, p < 4 → s (8 + 5 * p + 4) = wks g p
theorem rel_r {P : Nat} {g : Mem} {s : Nat → Int32} (h : Rel P g s) (hP : P ≤ 4) {c f : Nat} (hl : liv P c f = true) : s (J c f) = g c f := by
  rw [h.1 c f (liv_4 hP hl), if_pos hl]
theorem rel_w {P : Nat} {g : Mem} {s : Nat → Int32} (h : Rel P g s) (hP : P ≤ 4) {c f : Nat} (v : Int32) (hl : liv P c f = true) (h9 : c ≠ 9) (h11 : c ≠ 11) : Rel P (up g c f v) (upd s (J c f) v) := by
  have l4 := liv_4 hP hl
  obtain ⟨j1, j2, j3, j4⟩ := J_sum l4
  refine ⟨fun a b hab => ?_, ?_, ?_, fun p hp => ?_⟩
  · rw [up_at]
    by_cases e : J a b = J c f
    · obtain ⟨rfl, rfl⟩ := J_inj hab l4 e
      rw [pk_us, if_pos hl, if_pos ⟨rfl, rfl⟩]
    · have e2 : (if a = c ∧ b = f then v else g a b) = g a b := if_neg (fun q => e (by rw [q.1, q.2]))
      rw [pk_un e, e2]
      exact h.1 a b hab
  · rw [pk_un (Ne.symm j2), up_n _ _ _ (Ne.symm h9)]; exact h.2.1
  · rw [pk_un (Ne.symm j3), up_n _ _ _ (Ne.symm h11)]; exact h.2.2.1
  · rw [pk_un (Ne.symm (j4 p hp))]
    unfold wks
    rw [up_n _ _ _ (Ne.symm h9)]; exact h.2.2.2 p hp
theorem rel_fl {P : Nat} {g : Mem} {s : Nat → Int32} (h : Rel P g s) (hP : P ≤ 4) {w : Nat} (hw : w < 3 * P) : Rel P (up g 11 w (g 11 w + 1)) (upd (upd s (28 + 7 * w + 5) (s (28 + 7 * w + 5) + 1)) 5 (upd s (28 + 7 * w + 5) (s (28 + 7 * w + 5) + 1) 5 + 1)) := by
  have hl : liv P 11 w = true := by simp [liv]; omega
  have l4 := liv_4 hP hl
  have ej : J 11 w = 28 + 7 * w + 5 := rfl
  obtain ⟨j1, j2, j3, j4⟩ := J_sum l4
  have er := rel_r h hP hl
  rw [ej] at j1 j2 j3 j4 er
  rw [er]
  refine ⟨fun a b hab => ?_, ?_, ?_, fun p hp => ?_⟩
  · rw [pk_un (J_sum hab).2.2.1, up_at]
    by_cases e : J a b = J 11 w
    · obtain ⟨rfl, rfl⟩ := J_inj hab l4 e
      rw [ej, pk_us, if_pos hl, if_pos ⟨rfl, rfl⟩]
    · have e2 : (if a = 11 ∧ b = w then g 11 w + 1 else g a b) = g a b := if_neg (fun q => e (by rw [q.1, q.2]))
      rw [← ej, pk_un e, e2]
      exact h.1 a b hab
  · rw [pk_un (show 4 ≠ 5 by omega), pk_un (Ne.symm j2), up_n _ _ _ (show 9 ≠ 11 by omega)]; exact h.2.1
  · rw [pk_us, pk_un (Ne.symm j3), up_s, sm_inc _ _ (by omega), h.2.2.1]
  · rw [pk_un (show 8 + 5 * p + 4 ≠ 5 by omega), pk_un (Ne.symm (j4 p hp))]
    unfold wks
    rw [up_n _ _ _ (show 9 ≠ 11 by omega)]; exact h.2.2.2 p hp
theorem rel_wk {P : Nat} {g : Mem} {s s1 s2 s3 s4 : Nat → Int32} (h : Rel P g s) (hP : P ≤ 4) {w t : Nat} (hw : w < 3 * P) (ht : t < 8)
    (h1 : s1 = upd s (28 + 7 * w + 3) (s (28 + 7 * w + 3) + 1)) (h2 : s2 = upd s1 (8 + 5 * (w / 3) + 4) (s1 (8 + 5 * (w / 3) + 4) + 1)) (h3 : s3 = upd s2 (112 + 5 * t + 4) (s2 (112 + 5 * t + 4) + 1)) (h4 : s4 = upd s3 4 (s3 4 + 1)) : Rel P (wrk g w t) s4 := by
  have hl : liv P 9 w = true := by simp [liv]; omega
  have hl2 : liv P 17 t = true := by simp [liv]; omega
  have l4 := liv_4 hP hl
  have l42 := liv_4 hP hl2
  have ej : J 9 w = 28 + 7 * w + 3 := rfl
  have ej2 : J 17 t = 112 + 5 * t + 4 := rfl
  have er := rel_r h hP hl
  have er2 := rel_r h hP hl2
  rw [ej] at er
  rw [ej2] at er2
  have hpt : ∀ j, s4 j = if j = 4 then s 4 + 1 else if j = 112 + 5 * t + 4 then g 17 t + 1 else if j = 8 + 5 * (w / 3) + 4 then s j + 1 else if j = 28 + 7 * w + 3 then g 9 w + 1 else s j := by
    intro j
    subst h1 h2 h3 h4
    unfold upd
    grind
  have hg : ∀ a b, wrk g w t a b = if a = 17 ∧ b = t then g 17 t + 1 else if a = 9 ∧ b = w then g 9 w + 1 else g a b := by
    intro a b
    unfold wrk
    rw [up_at, up_at]
  refine ⟨fun a b hab => ?_, ?_, ?_, fun p hp => ?_⟩
  · obtain ⟨j1, j2, j3, j4⟩ := J_sum hab
    rw [hpt, if_neg j2, hg]
    have jw := j4 (w / 3) (by omega)
    by_cases e : J a b = J 17 t
    · obtain ⟨rfl, rfl⟩ := J_inj hab l42 e
      rw [if_pos ej2, if_pos hl2, if_pos ⟨rfl, rfl⟩]
    · have e2 : ¬ (a = 17 ∧ b = t) := fun q => e (by rw [q.1, q.2])
      rw [if_neg e2, ← ej2, if_neg e, if_neg jw, ← ej]
      by_cases e3 : J a b = J 9 w
      · obtain ⟨rfl, rfl⟩ := J_inj hab l4 e3
        rw [if_pos rfl, if_pos hl, if_pos ⟨rfl, rfl⟩]
      · have e4 : ¬ (a = 9 ∧ b = w) := fun q => e3 (by rw [q.1, q.2])
        rw [if_neg e3, if_neg e4]
        exact h.1 a b hab
  · rw [hpt, if_pos rfl, h.2.1]
    have : wrk g w t 9 = upd (g 9) w (g 9 w + 1) := by
      unfold wrk
      rw [up_n _ _ _ (show 9 ≠ 17 by omega), up_s]
    rw [this, sm_inc _ _ (by omega)]
  · rw [hpt]
    have : wrk g w t 11 = g 11 := by
      unfold wrk
      rw [up_n _ _ _ (show 11 ≠ 17 by omega), up_n _ _ _ (show 11 ≠ 9 by omega)]
    rw [this, if_neg (by omega), if_neg (by omega), if_neg (by omega), if_neg (by omega)]
    exact h.2.2.1
  · have hw := h.2.2.2 p hp
    rw [hpt, if_neg (by omega), if_neg (by omega)]
    unfold wks at hw ⊢
    rw [hg, hg, hg]
    simp only [show ¬ (9 = 17 ∧ 3 * p = t) by omega, show ¬ (9 = 17 ∧ 3 * p + 1 = t) by omega, show ¬ (9 = 17 ∧ 3 * p + 2 = t) by omega, if_false]
    by_cases e : p = w / 3
    · subst e
      rw [if_pos rfl, hw]
      rcases (show w = 3 * (w / 3) ∨ w = 3 * (w / 3) + 1 ∨ w = 3 * (w / 3) + 2 by omega) with q | q | q
      · rw [if_pos ⟨trivial, q.symm⟩, if_neg (by omega), if_neg (by omega), ← q]; grind
      · rw [if_neg (by omega), if_pos ⟨trivial, q.symm⟩, if_neg (by omega), ← q]; grind
      · rw [if_neg (by omega), if_neg (by omega), if_pos ⟨trivial, q.symm⟩, ← q]; grind
    · rw [if_neg (by omega), if_neg (by omega), if_neg (by omega), if_neg (by omega), if_neg (by omega)]
      exact hw
