/-- absent players' workers are at home -/
def AT (P : Nat) (g : Mem) : Prop := ∀ i, 3 * P ≤ i → i < 12 → g 6 i = -1
theorem numOn_at {P t : Nat} {g : Mem} (h : AT P g) (ht : t < 2 ^ 31) : ∀ j, 3 * P + j ≤ 12 → numOn g (nI t) (3 * P + j) = numOn g (nI t) (3 * P)
  | 0, _ => rfl
  | j + 1, hj => by
    show (if g 6 (3 * P + j) = nI t then numOn g (nI t) (3 * P + j) + 1 else numOn g (nI t) (3 * P + j)) = _
    rw [h (3 * P + j) (by omega) (by omega), if_neg (fun q => nI_m1 ht q.symm), numOn_at h ht j (by omega)]
theorem r_left {Q : Int32 → Prop} {P t : Nat} {g ρ : Mem} (h : RR P g ρ) (ha : AT P g) (ht : t < 8) (hq : Q (lft g t)) : vc_X8_left Q ρ (nI t) := by
  have hP := h.1
  have st : ∀ j i, i + j = 3 * P → vl_X8_left Q ρ (j + 1) 0 (nI t) (g 13 t - numOn g (nI t) i) (nI i) := by
    intro j
    induction j with
    | zero =>
      intro i hi
      show vb_X8_left_9 Q ρ (vl_X8_left Q ρ 0) (nI t) (g 13 t - numOn g (nI t) i) (nI i)
      refine r_workers h ?_
      refine br_t (gec (a := i) (b := 3 * P) (by omega)) ?_
      have := numOn_at (P := P) (t := t) ha (by omega) (12 - 3 * P) (by omega)
      rw [show 3 * P + (12 - 3 * P) = 12 by omega, ← show i = 3 * P by omega] at this
      rw [← this]
      exact hq
    | succ j ih =>
      intro i hi
      show vb_X8_left_9 Q ρ (vl_X8_left Q ρ (j + 1)) (nI t) (g 13 t - numOn g (nI t) i) (nI i)
      refine r_workers h ?_
      refine br_f (ltc (a := i) (b := 3 * P) (by omega)) (r_of 1 (by omega) (by omega) ?_)
      rw [h.r 6 i (j := 28 + 7 * i + 1) (by simp [liv]; omega) rfl]
      have nx := ih (i + 1) (by omega)
      have e : numOn g (nI t) (i + 1) = if g 6 i = nI t then numOn g (nI t) i + 1 else numOn g (nI t) i := rfl
      rw [e] at nx
      by_cases c : g 6 i = nI t
      · rw [if_pos c] at nx
        refine ⟨fun q => absurd c q, fun _ => nm_e (nm_e ?_)⟩
        rw [nI_1, show g 13 t - numOn g (nI t) i - 1 = g 13 t - (numOn g (nI t) i + 1) by grind]
        exact nx
      · rw [if_neg c] at nx
        refine ⟨fun _ => nm_e (nm_e ?_), fun q => absurd q c⟩
        rw [nI_1, Int32.sub_zero]
        exact nx
  refine ⟨3 * P + 1, r_ofTask 0 ht (by omega) ?_⟩
  rw [h.r 13 t (j := 112 + 5 * t + 0) (by simp [liv]; omega) rfl]
  have := st (3 * P) 0 (by omega)
  rw [show g 13 t - numOn g (nI t) 0 = g 13 t from Int32.sub_zero _] at this
  exact this
theorem r_canPut {Q : Int32 → Prop} {P w t : Nat} {g ρ : Mem} (h : RR P g ρ) (ha : AT P g) (hw : w < 3 * P) (ht : t < 8) (hq : Q (if cput g w t then 1 else 0)) : vc_X8_canPut Q ρ (nI w) (nI t) := by
  have hP := h.1
  refine ⟨1, r_of 2 (by omega) (by omega) ?_⟩
  rw [h.r 7 w (j := 28 + 7 * w + 2) (by simp [liv]; omega) rfl]
  refine ⟨fun c => ?_, fun c => r_left h ha ht ?_⟩
  · rw [if_neg (fun q => c q.1)] at hq; exact hq
  · have fin : (g 6 w = nI t ∨ 0 < lft g t) → vl_X8_canPut Q ρ 1 0 (nI w) (nI t) := by
      intro c2
      show vb_X8_canPut_27 Q ρ (vl_X8_canPut Q ρ 0) (nI w) (nI t)
      refine r_ofTask 1 ht (by omega) ?_
      rw [h.r 14 t (j := 112 + 5 * t + 1) (by simp [liv]; omega) rfl, show nI w / 3 = nI (w / 3) from div3 (by omega)]
      refine r_has h (by omega) ?_
      by_cases c3 : hv g (w / 3) (g 14 t)
      · rw [if_pos ⟨c, c2, c3⟩] at hq
        rw [if_pos c3]
        exact ⟨fun q => absurd q (by decide), fun _ => hq⟩
      · rw [if_neg (fun q => c3 q.2.2)] at hq
        rw [if_neg c3]
        exact ⟨fun _ => hq, fun q => absurd rfl q⟩
    refine ⟨fun c1 => fin (Or.inr c1), fun c1 => r_of 1 (by omega) (by omega) ?_⟩
    rw [h.r 6 w (j := 28 + 7 * w + 1) (by simp [liv]; omega) rfl]
    refine ⟨fun c2 => ?_, fun c2 => fin (Or.inl c2)⟩
    rw [if_neg (fun q => q.2.1.elim c2 c1)] at hq
    exact hq
theorem r_puts {Q : Mem → Prop} {P w t : Nat} {g ρ : Mem} (h : RR P g ρ) (hw : w < 3 * P) (ht : t < 8) (hq : ∀ ρ', RR P (stt (pay g (w / 3) (g 14 t)) w (nI t)) ρ' → Fr ρ ρ' → Q ρ') : vc_X8_puts Q ρ (nI w) (nI t) := by
  have hP := h.1
  refine r_ofTask 1 ht (by omega) ?_
  rw [h.r 14 t (j := 112 + 5 * t + 1) (by simp [liv]; omega) rfl, show nI w / 3 = nI (w / 3) from div3 (by omega)]
  refine r_pays h (by omega) (fun ρ1 R1 f1 => ?_)
  generalize pay g (w / 3) (g 14 t) = g1 at R1 hq
  rw [show ((28 : Int32) + 7 * nI w) + 6 = nI (28 + 7 * w + 6) from i7 w 6, show ((28 : Int32) + 7 * nI w) + 1 = nI (28 + 7 * w + 1) from i7 w 1, show ((28 : Int32) + 7 * nI w) + 2 = nI (28 + 7 * w + 2) from i7 w 2, nI_clamp (n := 28 + 7 * w + 6) (by omega), nI_clamp (n := 28 + 7 * w + 1) (by omega), nI_clamp (n := 28 + 7 * w + 2) (by omega), show (7 : Int32).toNatClampNeg = 7 from rfl]
  have e7 : ρ1 1 7 = g1 4 0 := R1.r 4 0 (j := 7) (by simp [liv]) rfl
  have R2 := R1.w 8 w (j := 28 + 7 * w + 6) (g1 4 0) (by simp [liv]; omega) rfl (by omega) (by omega) (by omega)
  have R3 := R2.w 4 0 (j := 7) (g1 4 0 + 1) (by simp [liv]) rfl (by omega) (by omega) (by omega)
  have R4 := R3.w 6 w (j := 28 + 7 * w + 1) (nI t) (by simp [liv]; omega) rfl (by omega) (by omega) (by omega)
  have R5 := R4.w 7 w (j := 28 + 7 * w + 2) (g1 5 w) (by simp [liv]; omega) rfl (by omega) (by omega) (by omega)
  refine ⟨vp_in_nI (by omega) (by omega), nm_e (nm_e ⟨vp_in_nI (by omega) (by omega), nm_e (r_of 0 (by omega) (by omega) ⟨vp_in_nI (by omega) (by omega), nm_e ?_⟩)⟩)⟩
  have e5 := R4.r 5 w (j := 28 + 7 * w + 0) (by simp [liv]; omega) rfl
  have e7' : up ρ1 1 (28 + 7 * w + 6) (g1 4 0) 1 7 = g1 4 0 := R2.r 4 0 (j := 7) (by simp [liv]) rfl
  rw [e7, e7', e5]
  refine hq _ ?_ (f1.tr ((fr_1 _ _ _).tr ((fr_1 _ _ _).tr ((fr_1 _ _ _).tr (fr_1 _ _ _)))))
  have : stt g1 w (nI t) = up (up (up (up g1 8 w (g1 4 0)) 4 0 (g1 4 0 + 1)) 6 w (nI t)) 7 w (g1 5 w) := by
    funext a b
    unfold stt
    simp only [up_at]
    grind
  rw [this]
  exact R5
