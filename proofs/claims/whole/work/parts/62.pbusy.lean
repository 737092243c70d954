/-- no worker has waited longer than the game lasts -/
def WS (g : Mem) : Prop := ∃ b, b ≤ 9999 ∧ g 0 0 = nI b ∧ ∀ i, i < 12 → ∃ a, a ≤ b ∧ g 10 i = nI a
theorem fl_0 : FP.i2f (nI 0) = 0 := by decide
theorem fd_0 {E t : Nat} (h1 : 1 ≤ E) (hE : E ≤ 254) (ht : t < 8388608) : FP.fdiv 0 (fb E t) = 0 := by
  show UInt32.ofNat (FP.Core.encode FP.Core.b32 (FP.Core.quotient FP.Core.b32 (FP.Core.decode FP.Core.b32 (0 : UInt32).toNat) (FP.Core.decode FP.Core.b32 (fb E t).toNat))) = 0
  rw [dec_fb h1 hE ht, show FP.Core.decode FP.Core.b32 (0 : UInt32).toNat = .fin false 0 (-149) from by decide]
  show UInt32.ofNat (FP.Core.encode FP.Core.b32 (if 8388608 + t = 0 then _ else FP.Core.roundRatio FP.Core.b32 (false != false) 0 (8388608 + t) _)) = 0
  rw [if_neg (by omega)]
  unfold FP.Core.roundRatio
  rw [if_pos rfl]
  decide
theorem i2f_ex {n : Nat} (h1 : 1 ≤ n) (h2 : n ≤ 9999) : ∃ l, 2 ^ l ≤ n ∧ n < 2 ^ (l + 1) ∧ l ≤ 14 ∧ FP.i2f (nI n) = fb (l + 127) (n * 2 ^ (23 - l) - 8388608) ∧ n * 2 ^ (23 - l) - 8388608 < 8388608 := by
  have a := Nat.log2_self_le (n := n) (by omega)
  have b := Nat.lt_log2_self (n := n)
  have hl : n.log2 ≤ 14 := by
    rcases Nat.lt_or_ge n.log2 15 with h | h
    · omega
    · have := Nat.pow_le_pow_right (n := 2) (by omega) h
      have : (2 : Nat) ^ 15 = 32768 := rfl
      omega
  refine ⟨n.log2, a, b, hl, i2f_fb a b hl, ?_⟩
  have e : 2 ^ (n.log2 + 1) * 2 ^ (23 - n.log2) = 16777216 := by rw [← Nat.pow_add, show n.log2 + 1 + (23 - n.log2) = 24 by omega]
  have := Nat.mul_lt_mul_of_pos_right b (Nat.two_pow_pos (23 - n.log2))
  omega
/-- the share is 0 or a float from above 0 to 1 -/
theorem share {w b : Nat} (hw : w ≤ b) (hb1 : 1 ≤ b) (hb : b ≤ 9999) : FP.fdiv (FP.i2f (nI w)) (FP.i2f (nI b)) = 0 ∨ ∃ E t, 1 ≤ E ∧ E ≤ 127 ∧ t < 8388608 ∧ FP.fdiv (FP.i2f (nI w)) (FP.i2f (nI b)) = fb E t := by
  obtain ⟨lb, b1, b2, b3, b4, b5⟩ := i2f_ex hb1 hb
  rcases Nat.eq_zero_or_pos w with rfl | hw0
  · left
    rw [fl_0, b4]
    exact fd_0 (by omega) (by omega) b5
  · right
    obtain ⟨lw, a1, a2, a3, a4, a5⟩ := i2f_ex hw0 (by omega)
    have hl : lw ≤ lb := by
      rcases Nat.lt_or_ge lb lw with h | h
      · have := Nat.pow_le_pow_right (n := 2) (by omega) (show lb + 1 ≤ lw from h)
        omega
      · exact h
    rw [a4, b4]
    refine div_fb (by omega) (by omega) (by omega) a5 b5 (fun q => ?_)
    have e : lw = lb := by omega
    rw [e]
    have := Nat.mul_le_mul_right (2 ^ (23 - lb)) hw
    omega
theorem s_bits {Q : Int32 → Prop} {E t : Nat} (h1 : 1 ≤ E) (hE : E ≤ 127) (ht : t < 8388608) (hq : Q (nI (E * 8388608 + t))) : vc_X7_bitsOfShare Q (fb E t) := by
  have st : ∀ k, k + E ≤ 127 → vl_X7_bitsOfShare Q (k + 1) 0 (nI (E + k)) (fb (127 - k) t) := by
    intro k
    induction k with
    | zero =>
      intro hk
      show vb_X7_bitsOfShare_13 Q (vl_X7_bitsOfShare Q 0) (nI E) (fb 127 t)
      have m : FP.fmul (fb 127 t) 1258291200 = fb 150 t := by
        rw [show (1258291200 : UInt32) = fb (127 + 23) 0 from by decide]
        exact mul_fb (by omega) (by omega) (by omega) ht
      have nn' : (0 : Int32) ≤ Op.cmpValue (FP.fcmp (fb 127 t) 1065353216) .g := by
        rcases (cmp_1 (E := 127) (by omega) (by omega) ht).2 rfl with q | q <;> rw [q] <;> decide
      refine br_t nn' ⟨by rw [m]; exact n32_fb (by omega) ht, nm_e ?_⟩
      rw [m, f2i_fb ht, show (8388608 : Int32) = nI 8388608 from rfl, nI_sub (by omega), pk_mul, nI_add, show E * 8388608 + (8388608 + t - 8388608) = E * 8388608 + t by omega]
      exact hq
    | succ k ih =>
      intro hk
      show vb_X7_bitsOfShare_13 Q (vl_X7_bitsOfShare Q (k + 1)) (nI (E + (k + 1))) (fb (127 - (k + 1)) t)
      have m : FP.fmul (fb (127 - (k + 1)) t) 1073741824 = fb (127 - k) t := by
        rw [show (1073741824 : UInt32) = fb (127 + 1) 0 from by decide, mul_fb (by omega) (by omega) (by omega) ht, show 127 - (k + 1) + 1 = 127 - k by omega]
      have c := (cmp_1 (E := 127 - (k + 1)) (by omega) (by omega) ht).1 (by omega)
      refine br_f (by rw [c]; decide) (br_f (ltc (a := 1) (b := E + (k + 1)) (by omega)) ⟨by rw [m]; exact n32_fb (by omega) ht, nm_e (nm_e ?_)⟩)
      rw [m, show nI (E + (k + 1)) + (-1) = nI (E + k) from by rw [show E + (k + 1) = E + k + 1 by omega, ← nI_1]; grind]
      exact ih (by omega)
  refine ⟨127 - E + 1, fun _ => ?_, fun q => absurd (by rw [cmp_0 h1 hE ht]; decide) q⟩
  have := st (127 - E) (by omega)
  rw [show E + (127 - E) = 127 by omega, show 127 - (127 - E) = E by omega] at this
  exact this
theorem r_bits {Q : Int32 → Prop} {E t : Nat} (h1 : 1 ≤ E) (hE : E ≤ 127) (ht : t < 8388608) (hq : Q (nI (E * 8388608 + t))) : vc_Jxf58ca_floatToIntBits_5c35a Q (fb E t) := by
  refine ⟨fun _ => ⟨fun q => absurd rfl q, fun _ => hq⟩, fun q => absurd (by rw [cmp_self h1 (by omega) ht]; rfl) q⟩
theorem q_busy {K : Prop} {P : Nat} {ξ γ τ η ο ρ : Mem} {σ : Nat → Mem} {x y : Int32} (h : RR P γ ρ) (hp : PT γ) (hw : WS γ) (hk : K) :
    vc_X7_busy (fun r => vc_X8_busy (fun r' => (r = r' → K) ∧ (¬ r = r' → False)) ρ x y) ξ γ τ η σ ο x y := by
  have hP := h.1
  obtain ⟨b, hb, eb, hw⟩ := hw
  refine s_hasW hp ?_
  by_cases c : isW γ x y
  · rw [if_pos c]
    obtain ⟨p, k, hp', hk', ex, ey, e3, eg⟩ := gl_spec hP h.2.1 c
    refine ⟨fun _ => nm_e ?_, fun q => absurd q (by decide)⟩
    rw [eb]
    obtain ⟨a, ha, ea⟩ := hw (3 * p + k) (by omega)
    have r10 : ρ 1 (28 + 7 * (3 * p + k) + 4) = nI a := (h.r 10 (3 * p + k) (by simp [liv]; omega) rfl).trans ea
    have r3 : ρ 1 (3 : Int32).toNatClampNeg = nI b := (h.r 0 0 (j := 3) (by simp [liv]) rfl).trans eb
    by_cases b0 : b = 0
    · subst b0
      have a0 : a = 0 := by omega
      subst a0
      refine br_f (by decide) (r_isW h ?_)
      rw [if_pos c]
      refine ⟨fun _ => nm_e ?_, fun q => absurd q (by decide)⟩
      rw [r3, e3]
      refine r_of 4 (by omega) (by omega) ?_
      rw [r10]
      refine ⟨fun q => absurd rfl q, fun _ => ⟨?_, nm_e ⟨fun q => absurd rfl q, fun _ => sme rfl hk⟩⟩⟩
      have : FP.fdiv (FP.i2f (nI 0 - nI 0)) (FP.i2f 1) = 0 := by decide
      rw [this]
      show (0 : UInt32) &&& 0x7fffffff ≤ 0x7f800000
      decide
    · have rf : ∀ v : Int32, (∀ Q : Int32 → Prop, Q v → vc_Jxf58ca_floatToIntBits_5c35a Q (FP.fdiv (FP.i2f (nI (b - a))) (FP.i2f (nI b)))) → vf_n32 (FP.fdiv (FP.i2f (nI (b - a))) (FP.i2f (nI b))) → vc_X8_busy (fun r' => (v = r' → K) ∧ (¬ v = r' → False)) ρ x y := by
        intro v h1 h2
        refine r_isW h ?_
        rw [if_pos c]
        refine ⟨fun _ => nm_e ?_, fun q => absurd q (by decide)⟩
        rw [r3, e3]
        refine r_of 4 (by omega) (by omega) ?_
        rw [r10, nI_sub ha]
        have nb := ai0 (by omega) b0
        exact ⟨fun _ => ⟨h2, nm_e ⟨fun _ => h1 _ (sme rfl hk), fun q => absurd q nb⟩⟩, fun q => absurd q nb⟩
      refine br_t (nI_lt (a := 0) (by omega) (by omega)) (s_gl ?_)
      rw [e3, nI_clamp (by omega), ea, nI_sub ha]
      refine ⟨vp_in_nI (by omega) (by omega), nm_e ?_⟩
      rcases share (w := b - a) (b := b) (by omega) (by omega) hb with e | ⟨E, t, E1, E2, ht, e⟩
      · rw [e] at rf ⊢
        have n0 : vf_n32 0 := by
          show (0 : UInt32) &&& 0x7fffffff ≤ 0x7f800000
          decide
        refine ⟨n0, ⟨0, fun q => absurd q (by decide), fun _ => rf _ (fun Q hQ => ⟨fun _ => ⟨fun q => absurd rfl q, fun _ => hQ⟩, fun q => absurd (by decide) q⟩) n0⟩⟩
      · rw [e] at rf ⊢
        exact ⟨n32_fb (by omega) ht, s_bits E1 E2 ht (rf _ (fun Q hQ => r_bits E1 E2 ht hQ) (n32_fb (by omega) ht))⟩
  · rw [if_neg c]
    refine ⟨fun q => absurd rfl q, fun _ => r_isW h ?_⟩
    rw [if_neg c]
    exact ⟨fun q => absurd rfl q, fun _ => sme rfl hk⟩
