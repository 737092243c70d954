/-! the share of a worker's seconds: floats from 0 to 1 -/
def fb (E t : Nat) : UInt32 := UInt32.ofNat (E * 8388608 + t)
theorem fb_nat {E t : Nat} (hE : E ≤ 254) (ht : t < 8388608) : (fb E t).toNat = E * 8388608 + t := by
  unfold fb
  exact UInt32.toNat_ofNat_of_lt' (by show _ < 4294967296; omega)
theorem b32_t : FP.Core.b32.tails = 8388608 := by decide
theorem b32_e : FP.Core.b32.exps = 256 := by decide
theorem b32_n : FP.Core.b32.qmin = -149 := by decide
theorem b32_x : FP.Core.b32.qmax = 104 := by decide
theorem dec_fb {E t : Nat} (h1 : 1 ≤ E) (hE : E ≤ 254) (ht : t < 8388608) : FP.Core.decode FP.Core.b32 (fb E t).toNat = .fin false (8388608 + t) ((E : Int) - 150) := by
  rw [fb_nat hE ht]
  unfold FP.Core.decode FP.Core.fieldE FP.Core.fieldT FP.Core.fieldS
  rw [b32_t, b32_e, b32_n]
  have e1 : (E * 8388608 + t) / 8388608 % 256 = E := by omega
  have e2 : (E * 8388608 + t) % 8388608 = t := by omega
  have e3 : (E * 8388608 + t) / 8388608 / 256 % 2 = 0 := by omega
  rw [e1, e2, e3, if_neg (by omega), if_neg (by omega)]
  show FP.Core.Datum.fin ((0 : Nat) == 1) _ _ = _
  congr 1
  omega
theorem enc_fb {c : Nat} {q : Int} (h1 : 8388608 ≤ c) (hq : -149 ≤ q) : FP.Core.encode FP.Core.b32 (.fin false c q) = (q + 150).toNat * 8388608 + (c - 8388608) := by
  unfold FP.Core.encode FP.Core.assemble
  rw [b32_t, b32_e, b32_n]
  show (if c < 8388608 then (0 * 256 + 0) * 8388608 + c else (0 * 256 + ((q - -149).toNat + 1)) * 8388608 + (c - 8388608)) = _
  rw [if_neg (by omega)]
  rw [show (0 * 256 + ((q - -149).toNat + 1)) = (q + 150).toNat by omega]
theorem log_eq {n k : Nat} (h1 : 2 ^ k ≤ n) (h2 : n < 2 ^ (k + 1)) : n.log2 = k := by
  have hn : n ≠ 0 := by
    have := Nat.two_pow_pos k
    omega
  exact (Nat.log2_eq_iff hn).mpr ⟨h1, h2⟩
theorem lead_1 {n k : Nat} (h1 : 2 ^ k ≤ n) (h2 : n < 2 ^ (k + 1)) : FP.Core.leading n 1 = (k : Int) := by
  unfold FP.Core.leading
  rw [log_eq h1 h2, show Nat.log2 1 = 0 from by decide]
  simp only [Int.natCast_zero, Int.sub_zero, Int.toNat_natCast, Nat.one_mul]
  rw [if_pos]
  have : (-(k : Int)).toNat = 0 := by omega
  rw [this, Nat.pow_zero, Nat.mul_one]
  exact h1
theorem near_exact (m d : Nat) (hd : 0 < d) : FP.Core.nearest (m * d) d = m := by
  unfold FP.Core.nearest
  rw [Nat.mul_mod_left, if_pos (by omega), Nat.mul_div_cancel _ hd]
theorem settle_fb {c : Nat} {q : Int} (h2 : c < 16777216) (hx : q ≤ 104) : FP.Core.settle FP.Core.b32 false c q = .fin false c q := by
  unfold FP.Core.settle FP.Core.bound
  rw [show (2 : Nat) ^ FP.Core.b32.p = 16777216 from by decide, b32_x, if_pos h2, if_pos hx]
theorem mul_fb {E t k : Nat} (h1 : 1 ≤ E) (hE : E + k ≤ 254) (hk : k ≤ 100) (ht : t < 8388608) : FP.fmul (fb E t) (fb (127 + k) 0) = fb (E + k) t := by
  show UInt32.ofNat (FP.Core.mul FP.Core.b32 (fb E t).toNat (fb (127 + k) 0).toNat) = _
  unfold FP.Core.mul
  rw [dec_fb h1 (by omega) ht, dec_fb (by omega) (by omega) (by omega)]
  show UInt32.ofNat (FP.Core.encode FP.Core.b32 (FP.Core.roundRatio FP.Core.b32 false ((8388608 + t) * (8388608 + 0)) 1 (((E : Int) - 150) + (((127 + k : Nat) : Int) - 150)))) = _
  generalize hc : 8388608 + t = c
  generalize he : (((E : Int) - 150) + (((127 + k : Nat) : Int) - 150)) = e
  have c1 : 8388608 ≤ c := by omega
  have c2 : c < 16777216 := by omega
  unfold FP.Core.roundRatio
  rw [if_neg (by omega)]
  have hl : FP.Core.leading (c * (8388608 + 0)) 1 = ((46 : Nat) : Int) := lead_1 (by omega) (by omega)
  unfold FP.Core.quantum
  rw [hl, b32_n, show FP.Core.b32.p = 24 from rfl]
  have hq : max (-149) (((46 : Nat) : Int) + e - (((24 : Nat) : Int) - 1)) = e + 23 := by omega
  rw [hq]
  unfold FP.Core.roundAt FP.Core.unitsNum FP.Core.unitsDen
  rw [show (e - (e + 23)).toNat = 0 by omega, show (e + 23 - e).toNat = 23 by omega]
  rw [show c * (8388608 + 0) * 2 ^ 0 = c * (1 * 2 ^ 23) by omega, near_exact _ _ (by decide), settle_fb c2 (by omega), enc_fb c1 (by omega)]
  refine congrArg UInt32.ofNat ?_
  rw [show (e + 23 + 150).toNat = E + k by omega]
  omega
theorem i2f_fb {n l : Nat} (h1 : 2 ^ l ≤ n) (h2 : n < 2 ^ (l + 1)) (hl : l ≤ 14) : FP.i2f (nI n) = fb (l + 127) (n * 2 ^ (23 - l) - 8388608) := by
  have hp := Nat.two_pow_pos l
  have hn : n < 2 ^ 15 := Nat.lt_of_lt_of_le h2 (Nat.pow_le_pow_right (by omega) (by omega))
  show UInt32.ofNat (FP.Core.fromInt FP.Core.b32 (nI n).toInt) = _
  have et : (nI n).toInt = (n : Int) := by
    have := nI_clamp (n := n) (by omega)
    have h0 := nI_pos' (n := n) (by omega)
    rw [Int32.le_iff_toInt_le, show (0 : Int32).toInt = 0 from rfl] at h0
    have : (nI n).toInt.toNat = n := this
    omega
  unfold FP.Core.fromInt FP.Core.ofInt FP.Core.round
  rw [et]
  show UInt32.ofNat (FP.Core.encode FP.Core.b32 (FP.Core.roundRatio FP.Core.b32 (decide ((n : Int) < 0)) (n : Int).natAbs 1 0)) = _
  rw [show decide ((n : Int) < 0) = false by simp, Int.natAbs_natCast]
  unfold FP.Core.roundRatio
  rw [if_neg (by omega)]
  unfold FP.Core.quantum
  rw [lead_1 h1 h2, b32_n, show FP.Core.b32.p = 24 from rfl]
  have hq : max (-149) (((l : Nat) : Int) + 0 - (((24 : Nat) : Int) - 1)) = (l : Int) - 23 := by omega
  rw [hq]
  unfold FP.Core.roundAt FP.Core.unitsNum FP.Core.unitsDen
  rw [show (0 - ((l : Int) - 23)).toNat = 23 - l by omega, show ((l : Int) - 23 - 0).toNat = 0 by omega]
  have b1 : 8388608 ≤ n * 2 ^ (23 - l) := by
    have e : 2 ^ l * 2 ^ (23 - l) = 8388608 := by rw [← Nat.pow_add, show l + (23 - l) = 23 by omega]
    rw [← e]
    exact Nat.mul_le_mul_right _ h1
  have b2 : n * 2 ^ (23 - l) < 16777216 := by
    have e : 2 ^ (l + 1) * 2 ^ (23 - l) = 16777216 := by rw [← Nat.pow_add, show l + 1 + (23 - l) = 24 by omega]
    rw [← e]
    exact Nat.mul_lt_mul_of_pos_right h2 (Nat.two_pow_pos _)
  generalize n * 2 ^ (23 - l) = c at b1 b2
  rw [show c = c * (1 * 2 ^ 0) by omega, near_exact _ _ (by decide), settle_fb b2 (by omega), enc_fb b1 (by omega)]
  refine congrArg UInt32.ofNat ?_
  rw [show ((l : Int) - 23 + 150).toNat = l + 127 by omega]
  omega
theorem near_bd {a d : Nat} (hd : 0 < d) (h1 : 8388608 * d ≤ a) (h2 : a ≤ 16777216 * d) : 8388608 ≤ FP.Core.nearest a d ∧ FP.Core.nearest a d ≤ 16777216 := by
  have q1 : 8388608 ≤ a / d := (Nat.le_div_iff_mul_le hd).mpr h1
  have hm := Nat.div_add_mod a d
  have hr := Nat.mod_lt a hd
  have q2 : a / d ≤ 16777216 := Nat.div_le_of_le_mul (by rw [Nat.mul_comm]; exact h2)
  unfold FP.Core.nearest
  by_cases e : a / d = 16777216
  · rw [e] at hm ⊢
    have : a % d = 0 := by
      have : d * 16777216 = 16777216 * d := Nat.mul_comm _ _
      omega
    rw [this, if_pos (by omega)]
    omega
  · split
    · omega
    · split
      · omega
      · omega
/-- a quotient of at most 1 -/
theorem div_fb {E1 E2 t1 t2 : Nat} (h1 : 114 ≤ E1) (h2 : E1 ≤ E2) (h3 : E2 ≤ 150) (ht1 : t1 < 8388608) (ht2 : t2 < 8388608) (he : E1 = E2 → t1 ≤ t2) : ∃ E t, 1 ≤ E ∧ E ≤ 127 ∧ t < 8388608 ∧ FP.fdiv (fb E1 t1) (fb E2 t2) = fb E t := by
  have fin : ∀ (m : Nat) (q : Int), 8388608 ≤ m → m ≤ 16777216 → -100 ≤ q → q + 150 ≤ 127 → (q + 150 = 127 → m < 16777216) → ∃ E t, 1 ≤ E ∧ E ≤ 127 ∧ t < 8388608 ∧ UInt32.ofNat (FP.Core.encode FP.Core.b32 (FP.Core.settle FP.Core.b32 false m q)) = fb E t := by
    intro m q m1 m2 q1 q2 q3
    by_cases c : m < 16777216
    · rw [settle_fb c (by omega), enc_fb m1 (by omega)]
      exact ⟨(q + 150).toNat, m - 8388608, by omega, by omega, by omega, rfl⟩
    · have em : m = 16777216 := by omega
      unfold FP.Core.settle FP.Core.bound
      rw [show (2 : Nat) ^ FP.Core.b32.p = 16777216 from by decide, if_neg c, b32_x, if_pos (by omega), b32_t, enc_fb (by omega) (by omega)]
      exact ⟨(q + 1 + 150).toNat, 0, by omega, by omega, by omega, rfl⟩
  show ∃ E t, 1 ≤ E ∧ E ≤ 127 ∧ t < 8388608 ∧ UInt32.ofNat (FP.Core.div FP.Core.b32 (fb E1 t1).toNat (fb E2 t2).toNat) = fb E t
  unfold FP.Core.div
  rw [dec_fb (by omega) (by omega) ht1, dec_fb (by omega) (by omega) ht2]
  unfold FP.Core.quotient
  show ∃ E t, 1 ≤ E ∧ E ≤ 127 ∧ t < 8388608 ∧ UInt32.ofNat (FP.Core.encode FP.Core.b32 (if 8388608 + t2 = 0 then _ else FP.Core.roundRatio FP.Core.b32 (false != false) (8388608 + t1) (8388608 + t2) (((E1 : Int) - 150) - ((E2 : Int) - 150)))) = fb E t
  rw [if_neg (by omega), show (false != false) = false from rfl]
  generalize hc : 8388608 + t1 = c
  generalize hd : 8388608 + t2 = d
  generalize hE : (((E1 : Int) - 150) - ((E2 : Int) - 150)) = e
  unfold FP.Core.roundRatio
  rw [if_neg (by omega)]
  have lc : c.log2 = 23 := log_eq (by omega) (by omega)
  have ld : d.log2 = 23 := log_eq (by omega) (by omega)
  unfold FP.Core.quantum
  rw [b32_n, show FP.Core.b32.p = 24 from rfl]
  by_cases l : d ≤ c
  · have hl : FP.Core.leading c d = 0 := by
      unfold FP.Core.leading
      rw [lc, ld]
      show (if d * 2 ^ 0 ≤ c * 2 ^ 0 then _ else _) = _
      rw [if_pos (by omega)]
      rfl
    rw [hl, show max (-149) (0 + e - (((24 : Nat) : Int) - 1)) = e - 23 by omega]
    unfold FP.Core.roundAt FP.Core.unitsNum FP.Core.unitsDen
    rw [show (e - (e - 23)).toNat = 23 by omega, show (e - 23 - e).toNat = 0 by omega, Nat.pow_zero, Nat.mul_one]
    have nb := near_bd (a := c * 2 ^ 23) (d := d) (by omega) (by omega) (by omega)
    refine fin _ _ nb.1 nb.2 (by omega) (by omega) (fun q => ?_)
    have : c = d := by
      have := he (by omega)
      omega
    rw [this, Nat.mul_comm, near_exact _ _ (by omega)]
    decide
  · have hl : FP.Core.leading c d = -1 := by
      unfold FP.Core.leading
      rw [lc, ld]
      show (if d * 2 ^ 0 ≤ c * 2 ^ 0 then _ else _) = _
      rw [if_neg (by omega)]
      rfl
    rw [hl, show max (-149) (-1 + e - (((24 : Nat) : Int) - 1)) = e - 24 by omega]
    unfold FP.Core.roundAt FP.Core.unitsNum FP.Core.unitsDen
    rw [show (e - (e - 24)).toNat = 24 by omega, show (e - 24 - e).toNat = 0 by omega, Nat.pow_zero, Nat.mul_one]
    have nb := near_bd (a := c * 2 ^ 24) (d := d) (by omega) (by omega) (by omega)
    exact fin _ _ nb.1 nb.2 (by omega) (by omega) (fun q => by omega)
theorem cmp_1 {E t : Nat} (h1 : 1 ≤ E) (hE : E ≤ 127) (ht : t < 8388608) : (E < 127 → FP.fcmp (fb E t) 1065353216 = some .lt) ∧ (E = 127 → FP.fcmp (fb E t) 1065353216 = some .eq ∨ FP.fcmp (fb E t) 1065353216 = some .gt) := by
  have e1 : (1065353216 : UInt32) = fb 127 0 := by decide
  have ex : FP.fcmp (fb E t) 1065353216 = some (compare (FP.Core.signed false (FP.Core.inUnits (8388608 + t) ((E : Int) - 150) (min ((E : Int) - 150) (((127 : Nat) : Int) - 150)))) (FP.Core.signed false (FP.Core.inUnits (8388608 + 0) (((127 : Nat) : Int) - 150) (min ((E : Int) - 150) (((127 : Nat) : Int) - 150))))) := by
    rw [e1]
    show FP.Core.order (FP.Core.decode FP.Core.b32 (fb E t).toNat) (FP.Core.decode FP.Core.b32 (fb 127 0).toNat) = _
    rw [dec_fb h1 (by omega) ht, dec_fb (by omega) (by omega) (by omega)]
    rfl
  rw [ex]
  have em : min ((E : Int) - 150) (((127 : Nat) : Int) - 150) = (E : Int) - 150 := by omega
  rw [em]
  unfold FP.Core.signed FP.Core.inUnits
  rw [show ((E : Int) - 150 - ((E : Int) - 150)).toNat = 0 by omega, show (((127 : Nat) : Int) - 150 - ((E : Int) - 150)).toNat = 127 - E by omega]
  simp only [Bool.false_eq_true, if_false, Nat.pow_zero, Nat.mul_one, Nat.add_zero]
  refine ⟨fun q => ?_, fun q => ?_⟩
  · have : 2 ^ 1 ≤ 2 ^ (127 - E) := Nat.pow_le_pow_right (by omega) (by omega)
    have l : ((8388608 + t : Nat) : Int) < ((8388608 * 2 ^ (127 - E) : Nat) : Int) := by
      have : 8388608 * 2 ≤ 8388608 * 2 ^ (127 - E) := Nat.mul_le_mul_left _ this
      omega
    rw [Int.compare_eq_lt.mpr l]
  · subst q
    simp only [Nat.sub_self, Nat.pow_zero, Nat.mul_one]
    by_cases z : t = 0
    · left
      rw [z]
      rfl
    · right
      have l : ((8388608 : Nat) : Int) < ((8388608 + t : Nat) : Int) := by omega
      rw [Int.compare_eq_gt.mpr l]
theorem cmp_0 {E t : Nat} (h1 : 1 ≤ E) (hE : E ≤ 127) (ht : t < 8388608) : FP.fcmp (fb E t) 0 = some .gt := by
  show FP.Core.order (FP.Core.decode FP.Core.b32 (fb E t).toNat) (FP.Core.decode FP.Core.b32 (0 : UInt32).toNat) = _
  rw [dec_fb h1 (by omega) ht, show FP.Core.decode FP.Core.b32 (0 : UInt32).toNat = .fin false 0 (-149) from by decide]
  show some (compare (FP.Core.signed false (FP.Core.inUnits (8388608 + t) _ _)) (FP.Core.signed false (FP.Core.inUnits 0 _ _))) = _
  unfold FP.Core.signed FP.Core.inUnits
  simp only [Bool.false_eq_true, if_false, Nat.zero_mul]
  have hp := Nat.two_pow_pos ((E : Int) - 150 - min ((E : Int) - 150) (-149)).toNat
  have l : ((0 : Nat) : Int) < (((8388608 + t) * 2 ^ ((E : Int) - 150 - min ((E : Int) - 150) (-149)).toNat : Nat) : Int) := by
    have := Nat.mul_pos (show 0 < 8388608 + t by omega) hp
    omega
  rw [Int.compare_eq_gt.mpr l]
theorem cmp_self {E t : Nat} (h1 : 1 ≤ E) (hE : E ≤ 254) (ht : t < 8388608) : FP.fcmp (fb E t) (fb E t) = some .eq := by
  show FP.Core.order (FP.Core.decode FP.Core.b32 (fb E t).toNat) (FP.Core.decode FP.Core.b32 (fb E t).toNat) = _
  rw [dec_fb h1 hE ht]
  show some (compare _ _) = _
  rw [Int.compare_eq_eq.mpr rfl]
theorem n32_fb {E t : Nat} (hE : E ≤ 254) (ht : t < 8388608) : vf_n32 (fb E t) := by
  show fb E t &&& 0x7fffffff ≤ 0x7f800000
  rw [UInt32.le_iff_toNat_le, UInt32.toNat_and, fb_nat hE ht]
  refine Nat.le_trans Nat.and_le_left ?_
  show _ ≤ 2139095040
  omega
theorem f2i_fb {t : Nat} (ht : t < 8388608) : FP.f2i (fb 150 t) = nI (8388608 + t) := by
  show FP.Core.toI (FP.Core.decode FP.Core.b32 (fb 150 t).toNat) = _
  rw [dec_fb (by omega) (by omega) ht]
  have : FP.Core.toInt (-2 ^ 31) (2 ^ 31 - 1) (.fin false (8388608 + t) (((150 : Nat) : Int) - 150)) = ((8388608 + t : Nat) : Int) := by
    show max (-2 ^ 31) (min (2 ^ 31 - 1) (FP.Core.truncate false (8388608 + t) (((150 : Nat) : Int) - 150))) = _
    unfold FP.Core.truncate FP.Core.signed
    simp only [Bool.false_eq_true, if_false]
    rw [show (((150 : Nat) : Int) - 150).toNat = 0 by omega, show (-(((150 : Nat) : Int) - 150)).toNat = 0 by omega, Nat.pow_zero, Nat.mul_one, Nat.div_one]
    omega
  unfold FP.Core.toI
  rw [this]
  rfl
theorem bits_fb {E t : Nat} : UInt32.toInt32 (fb E t) = nI (E * 8388608 + t) := rfl
