/-! works counted against glasses that are out -/
def zz (g : Mem) (i : Nat) : Int32 := if g 7 i = 0 then 1 else 0
/-- how often glass i stands among the first m of the queue -/
def qc (g : Mem) (i : Nat) : Nat → Int32
  | 0 => 0
  | m + 1 => qc g i m + if g 21 m = nI i then 1 else 0
theorem qc_congr {g g' : Mem} (i : Nat) : ∀ m, (∀ j, j < m → g' 21 j = g 21 j) → qc g' i m = qc g i m
  | 0, _ => rfl
  | m + 1, h => by
    show qc g' i m + _ = qc g i m + _
    rw [qc_congr i m (fun j hj => h j (by omega)), h m (by omega)]
def Vr (i k : Nat) (g : Mem) (v : Int32) : Prop := ∃ m, m ≤ 12 ∧ g 0 6 = nI m ∧ k ≤ m ∧ g 9 i - zz g i + (qc g i m - qc g i k) = v
theorem Vr.of {i k : Nat} {g g' : Mem} {v : Int32} (h : Vr i k g v) (e7 : g' 7 = g 7) (e9 : g' 9 i = g 9 i) (e21 : g' 21 = g 21) (e0 : g' 0 6 = g 0 6) : Vr i k g' v := by
  obtain ⟨m, a, b, c, d⟩ := h
  refine ⟨m, a, e0.trans b, c, ?_⟩
  rw [qc_congr (g' := g') (g := g) i m (fun j _ => by rw [e21]), qc_congr (g' := g') (g := g) i k (fun j _ => by rw [e21]), e9]
  unfold zz at d ⊢
  rw [e7]; exact d
theorem v_due {P w i k : Nat} {g g' : Mem} {v x : Int32} (hP : P ≤ 4) (hw : w < 12) (hi : i < 12) (hd : DQ P g) (ht : TI P g) (h7 : g 7 w ≠ 0) (e7 : g' 7 = upd (g 7) w x) (e6 : g' 6 = g 6) (e12 : g' 12 = g 12) (e21 : g' 21 = g 21) (e0 : g' 0 6 = g 0 6) (e9 : g' 9 i = g 9 i) (hv : Vr i k g v) : Vr i k (due1 g' w) v := by
  obtain ⟨_, _, n, hn, en⟩ := dq_step hP hw hd ht h7 e7 e6 e12 e21 e0
  obtain ⟨m, a, b, c, d⟩ := hv
  have emn : m = n := by
    have e := e0.symm.trans en
    rw [b] at e
    have := nI_clamp (n := m) (by omega)
    rw [e, nI_clamp (by omega)] at this
    exact this.symm
  subst emn
  have q7w : g' 7 w = x := by rw [e7, pk_us]
  by_cases cx : x = 0
  · have ed : due1 g' w = up (up g' 21 m (nI w)) 0 6 (nI (m + 1)) := by
      unfold due1
      rw [q7w, if_pos cx, en, if_neg (fun q => by rw [nlit 12, nI_leI (by omega) (by omega)] at q; omega), nI_clamp (by omega), nI_1]
    rw [ed]
    have f21 : ∀ j, j < m → up (up g' 21 m (nI w)) 0 6 (nI (m + 1)) 21 j = g 21 j := by
      intro j hj
      rw [up_n _ _ _ (by omega), up_at, if_neg (by omega), e21]
    refine ⟨m + 1, by omega, by rw [up_at, if_pos ⟨rfl, rfl⟩], by omega, ?_⟩
    have s1 : qc (up (up g' 21 m (nI w)) 0 6 (nI (m + 1))) i (m + 1) = qc g i m + if nI w = nI i then 1 else 0 := by
      have q : up (up g' 21 m (nI w)) 0 6 (nI (m + 1)) 21 m = nI w := by
        rw [up_n _ _ _ (show 21 ≠ 0 by omega), up_at, if_pos ⟨rfl, rfl⟩]
      show qc _ i m + (if up (up g' 21 m (nI w)) 0 6 (nI (m + 1)) 21 m = nI i then 1 else 0) = _
      rw [qc_congr i m f21, q]
    rw [s1, qc_congr i k (fun j hj => f21 j (by omega))]
    have e9' : up (up g' 21 m (nI w)) 0 6 (nI (m + 1)) 9 i = g 9 i := by
      rw [up_n _ _ _ (by omega), up_n _ _ _ (by omega), e9]
    rw [e9']
    by_cases ei : w = i
    · subst ei
      have z1 : zz (up (up g' 21 m (nI w)) 0 6 (nI (m + 1))) w = 1 := by
        unfold zz
        rw [up_n _ _ _ (by omega), up_n _ _ _ (by omega), q7w, if_pos cx]
      have z0 : zz g w = 0 := by unfold zz; rw [if_neg h7]
      rw [z1, if_pos rfl]
      rw [z0] at d
      rw [← d]; grind
    · have z1 : zz (up (up g' 21 m (nI w)) 0 6 (nI (m + 1))) i = zz g i := by
        unfold zz
        rw [up_n _ _ _ (by omega), up_n _ _ _ (by omega), e7, pk_un (Ne.symm ei)]
      have n1 : ¬ nI w = nI i := by
        intro q
        have := nI_clamp (n := w) (by omega)
        rw [q, nI_clamp (by omega)] at this
        exact ei this.symm
      rw [z1, if_neg n1, ← d]; grind
  · have ed : due1 g' w = g' := due1_ne (by rw [q7w]; exact cx)
    rw [ed]
    refine ⟨m, a, e0.trans b, c, ?_⟩
    rw [qc_congr (g' := g') (g := g) i m (fun j _ => by rw [e21]), qc_congr (g' := g') (g := g) i k (fun j _ => by rw [e21]), e9]
    have z1 : zz g' i = zz g i := by
      unfold zz
      by_cases ei : w = i
      · subst ei
        rw [q7w, if_neg cx, if_neg h7]
      · rw [e7, pk_un (Ne.symm ei)]
    rw [z1]; exact d
theorem v_fst1 {P w i k : Nat} {g : Mem} {v : Int32} (hP : P ≤ 4) (hw : w < 12) (hi : i < 12) (hd : DQ P g) (ht : TI P g) (hv : Vr i k g v) : Vr i k (fst1 g w) v := by
  unfold fst1
  split
  · exact hv
  · next c =>
    have h7 : g 7 w ≠ 0 := fun q => c (by rw [q]; exact Int32.le_refl _)
    exact v_due hP hw hi hd ht h7 (fl1_7 g w) (fl1_n _ _ (by omega) (by omega)) (fl1_n _ _ (by omega) (by omega)) (fl1_n _ _ (by omega) (by omega)) (by rw [fl1_n _ _ (by omega) (by omega)]) (by rw [fl1_n _ _ (by omega) (by omega)]) hv
theorem v_fsts {P i k : Nat} {g : Mem} {v : Int32} (hP : P ≤ 4) (hi : i < 12) (hd : DQ P g) (ht : TI P g) (hv : Vr i k g v) : ∀ n, n ≤ 12 → Vr i k (fsts g n) v
  | 0, _ => hv
  | n + 1, hn => by
    have := dq_fsts hP hd ht n (by omega)
    exact v_fst1 hP (by omega) hi this.1 this.2 (v_fsts hP hi hd ht hv n (by omega))
theorem v_eff {P i k p : Nat} {g : Mem} {v e : Int32} (hP : P ≤ 4) (hi : i < 12) (hd : DQ P g) (ht : TI P g) (hv : Vr i k g v) : Vr i k (eff g e p) v := by
  unfold eff
  split
  · exact v_fsts hP hi hd ht hv 12 (by omega)
  · split
    · exact hv.of (ptp_n _ _ (by omega)) (by rw [ptp_n _ _ (by omega)]) (ptp_n _ _ (by omega)) (by rw [ptp_n _ _ (by omega)])
    · exact hv
theorem v_dn1 {P w i k m : Nat} {g : Mem} {v : Int32} (hP : P ≤ 4) (hw : w < 12) (hi : i < 12) (hd : DQ P g) (ht : TI P g) (hr : rng (g 6 w) (g 12 0)) (em : g 0 6 = nI m) (hm : m ≤ 12) (hk : k < m) (e21 : g 21 k = nI w) (hv : Vr i k g v) : Vr i (k + 1) (dn1 g w) v := by
  unfold dn1
  rw [if_pos hr]
  obtain ⟨d1, t1⟩ := dq_gw hd ht w (g 6 w).toNatClampNeg (w / 3) (g 15 (g 6 w).toNatClampNeg)
  refine v_eff hP hi d1 t1 ?_
  obtain ⟨m', a, b, c, d⟩ := hv
  have emn : m' = m := by
    have e := b.symm.trans em
    have := nI_clamp (n := m') (by omega)
    rw [e, nI_clamp (by omega)] at this
    exact this.symm
  subst emn
  generalize ht' : (g 6 w).toNatClampNeg = t
  have c21 : gain (wrk g w t) (w / 3) (g 15 t) 21 = g 21 := by rw [gain_n _ _ _ (by omega) (by omega)]; rfl
  have c7 : gain (wrk g w t) (w / 3) (g 15 t) 7 = g 7 := by rw [gain_n _ _ _ (by omega) (by omega)]; rfl
  have c9 : gain (wrk g w t) (w / 3) (g 15 t) 9 i = if i = w then g 9 w + 1 else g 9 i := by
    rw [gain_n _ _ _ (by omega) (by omega)]
    unfold wrk
    rw [up_n _ _ _ (by omega), up_at]
    by_cases q : i = w
    · rw [if_pos ⟨rfl, q⟩, if_pos q]
    · rw [if_neg (fun z => q z.2), if_neg q]
  refine ⟨m', a, by rw [gain_n _ _ _ (by omega) (by omega)]; exact b, by omega, ?_⟩
  rw [qc_congr (g := g) i m' (fun j _ => by rw [c21]), qc_congr (g := g) i (k + 1) (fun j _ => by rw [c21]), c9]
  have z1 : zz (gain (wrk g w t) (w / 3) (g 15 t)) i = zz g i := by unfold zz; rw [c7]
  have s1 : qc g i (k + 1) = qc g i k + if g 21 k = nI i then 1 else 0 := rfl
  rw [z1, s1, e21]
  by_cases ei : i = w
  · subst ei
    rw [if_pos rfl, if_pos rfl, ← d]; grind
  · have n1 : ¬ nI w = nI i := by
      intro q
      have := nI_clamp (n := w) (by omega)
      rw [q, nI_clamp (by omega)] at this
      exact ei this
    rw [if_neg ei, if_neg n1, ← d]; grind
theorem v_finD {P i : Nat} (hP : P ≤ 4) (hi : i < 12) : ∀ n g k (v : Int32), k + n = 12 → DQ P g → TI P g → Vr i k g v → (finD n g k).2 9 i - zz (finD n g k).2 i = v
  | 0, g, k, v, hk, hd, ht, hv => by
    obtain ⟨m, a, b, c, d⟩ := hv
    have : m = k := by omega
    subst this
    show up g 0 6 0 9 i - zz (up g 0 6 0) i = v
    have z1 : zz (up g 0 6 0) i = zz g i := by unfold zz; rw [up_n _ _ _ (by omega)]
    rw [z1, up_n _ _ _ (by omega), ← d]; grind
  | n + 1, g, k, v, hk, hd, ht, hv => by
    have hv' := hv
    obtain ⟨m, a, b, c, d⟩ := hv'
    unfold finD
    by_cases q : g 0 6 ≤ nI k
    · rw [if_pos q]
      rw [b, nI_leI (by omega) (by omega)] at q
      have : m = k := by omega
      subst this
      show up g 0 6 0 9 i - zz (up g 0 6 0) i = v
      have z1 : zz (up g 0 6 0) i = zz g i := by unfold zz; rw [up_n _ _ _ (by omega)]
      rw [z1, up_n _ _ _ (by omega), ← d]; grind
    · rw [if_neg q]
      rw [b, nI_leI (by omega) (by omega)] at q
      have hd' := hd
      obtain ⟨m', b', hac, hq⟩ := hd'
      have emn : m' = m := by
        have e := b'.symm.trans b
        have := nI_clamp (n := m') (by omega)
        rw [e, nI_clamp (by omega)] at this
        exact this.symm
      subst emn
      obtain ⟨w, hw, e21, e7, hr⟩ := hq k (by omega)
      rw [e21, nI_clamp (by omega)]
      obtain ⟨d1, t1⟩ := dq_dn1 hP hd ht w
      exact v_finD hP hi n _ (k + 1) v (by omega) d1 t1 (v_dn1 hP (by omega) hi hd ht hr b a (by omega) e21 hv)
theorem v_tks {P i : Nat} {g : Mem} {k v : Int32} (hP : P ≤ 4) (hi : i < 12) (hd : DQ P g) (ht : TI P g) (hv : Vr i 0 g v) : ∀ n, n ≤ 12 → Vr i 0 (tks g k n) v
  | 0, _ => hv
  | n + 1, hn => by
    obtain ⟨d1, t1⟩ := dq_tks (k := k) hP hd ht n (by omega)
    have ih := v_tks (k := k) hP hi hd ht hv n (by omega)
    show Vr i 0 (tk1 (tks g k n) k n) v
    unfold tk1
    split
    · exact ih.of (up_n _ _ _ (by omega)) (by rw [up_n _ _ _ (by omega)]) (up_n _ _ _ (by omega)) (by rw [up_n _ _ _ (by omega)])
    · next c =>
      exact v_due hP (by omega) hi d1 t1 c (up_s _ _ _ _) (up_n _ _ _ (by omega)) (up_n _ _ _ (by omega)) (up_n _ _ _ (by omega)) (by rw [up_n _ _ _ (by omega)]) (by rw [up_n _ _ _ (by omega)]) ih
theorem v_stp {P i : Nat} {g : Mem} {k : Int32} (hP : P ≤ 4) (hi : i < 12) (h0 : g 0 6 = 0) (ht : TI P g) : (stp g P k).2 9 i - zz (stp g P k).2 i = g 9 i - zz g i := by
  have hd := dq_0 (P := P) h0
  obtain ⟨d1, t1⟩ := dq_tks (k := k) hP hd ht (3 * P) (by omega)
  have v1 := v_tks (k := k) hP hi hd ht (v := g 9 i - zz g i) ⟨0, by omega, h0, Nat.le_refl _, by show _ + ((0 : Int32) - 0) = _; grind⟩ (3 * P) (by omega)
  refine v_finD hP hi 12 (sec (tks g k (3 * P)) k) 0 _ (by omega) (d1.of (sec_n _ _ (by omega)) (sec_n _ _ (by omega)) (sec_n _ _ (by omega)) (sec_n _ _ (by omega)) ?_) (t1.of (sec_n _ _ (by omega)) (sec_n _ _ (by omega)) (sec_n _ _ (by omega))) (v1.of (sec_n _ _ (by omega)) (by rw [sec_n _ _ (by omega)]) (sec_n _ _ (by omega)) ?_)
  · unfold sec; rw [up_at, if_neg (by omega)]
  · unfold sec; rw [up_at, if_neg (by omega)]
theorem outs_zz (g : Mem) (p : Nat) : outs g p 3 = zz g (3 * p) + zz g (3 * p + 1) + zz g (3 * p + 2) := by
  unfold outs outs outs outs zz
  rw [Nat.add_zero]
  by_cases a : g 7 (3 * p) = 0 <;> by_cases b : g 7 (3 * p + 1) = 0 <;> by_cases c : g 7 (3 * p + 2) = 0 <;> simp [a, b, c] <;> rfl
/-- the works of a player grow as its glasses run out -/
theorem wo_advs {P p : Nat} (hp : p < P) : ∀ n g, GO P g → sum3 (advs P n g).2 9 p - outs (advs P n g).2 p 3 = sum3 g 9 p - outs g p 3
  | 0, _, _ => rfl
  | n + 1, g, h => by
    show sum3 (advs P n (stp g P 1).2).2 9 p - outs (advs P n (stp g P 1).2).2 p 3 = _
    rw [wo_advs hp n _ h.stp]
    have hP := h.1.hP
    have a := v_stp (P := P) (i := 3 * p) (k := 1) hP (by omega) h.1.d0 h.2.1
    have b := v_stp (P := P) (i := 3 * p + 1) (k := 1) hP (by omega) h.1.d0 h.2.1
    have c := v_stp (P := P) (i := 3 * p + 2) (k := 1) hP (by omega) h.1.d0 h.2.1
    rw [outs_zz, outs_zz]
    unfold sum3
    grind
