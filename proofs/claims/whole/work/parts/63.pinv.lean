/-! what a round of finishing leaves alone -/
def ab' (P c f : Nat) : Prop := ((c = 2 ∨ c = 7 ∨ c = 9 ∨ c = 10 ∨ c = 11) ∧ 3 * P ≤ f) ∨ (c = 3 ∧ P ≤ f)
theorem la_gain {P c f w : Nat} (g : Mem) (x : Int32) (hw : w < 3 * P) (h : ab' P c f) : gain g (w / 3) x c f = g c f := by
  unfold ab' at h
  simp only [gain, gain1, up_at]
  rw [if_neg (by omega), if_neg (by omega), if_neg (by omega), if_neg (by omega), if_neg (by omega), if_neg (by omega)]
theorem la_fst1 {P c f i : Nat} {g : Mem} (hi : i < 12) (ht : TI P g) (h : ab' P c f) : fst1 g i c f = g c f := by
  unfold fst1
  split
  · rfl
  · next q =>
    have hi3 := (ht i hi (fun z => q (by rw [z]; exact Int32.le_refl _))).1
    unfold ab' at h
    rw [due1_n _ _ (by omega) (by omega)]
    unfold fl1
    rw [up_at, if_neg (by omega), up_at, if_neg (by omega)]
theorem la_fsts {P c f : Nat} {g : Mem} (hP : P ≤ 4) (hd : DQ P g) (ht : TI P g) (h : ab' P c f) : ∀ n, n ≤ 12 → fsts g n c f = g c f
  | 0, _ => rfl
  | n + 1, hn => by
    have := dq_fsts hP hd ht n (by omega)
    exact (la_fst1 (by omega) this.2 h).trans (la_fsts hP hd ht h n (by omega))
theorem la_dn1 {P c f w : Nat} {g : Mem} (hP : P ≤ 4) (hd : DQ P g) (ht : TI P g) (hw : w < 3 * P) (h : ab' P c f) : dn1 g w c f = g c f := by
  unfold dn1
  split
  · obtain ⟨d1, t1⟩ := dq_gw hd ht w (g 6 w).toNatClampNeg (w / 3) (g 15 (g 6 w).toNatClampNeg)
    have e : gain (wrk g w (g 6 w).toNatClampNeg) (w / 3) (g 15 (g 6 w).toNatClampNeg) c f = g c f := by
      rw [la_gain _ _ hw h]
      unfold ab' at h
      unfold wrk
      rw [up_at, if_neg (by omega), up_at, if_neg (by omega)]
    unfold eff
    split
    · rw [la_fsts hP d1 t1 h 12 (by omega)]; exact e
    · split
      · unfold ab' at h
        unfold ptp
        rw [up_at, if_neg (by omega)]; exact e
      · exact e
  · rfl
theorem tw_dn1 {T t w : Nat} {g : Mem} (hT : T ≤ 8) (eT : g 12 0 = nI T) (ht : T ≤ t) : dn1 g w 17 t = g 17 t := by
  unfold dn1
  split
  · next hr =>
    rw [eff_n _ _ _ (by omega) (by omega) (by omega) (by omega) (by omega), gain_n _ _ _ (by omega) (by omega)]
    rw [eT] at hr
    obtain ⟨k, hk, ek⟩ := rng_nat (by omega) hr
    unfold wrk
    rw [ek, nI_clamp (by omega), up_at, if_neg (by omega), up_n _ _ _ (by omega)]
  · rfl
theorem PB.of {B : Nat} {g g' : Mem} (h : PB B g) (e : g' 3 = g 3) : PB B g' := fun p hp => by rw [e]; exact h p hp
theorem PB.mono {B B' : Nat} {g : Mem} (h : PB B g) (hb : B ≤ B') : PB B' g := fun p hp => by
  obtain ⟨a, ha, e⟩ := h p hp
  exact ⟨a, by omega, e⟩
theorem PB.add {B p a : Nat} {g : Mem} (h : PB B g) {v : Int32} (hv : v = g 3 p + nI a) : PB (B + a) (up g 3 p v) := by
  intro q hq
  obtain ⟨b, hb, e⟩ := h q hq
  rw [up_at]
  by_cases c : q = p
  · rw [if_pos ⟨rfl, c⟩, hv, ← c, e, nI_add]
    exact ⟨b + a, by omega, rfl⟩
  · rw [if_neg (fun z => c z.2)]
    exact ⟨b, by omega, e⟩
theorem pb_dn1 {B w : Nat} {g : Mem} (h : PB B g) : PB (B + 1) (dn1 g w) := by
  unfold dn1
  split
  · have h' : PB B (gain (wrk g w (g 6 w).toNatClampNeg) (w / 3) (g 15 (g 6 w).toNatClampNeg)) := h.of (by rw [gain_n _ _ _ (by omega) (by omega)]; rfl)
    unfold eff
    split
    · exact (h'.of (fsts_n _ (by omega) (by omega) (by omega) (by omega) _)).mono (by omega)
    · split
      · exact h'.add (a := 1) rfl
      · exact h'.mono (by omega)
  · exact h.mono (by omega)
theorem fin_pres {P T : Nat} (hP : P ≤ 4) (hT : T ≤ 8) : ∀ n g k, k + n = 12 → DQ P g → TI P g → g 12 0 = nI T → (∀ c f, ab' P c f → (finD n g k).2 c f = g c f) ∧ (∀ t, T ≤ t → (finD n g k).2 17 t = g 17 t) ∧ (∀ B, PB B g → PB (B + n) (finD n g k).2) ∧ ∃ j, j ≤ k + n ∧ (finD n g k).1 = nI j
  | 0, g, k, hk, hd, ht, eT => by
    refine ⟨fun c f h => ?_, fun t ht => ?_, fun B h => (show PB B (up g 0 6 0) from h.of (up_n _ _ _ (by omega))), k, by omega, rfl⟩
    · unfold ab' at h
      show up g 0 6 0 c f = _
      rw [up_at, if_neg (by omega)]
    · show up g 0 6 0 17 t = _
      rw [up_at, if_neg (by omega)]
  | n + 1, g, k, hk, hd, ht, eT => by
    unfold finD
    by_cases q : g 0 6 ≤ nI k
    · rw [if_pos q]
      refine ⟨fun c f h => ?_, fun t ht => ?_, fun B h => (h.of (up_n _ _ _ (by omega))).mono (by omega), k, by omega, rfl⟩
      · unfold ab' at h
        show up g 0 6 0 c f = _
        rw [up_at, if_neg (by omega)]
      · show up g 0 6 0 17 t = _
        rw [up_at, if_neg (by omega)]
    · rw [if_neg q]
      have hd' := hd
      obtain ⟨m, b, hac, hq⟩ := hd'
      rw [b, nI_leI (by omega) (by omega)] at q
      obtain ⟨w, hw, e21, e7, hr⟩ := hq k (by omega)
      rw [e21, nI_clamp (by omega)]
      obtain ⟨d1, t1⟩ := dq_dn1 hP hd ht w
      obtain ⟨i1, i2, i3, j, hj, ej⟩ := fin_pres hP hT n (dn1 g w) (k + 1) (by omega) d1 t1 (by rw [dn1_n _ _ (by omega)]; exact eT)
      refine ⟨fun c f h => (i1 c f h).trans (la_dn1 hP hd ht hw h), fun t h => (i2 t h).trans (tw_dn1 hT eT h), fun B h => ?_, j, by omega, ej⟩
      have := i3 _ (pb_dn1 (w := w) h)
      rw [show B + 1 + n = B + (n + 1) by omega] at this
      exact this
theorem la_tk1 {P c f i : Nat} {g : Mem} {k : Int32} (hi : i < 3 * P) (h : ab' P c f) : tk1 g k i c f = g c f := by
  unfold ab' at h
  unfold tk1
  split
  · rw [up_at, if_neg (by omega)]
  · rw [due1_n _ _ (by omega) (by omega), up_at, if_neg (by omega)]
theorem la_tks {P c f : Nat} {g : Mem} {k : Int32} (h : ab' P c f) : ∀ n, n ≤ 3 * P → tks g k n c f = g c f
  | 0, _ => rfl
  | n + 1, hn => (la_tk1 (by omega) h).trans (la_tks h n (by omega))
/-! the whole invariant of a game between calls -/
def HT (T : Nat) (g : Mem) : Prop := ∀ i, i < 12 → g 6 i = -1 ∨ ∃ t, t < T ∧ g 6 i = nI t
def CO (g : Mem) : Prop := ∀ t, t < 8 → 0 ≤ g 14 t ∧ g 14 t ≤ 999
def TW (T : Nat) (g : Mem) : Prop := ∀ t, T ≤ t → t < 8 → g 17 t = 0
def SZ (g : Mem) : Prop := ∀ i, i < 12 → g 5 i ≠ 0
def CP (g : Mem) : Prop := ∀ c, c < 6 → ∃ a, a ≤ 20 ∧ g 20 c = nI a
def WSb (b : Nat) (g : Mem) : Prop := g 0 0 = nI b ∧ ∀ i, i < 12 → ∃ a, a ≤ b ∧ g 10 i = nI a
def OKm (P T C B : Nat) (g : Mem) : Prop := GO P g ∧ (T ≤ 8 ∧ g 12 0 = nI T) ∧ (C ≤ 6 ∧ g 18 0 = nI C) ∧ AB P g ∧ HT T g ∧ LF g ∧ CO g ∧ TW T g ∧ SZ g ∧ PB B g ∧ CP g
theorem AB.of {P : Nat} {g g' : Mem} (h : AB P g) (e : ∀ c f, ab' P c f → g' c f = g c f) (e5 : ∀ f, 3 * P ≤ f → g' 5 f = g 5 f) (e6 : ∀ f, 3 * P ≤ f → g' 6 f = g 6 f) (e8 : ∀ f, 3 * P ≤ f → g' 8 f = g 8 f) : AB P g' := by
  refine ⟨fun p h1 h2 => (e 3 p (Or.inr ⟨rfl, h1⟩)).trans (h.1 p h1 h2), fun f h1 h2 => ?_⟩
  obtain ⟨a2, a5, a6, a7, a8, a9, a10, a11⟩ := h.2 f h1 h2
  exact ⟨(e 2 f (Or.inl ⟨by omega, h1⟩)).trans a2, (e5 f h1).trans a5, (e6 f h1).trans a6, (e 7 f (Or.inl ⟨by omega, h1⟩)).trans a7, (e8 f h1).trans a8, (e 9 f (Or.inl ⟨by omega, h1⟩)).trans a9, (e 10 f (Or.inl ⟨by omega, h1⟩)).trans a10, (e 11 f (Or.inl ⟨by omega, h1⟩)).trans a11⟩
/-- finishing what is due keeps the invariant -/
theorem OKm.fin {P T C B : Nat} {g μ : Mem} (h : OKm P T C B g) (hd : DQ P μ) (ht : TI P μ) (gs : GS μ) (e : ∀ c, c ≠ 0 → c ≠ 7 → c ≠ 10 → c ≠ 11 → c ≠ 21 → μ c = g c) (ea : ∀ c f, ab' P c f → μ c f = g c f) : OKm P T C (B + 12) (finD 12 μ 0).2 := by
  obtain ⟨⟨⟨hP, b1, b2, b3, b4⟩, c1, c2⟩, ⟨hT, eT⟩, ⟨hC, eC⟩, ab, ht', lf, co, tw, sz, pb, cp⟩ := h
  obtain ⟨i1, i2, i3, j, hj, ej⟩ := fin_pres hP hT 12 μ 0 (by omega) hd ht (by rw [e 12 (by omega) (by omega) (by omega) (by omega) (by omega)]; exact eT)
  have en : ∀ c, c = 12 ∨ c = 18 ∨ c = 5 ∨ c = 6 ∨ c = 8 ∨ c = 4 ∨ c = 13 ∨ c = 14 ∨ c = 15 ∨ c = 16 ∨ c = 19 ∨ c = 20 → (finD 12 μ 0).2 c = g c := fun c hc => (finD_n (by omega) 12 μ 0).trans (e c (by omega) (by omega) (by omega) (by omega) (by omega))
  have e10 : (finD 12 μ 0).2 1 0 = g 1 0 := (finD_10 12 μ 0).trans (by rw [e 1 (by omega) (by omega) (by omega) (by omega) (by omega)])
  refine ⟨⟨⟨hP, e10.trans b1, b2.of e10 (by rw [en 12 (by omega)]) (by rw [en 18 (by omega)]), d0_finD _ _ _, gs_finD _ _ _ gs⟩, ti_finD hP _ _ _ hd ht, fun i h1 h2 => by rw [en 6 (by omega)]; exact c2 i h1 h2⟩, ⟨hT, by rw [en 12 (by omega)]; exact eT⟩, ⟨hC, by rw [en 18 (by omega)]; exact eC⟩, ab.of (fun c f h => (i1 c f h).trans (ea c f h)) (fun f _ => by rw [en 5 (by omega)]) (fun f _ => by rw [en 6 (by omega)]) (fun f _ => by rw [en 8 (by omega)]), fun i hi => by rw [en 6 (by omega)]; exact ht' i hi, lf.of (en 13 (by omega)) (en 6 (by omega)), fun t h => by rw [en 14 (by omega)]; exact co t h, fun t h1 h2 => ?_, fun i hi => by rw [en 5 (by omega)]; exact sz i hi, i3 B (pb.of (e 3 (by omega) (by omega) (by omega) (by omega) (by omega))), fun c hc => by rw [en 20 (by omega)]; exact cp c hc⟩
  rw [i2 t h1, e 17 (by omega) (by omega) (by omega) (by omega) (by omega)]
  exact tw t h1 h2
theorem ws_tks {b : Nat} {g : Mem} (h : ∀ i, i < 12 → ∃ a, a ≤ b ∧ g 10 i = nI a) : ∀ n, n ≤ 12 → ∀ i, i < 12 → (i < n → ∃ a, a ≤ b + 1 ∧ tks g 1 n 10 i = nI a) ∧ (n ≤ i → tks g 1 n 10 i = g 10 i)
  | 0, _, i, hi => ⟨fun q => by omega, fun _ => rfl⟩
  | n + 1, hn, i, hi => by
    obtain ⟨ih1, ih2⟩ := ws_tks h n (by omega) i hi
    have e : tks g 1 (n + 1) = tk1 (tks g 1 n) 1 n := rfl
    rw [e]
    unfold tk1
    by_cases z : tks g 1 n 7 n = 0
    · rw [if_pos z, up_at]
      by_cases q : i = n
      · subst q
        have c : (10 : Nat) = 10 ∧ i = i := ⟨rfl, rfl⟩
        rw [if_pos c, ih2 (Nat.le_refl _)]
        obtain ⟨a, ha, e⟩ := h i hi
        refine ⟨fun _ => ⟨a + 1, by omega, by rw [e, nI_1]⟩, fun q => by omega⟩
      · have c : ¬ ((10 : Nat) = 10 ∧ i = n) := fun z => q z.2
        rw [if_neg c]
        exact ⟨fun _ => ih1 (by omega), fun _ => ih2 (by omega)⟩
    · rw [if_neg z, due1_n _ _ (by omega) (by omega), up_n _ _ _ (by omega)]
      refine ⟨fun _ => ?_, fun _ => ih2 (by omega)⟩
      by_cases q : i < n
      · exact ih1 q
      · rw [ih2 (by omega)]
        obtain ⟨a, ha, e⟩ := h i hi
        exact ⟨a, by omega, e⟩
theorem OKm.stp {P T C B b : Nat} {g : Mem} (h : OKm P T C B g) (hw : WSb b g) : OKm P T C (B + 12) (stp g P 1).2 ∧ WSb (b + 1) (stp g P 1).2 ∧ ∃ j, j ≤ 12 ∧ (stp g P 1).1 = nI j := by
  have hgo := h.1
  have hP := hgo.1.hP
  have hd := dq_0 (P := P) hgo.1.d0
  obtain ⟨d1, t1⟩ := dq_tks (k := 1) hP hd hgo.2.1 (3 * P) (by omega)
  have d2 : DQ P (sec (tks g 1 (3 * P)) 1) := d1.of (sec_n _ _ (by omega)) (sec_n _ _ (by omega)) (sec_n _ _ (by omega)) (sec_n _ _ (by omega)) (by unfold sec; rw [up_at, if_neg (by omega)])
  have t2 : TI P (sec (tks g 1 (3 * P)) 1) := t1.of (sec_n _ _ (by omega)) (sec_n _ _ (by omega)) (sec_n _ _ (by omega))
  have e2 : ∀ c, c ≠ 0 → c ≠ 7 → c ≠ 10 → c ≠ 11 → c ≠ 21 → sec (tks g 1 (3 * P)) 1 c = g c := fun c h0 h7 h10 h11 h21 => by rw [sec_n _ _ h0, tks_n _ _ h7 h10 h21 h0]
  refine ⟨h.fin d2 t2 (gs_up (gs_tks (k := 1) hgo.1.gs (by omega) _ (by omega)) _ _ _ (by omega) (by omega)) e2 (fun c f ha => ?_), ⟨by rw [stp_00, hw.1, nI_1], fun i hi => ?_⟩, ?_⟩
  · have ha' := ha
    unfold ab' at ha'
    rw [sec_n _ _ (by omega)]
    exact la_tks ha (3 * P) (Nat.le_refl _)
  · have e10 : (_root_.Jvm.Pilot.CSandWorkersLaw_law_r5864_2f3136.stp g P 1).2 10 = tks g 1 (3 * P) 10 := by
      show (finD 12 (sec (tks g 1 (3 * P)) 1) 0).2 10 = _
      rw [finD_n (by omega), sec_n _ _ (by omega)]
    obtain ⟨q1, q2⟩ := ws_tks hw.2 (3 * P) (by omega) i hi
    rw [e10]
    by_cases c : i < 3 * P
    · exact q1 c
    · rw [q2 (by omega)]
      obtain ⟨a, ha, e⟩ := hw.2 i hi
      exact ⟨a, by omega, e⟩
  · obtain ⟨_, _, _, j, hj, ej⟩ := fin_pres hP h.2.1.1 12 (sec (tks g 1 (3 * P)) 1) 0 (by omega) d2 t2 (by rw [e2 12 (by omega) (by omega) (by omega) (by omega) (by omega)]; exact h.2.1.2)
    exact ⟨j, by omega, ej⟩
theorem OKm.advs {P T C : Nat} : ∀ n g B b, OKm P T C B g → WSb b g → OKm P T C (B + 12 * n) (advs P n g).2 ∧ WSb (b + n) (advs P n g).2 ∧ ∃ j, j ≤ 12 * n ∧ (advs P n g).1 = nI j
  | 0, g, B, b, h, hw => ⟨h, hw, 0, by omega, rfl⟩
  | n + 1, g, B, b, h, hw => by
    obtain ⟨a1, a2, j, hj, ej⟩ := h.stp hw
    obtain ⟨b1, b2, k, hk, ek⟩ := OKm.advs n _ _ _ a1 a2
    refine ⟨?_, ?_, j + k, by omega, ?_⟩
    · rw [show B + 12 * (n + 1) = B + 12 + 12 * n by omega]; exact b1
    · rw [show b + (n + 1) = b + 1 + n by omega]; exact b2
    · show (_root_.Jvm.Pilot.CSandWorkersLaw_law_r5864_2f3136.stp g P 1).1 + (_root_.Jvm.Pilot.CSandWorkersLaw_law_r5864_2f3136.advs P n _).1 = _
      rw [ej, ek, nI_add]
