theorem k_flip {P B : Nat} {g : Mem} {x y : Int32} (h : OKg P B g) (hn : ¬ (o_flip g x y).1 < 0) : OKg P (B + 7200) (o_flip g x y).2 := by
  obtain ⟨T, C, b, hb, h, hw⟩ := h
  unfold o_flip at hn ⊢
  by_cases c1 : isW g x y
  · rw [if_pos c1] at hn ⊢
    by_cases c3 : g 7 (gl x y) = 0
    · rw [if_pos c3] at hn; exact er2 hn
    · rw [if_neg c3]
      dsimp only
      have hgo := h.1
      have hP := hgo.1.hP
      obtain ⟨p, k, hp, hk, ex, ey, e3, eg⟩ := gl_spec hP hgo.1.pl c1
      rw [eg] at c3 ⊢
      have hd := dq_0 (P := P) hgo.1.d0
      obtain ⟨d1, t1, _⟩ := dq_step (g' := fl1 g (3 * p + k)) hP (by omega) hd hgo.2.1 c3 (fl1_7 g _) (fl1_n _ _ (by omega) (by omega)) (fl1_n _ _ (by omega) (by omega)) (fl1_n _ _ (by omega) (by omega)) (by rw [fl1_n _ _ (by omega) (by omega)])
      refine ⟨T, C, b, hb, OKm.mono (h.fin d1 t1 (gs_due1 (gs_fl1 hgo.1.gs (by omega)) _) (fun c h0 h7 h10 h11 h21 => by rw [due1_n _ _ h21 h0, fl1_n _ _ h7 h11]) (fun c f hc => ?_)) (by omega), hw.of ?_ ?_⟩
      · unfold ab' at hc
        rw [due1_n _ _ (by omega) (by omega)]
        unfold fl1
        rw [up_nn _ (by omega), up_nn _ (by omega)]
      · rw [finD_0f (by omega), due1_0 _ _ (by omega), fl1_n _ _ (by omega) (by omega)]
      · rw [finD_n (by omega), due1_n _ _ (by omega) (by omega), fl1_n _ _ (by omega) (by omega)]
  · rw [if_neg c1] at hn; exact er1 hn
theorem k_pass {P B : Nat} {g : Mem} {n : Int32} (h : OKg P B g) (hn : ¬ (o_pass P g n).1 < 0) : OKg P (B + 7200) (o_pass P g n).2 := by
  obtain ⟨T, C, b, hb, h, hw⟩ := h
  unfold o_pass at hn ⊢
  by_cases c1 : 1 ≤ n ∧ n ≤ 600
  · rw [if_pos c1] at hn ⊢
    obtain ⟨k, hk, ek⟩ := nat_le (x := n) (m := 600) (by omega) (by grind) c1.2
    by_cases c2 : g 0 0 + n ≤ 9999
    · rw [if_pos c2]
      rw [ek, hw.1, nI_add, show (9999 : Int32) = nI 9999 from rfl, nI_leI (by omega) (by omega)] at c2
      rw [ek, nI_clamp (by omega)]
      obtain ⟨a1, a2, _⟩ := OKm.advs k g B b h hw
      exact ⟨T, C, b + k, c2, a1.mono (by omega), a2⟩
    · rw [if_neg c2] at hn; exact er3 hn
  · rw [if_neg c1] at hn; exact er1 hn
theorem rms_cp {g : Mem} (h : CP g) (i : Nat) : ∀ n, i + n < 6 → CP (rms g i n)
  | 0, _ => h
  | n + 1, hn => by
    have ih := rms_cp h i n (by omega)
    intro c hc
    show ∃ a, a ≤ 20 ∧ up (up (rms g i n) 19 (i + n) (rms g i n 19 (i + n + 1))) 20 (i + n) (rms g i n 20 (i + n + 1)) 20 c = nI a
    rw [up_at]
    by_cases e : c = i + n
    · have q : (20 : Nat) = 20 ∧ c = i + n := ⟨rfl, e⟩
      rw [if_pos q]
      exact ih (i + n + 1) (by omega)
    · rw [if_neg (fun z => e z.2), up_n _ _ _ (by omega)]
      exact ih c hc
theorem k_buy {P C B : Nat} {g : Mem} {x y : Int32} (h : OKg P B g) (eC : g 18 0 = nI C) (hC : C ≤ 6) (hn : ¬ (o_buy C g x y).1 < 0) : OKg P (B + 7200) (o_buy C g x y).2 := by
  obtain ⟨T, C', b, hb, h, hw⟩ := h
  unfold o_buy at hn ⊢
  by_cases c1 : rng x (g 1 0)
  · rw [if_pos c1] at hn ⊢
    by_cases c2 : rng y (g 18 0)
    · rw [if_pos c2] at hn ⊢
      by_cases c3 : hv g x.toNatClampNeg (g 19 y.toNatClampNeg)
      · rw [if_pos c3]
        dsimp only
        obtain ⟨⟨⟨hP, b1, b2, b3, b4⟩, t1, a1⟩, ⟨hT, eT⟩, ⟨hC', eC'⟩, ab, ht, lf, co, tw, sz, pb, cp⟩ := h
        rw [b1] at c1
        obtain ⟨p, hp, ex⟩ := rng_nat (by omega) c1
        rw [eC] at c2
        obtain ⟨t, ht', et⟩ := rng_nat (by omega) c2
        rw [ex, et, nI_clamp (by omega), nI_clamp (by omega)]
        have r18 : rmv (up (pay g p (g 19 t)) 3 p (g 3 p + g 20 t)) C t 18 0 = nI (C - 1) := by
          unfold rmv
          rw [up_at, if_pos ⟨rfl, rfl⟩, up_n _ _ _ (by omega), pay_n _ _ _ (by omega), eC, show (1 : Int32) = nI 1 from rfl, nI_sub (by omega)]
        have r20 : CP (rmv (up (pay g p (g 19 t)) 3 p (g 3 p + g 20 t)) C t) := by
          have c0 : CP (up (pay g p (g 19 t)) 3 p (g 3 p + g 20 t)) := fun c hc => by
            rw [up_n _ _ _ (by omega), pay_n _ _ _ (by omega)]; exact cp c hc
          have := rms_cp c0 t (C - 1 - t) (by omega)
          intro c hc
          unfold rmv
          rw [up_n _ _ _ (by omega)]
          exact this c hc
        have n : ∀ c, c ≠ 2 → c ≠ 3 → c ≠ 18 → c ≠ 19 → c ≠ 20 → rmv (up (pay g p (g 19 t)) 3 p (g 3 p + g 20 t)) C t c = g c := fun c h2 h3 h18 h19 h20 => by
          rw [rmv_3 _ _ _ h19 h20 h18, up_n _ _ _ h3, pay_n _ _ _ h2]
        have n3 : rmv (up (pay g p (g 19 t)) 3 p (g 3 p + g 20 t)) C t 3 = up (pay g p (g 19 t)) 3 p (g 3 p + g 20 t) 3 := rmv_3 _ _ _ (by omega) (by omega) (by omega)
        have n2 : rmv (up (pay g p (g 19 t)) 3 p (g 3 p + g 20 t)) C t 2 = pay g p (g 19 t) 2 := by rw [rmv_3 _ _ _ (by omega) (by omega) (by omega), up_n _ _ _ (by omega)]
        obtain ⟨d, hd, ed⟩ := cp t (by omega)
        have pb' : PB (B + d) (rmv (up (pay g p (g 19 t)) 3 p (g 3 p + g 20 t)) C t) := by
          have q : PB B (pay g p (g 19 t)) := pb.of (pay_n _ _ _ (by omega))
          refine PB.of (q.add (p := p) (a := d) (v := g 3 p + g 20 t) ?_) n3
          rw [ed, pay_n _ _ _ (by omega)]
        generalize rmv (up (pay g p (g 19 t)) 3 p (g 3 p + g 20 t)) C t = g' at r18 r20 n n3 n2 pb'
        have n5 := n 5 (by omega) (by omega) (by omega) (by omega) (by omega)
        have n6 := n 6 (by omega) (by omega) (by omega) (by omega) (by omega)
        have n7 := n 7 (by omega) (by omega) (by omega) (by omega) (by omega)
        have n0 := n 0 (by omega) (by omega) (by omega) (by omega) (by omega)
        have n12 := n 12 (by omega) (by omega) (by omega) (by omega) (by omega)
        have pP : g' 1 0 = nI P := by rw [n 1 (by omega) (by omega) (by omega) (by omega) (by omega)]; exact b1
        have pT : g' 12 0 = nI T := by rw [n12]; exact eT
        refine ⟨T, C - 1, b, hb, ?_, hw.of (by rw [n0]) (n 10 (by omega) (by omega) (by omega) (by omega) (by omega))⟩
        refine ⟨⟨⟨hP, pP, ⟨P, T, C - 1, hP, hT, by omega, pP, pT, r18⟩, by rw [n0]; exact b3, gs_of b4 n5 n7⟩, t1.of n7 n6 n12, a1.of (fun i _ _ => by rw [n6])⟩, ⟨hT, pT⟩, ⟨by omega, r18⟩, ab.of (fun c f hc => ?_) (fun f _ => by rw [n5]) (fun f _ => by rw [n6]) (fun f _ => by rw [n 8 (by omega) (by omega) (by omega) (by omega) (by omega)]), fun i hi => by rw [n6]; exact ht i hi, lf.of (n 13 (by omega) (by omega) (by omega) (by omega) (by omega)) n6, fun t ht' => by rw [n 14 (by omega) (by omega) (by omega) (by omega) (by omega)]; exact co t ht', fun t h1 h2 => by rw [n 17 (by omega) (by omega) (by omega) (by omega) (by omega)]; exact tw t h1 h2, fun i hi => by rw [n5]; exact sz i hi, pb'.mono (by omega), r20⟩
        unfold ab' at hc
        rcases (show c = 2 ∨ c = 3 ∨ (c ≠ 2 ∧ c ≠ 3 ∧ c ≠ 18 ∧ c ≠ 19 ∧ c ≠ 20) by omega) with rfl | rfl | q
        · rw [n2, pay_at, if_neg (by omega), if_neg (by omega), if_neg (by omega)]
        · rw [n3, up_nn _ (by omega), pay_n _ _ _ (by omega)]
        · rw [n c (by omega) (by omega) (by omega) (by omega) (by omega)]
      · rw [if_neg c3] at hn; exact er2 hn
    · rw [if_neg c2] at hn; exact er1 hn
  · rw [if_neg c1] at hn; exact er1 hn
theorem k_player {P B : Nat} {g : Mem} (h : OKg P B g) (hP : P < 4) : OKg (P + 1) (B + 7200) (up g 1 0 (g 1 0 + 1)) := by
  obtain ⟨T, C, b, hb, h, hw⟩ := h
  refine ⟨T, C, b, hb, OKm.mono ?_ (Nat.le_add_right B 7200), hw.of (up_nn _ (by omega)) (up_n _ _ _ (by omega))⟩
  obtain ⟨⟨⟨_, b1, b2, b3, b4⟩, t1, a1⟩, ⟨hT, eT⟩, ⟨hC, eC⟩, ab, ht, lf, co, tw, sz, pb, cp⟩ := h
  have n : ∀ c, c ≠ 1 → up g 1 0 (g 1 0 + 1) c = g c := fun c h => up_n _ _ _ h
  have pP : up g 1 0 (g 1 0 + 1) 1 0 = nI (P + 1) := by rw [up_at, if_pos ⟨rfl, rfl⟩, b1, nI_1]
  have pT : up g 1 0 (g 1 0 + 1) 12 0 = nI T := by rw [n 12 (by omega)]; exact eT
  have pC : up g 1 0 (g 1 0 + 1) 18 0 = nI C := by rw [n 18 (by omega)]; exact eC
  refine ⟨⟨⟨by omega, pP, ⟨P + 1, T, C, by omega, hT, hC, pP, pT, pC⟩, by rw [n 0 (by omega)]; exact b3, gs_of b4 (n 5 (by omega)) (n 7 (by omega))⟩, fun i hi h7 => ?_, fun i h1 h2 => by rw [n 6 (by omega)]; exact a1 i (by omega) h2⟩, ⟨hT, pT⟩, ⟨hC, pC⟩, ⟨fun p h1 h2 => by rw [n 3 (by omega)]; exact ab.1 p (by omega) h2, fun f h1 h2 => ?_⟩, fun i hi => by rw [n 6 (by omega)]; exact ht i hi, lf.of (n 13 (by omega)) (n 6 (by omega)), fun t h => by rw [n 14 (by omega)]; exact co t h, fun t h1 h2 => by rw [n 17 (by omega)]; exact tw t h1 h2, fun i hi => by rw [n 5 (by omega)]; exact sz i hi, pb.of (n 3 (by omega)), fun c hc => by rw [n 20 (by omega)]; exact cp c hc⟩
  · rw [n 7 (by omega)] at h7
    rw [n 6 (by omega), n 12 (by omega)]
    obtain ⟨q1, q2⟩ := t1 i hi h7
    exact ⟨by omega, q2⟩
  · rw [n 2 (by omega), n 5 (by omega), n 6 (by omega), n 7 (by omega), n 8 (by omega), n 9 (by omega), n 10 (by omega), n 11 (by omega)]
    exact ab.2 f (by omega) h2
/-! what the reference's moves ask -/
theorem OKg.go {P B : Nat} {g : Mem} (h : OKg P B g) : GO P g := by
  obtain ⟨T, C, b, hb, h, hw⟩ := h
  exact h.1
theorem OKg.ho {P B : Nat} {g : Mem} (h : OKg P B g) : HO g := by
  obtain ⟨T, C, b, hb, h, hw⟩ := h
  obtain ⟨hgo, ⟨hT, eT⟩, ⟨hC, eC⟩, ab, ht, _⟩ := h
  intro i hi
  rcases ht i hi with q | ⟨t, ht, e⟩
  · exact Or.inl q
  · exact Or.inr ⟨t, by omega, e⟩
theorem OKg.tc {P B : Nat} {g : Mem} (h : OKg P B g) : ∃ T C, T ≤ 8 ∧ g 12 0 = nI T ∧ C ≤ 6 ∧ g 18 0 = nI C ∧ (T < 8 → g 17 T = 0) := by
  obtain ⟨T, C, b, hb, h, hw⟩ := h
  obtain ⟨hgo, ⟨hT, eT⟩, ⟨hC, eC⟩, ab, ht, lf, co, tw, _⟩ := h
  exact ⟨T, C, hT, eT, hC, eC, fun q => tw T (Nat.le_refl _) q⟩
theorem OKg.lf {P B : Nat} {g : Mem} (h : OKg P B g) : ∀ w t, t < 8 → w < 3 * P → cput g w t → ¬ lft (stt (pay g (w / 3) (g 14 t)) w (nI t)) t < 0 := by
  obtain ⟨T, C, b, hb, h, hw⟩ := h
  obtain ⟨hgo, ⟨hT, eT⟩, ⟨hC, eC⟩, ab, ht, lf, co, tw, _⟩ := h
  intro w t ht' hw' hc
  have hP := hgo.1.hP
  obtain ⟨a, ha, e⟩ := lf_lft (lf.put ht' (w := w) (by omega) hc.2.1) ht'
  show ¬ lft (pst g t w) t < 0
  rw [e]
  exact nn (by omega)
theorem OKg.ad {P B : Nat} {g : Mem} (h : OKg P B g) : ∀ k, k ≤ 600 → ¬ (advs P k g).1 < 0 := by
  obtain ⟨T, C, b, hb, h, hw⟩ := h
  intro k hk
  obtain ⟨_, _, j, hj, e⟩ := OKm.advs k g B b h hw
  rw [e]
  exact nn (by omega)
theorem OKg.fl {P B : Nat} {g : Mem} (h : OKg P B g) : ∀ w, w < 12 → ¬ due1 (fl1 g w) w 7 w < 0 := by
  intro w hw
  obtain ⟨z, a, e5, e7, haz, hz⟩ := h.go.1.gs w hw
  rw [due1_n _ _ (by omega) (by omega), fl1_7, pk_us, e5, e7, nI_sub haz]
  exact nn (by omega)
theorem OKg.by {P B C : Nat} {g : Mem} (h : OKg P B g) (hB : B ≤ 1000000000) (hC : C ≤ 6) : ∀ p c, p < P → c < C → ¬ g 3 p + g 20 c < 0 := by
  obtain ⟨T, C, b, hb, h, hw⟩ := h
  obtain ⟨hgo, ⟨hT, eT⟩, _, ab, ht, lf, co, tw, sz, pb, cp⟩ := h
  have hP := hgo.1.hP
  intro p c hp hc
  obtain ⟨a, ha, ea⟩ := pb p (by omega)
  obtain ⟨d, hd, ed⟩ := cp c (by omega)
  rw [ea, ed, nI_add]
  exact nn (by omega)
theorem OKg.abs {P B : Nat} {g : Mem} (h : OKg P B g) : AB P g := by
  obtain ⟨T, C, b, hb, h, hw⟩ := h
  exact h.2.2.2.1
theorem OKg.ws {P B : Nat} {g : Mem} (h : OKg P B g) : WS g := by
  obtain ⟨T, C, b, hb, h, hw⟩ := h
  exact ⟨b, hb, hw⟩
theorem OKg.pb {P B : Nat} {g : Mem} (h : OKg P B g) : PB B g := by
  obtain ⟨T, C, b, hb, h, hw⟩ := h
  obtain ⟨hgo, ⟨hT, eT⟩, _, ab, ht, lf, co, tw, sz, pb, cp⟩ := h
  exact pb
theorem OKg.sc {P B : Nat} {g : Mem} (h : OKg P B g) : (∀ i, i < 12 → g 5 i ≠ 0) ∧ (∀ t, t < 8 → 0 ≤ g 14 t ∧ g 14 t ≤ 999) := by
  obtain ⟨T, C, b, hb, h, hw⟩ := h
  obtain ⟨hgo, ⟨hT, eT⟩, _, ab, ht, lf, co, tw, sz, pb, cp⟩ := h
  exact ⟨sz, co⟩
/-- a copy keeps all that the invariant says -/
theorem OKg.cp {P B : Nat} {g g' : Mem} (h : OKg P B g) (hc : Cp g g') (h0 : g' 0 6 = 0) : OKg P B g' := by
  obtain ⟨T, C, b, hb, ⟨hgo, ⟨hT, eT⟩, ⟨hC, eC⟩, ab, ht, lf, co, tw, sz, pb, cp⟩, hw⟩ := h
  refine ⟨T, C, b, hb, ⟨hgo.cp hc h0, ⟨hT, hc.2.2.2.2.2.1.trans eT⟩, ⟨hC, hc.2.2.2.2.2.2.trans eC⟩, ab.of (fun c f h => ?_) (fun f _ => by rw [hc.r (c := 5) rfl]) (fun f _ => by rw [hc.r (c := 6) rfl]) (fun f _ => by rw [hc.r (c := 8) rfl]), fun i hi => by rw [hc.r (c := 6) rfl]; exact ht i hi, lf.of (hc.r rfl) (hc.r rfl), fun t h => by rw [hc.r (c := 14) rfl]; exact co t h, fun t h1 h2 => by rw [hc.r (c := 17) rfl]; exact tw t h1 h2, fun i hi => by rw [hc.r (c := 5) rfl]; exact sz i hi, pb.of (hc.r rfl), fun c h => by rw [hc.r (c := 20) rfl]; exact cp c h⟩, hw.of hc.2.1 (hc.r rfl)⟩
  unfold ab' at h
  rcases (show c = 2 ∨ c = 3 ∨ c = 7 ∨ c = 9 ∨ c = 10 ∨ c = 11 by omega) with rfl | rfl | rfl | rfl | rfl | rfl <;> rw [hc.r rfl]
