/-! each move keeps the invariant -/
def OKg (P B : Nat) (g : Mem) : Prop := ∃ T C b, b ≤ 9999 ∧ OKm P T C B g ∧ WSb b g
theorem WSb.of {b : Nat} {g g' : Mem} (h : WSb b g) (e0 : g' 0 0 = g 0 0) (e10 : g' 10 = g 10) : WSb b g' := ⟨e0.trans h.1, fun i hi => by rw [e10]; exact h.2 i hi⟩
theorem OKm.mono {P T C B B' : Nat} {g : Mem} (h : OKm P T C B g) (hb : B ≤ B') : OKm P T C B' g := by
  obtain ⟨a, b, c, d, e, f, i, j, k, l, m⟩ := h
  exact ⟨a, b, c, d, e, f, i, j, k, l.mono hb, m⟩
theorem OKg.mono {P B B' : Nat} {g : Mem} (h : OKg P B g) (hb : B ≤ B') : OKg P B' g := by
  obtain ⟨T, C, b, a, c, d⟩ := h
  exact ⟨T, C, b, a, c.mono hb, d⟩
theorem up_nn (g : Mem) {c f : Nat} {v : Int32} {a b : Nat} (h : ¬ (a = c ∧ b = f)) : up g c f v a b = g a b := by rw [up_at, if_neg h]
theorem er1 {g : Mem} {A : Prop} (h : ¬ ((-1000001 : Int32), g).1 < 0) : A := absurd (show (-1000001 : Int32) < 0 by decide) h
theorem er2 {g : Mem} {A : Prop} (h : ¬ ((-1000002 : Int32), g).1 < 0) : A := absurd (show (-1000002 : Int32) < 0 by decide) h
theorem er3 {g : Mem} {A : Prop} (h : ¬ ((-1000003 : Int32), g).1 < 0) : A := absurd (show (-1000003 : Int32) < 0 by decide) h
theorem k_size {P B : Nat} {g : Mem} {x y z : Int32} (h : OKg P B g) (hn : ¬ (o_size g x y z).1 < 0) : OKg P (B + 7200) (o_size g x y z).2 := by
  obtain ⟨T, C, b, hb, h, hw⟩ := h
  unfold o_size at hn ⊢
  by_cases c1 : isW g x y
  · rw [if_pos c1] at hn ⊢
    by_cases c2 : 5 ≤ z ∧ z ≤ 300
    · rw [if_pos c2] at hn ⊢
      by_cases c3 : g 7 (gl x y) = 0
      · rw [if_pos c3]
        dsimp only
        refine ⟨T, C, b, hb, OKm.mono ?_ (Nat.le_add_right B 7200), hw.of (up_nn _ (by omega)) (up_n _ _ _ (by omega))⟩
        obtain ⟨⟨⟨hP, b1, b2, b3, b4⟩, t1, a1⟩, tt, cc, ab, ht, lf, co, tw, sz, pb, cp⟩ := h
        obtain ⟨p, k, hp, hk, ex, ey, e3, eg⟩ := gl_spec hP b1 c1
        rw [eg] at c3 ⊢
        obtain ⟨zz, hzz, ez⟩ := nat_le (m := 300) (by omega) (by grind) c2.2
        have z5 : 5 ≤ zz := by
          have := c2.1
          rw [ez, show (5 : Int32) = nI 5 from rfl, nI_leI (by omega) (by omega)] at this
          exact this
        have n : ∀ c, c ≠ 5 → up g 5 (3 * p + k) z c = g c := fun c h => up_n _ _ _ h
        refine ⟨⟨⟨hP, by rw [n 1 (by omega)]; exact b1, b2.of (by rw [n 1 (by omega)]) (by rw [n 12 (by omega)]) (by rw [n 18 (by omega)]), by rw [n 0 (by omega)]; exact b3, fun i hi => ?_⟩, t1.of (n 7 (by omega)) (n 6 (by omega)) (n 12 (by omega)), a1.of (fun i _ _ => by rw [n 6 (by omega)])⟩, by rw [n 12 (by omega)]; exact tt, by rw [n 18 (by omega)]; exact cc, ab.of (fun c f hc => ?_) (fun f hf => up_nn _ (by omega)) (fun f _ => by rw [n 6 (by omega)]) (fun f _ => by rw [n 8 (by omega)]), fun i hi => by rw [n 6 (by omega)]; exact ht i hi, lf.of (n 13 (by omega)) (n 6 (by omega)), fun t h => by rw [n 14 (by omega)]; exact co t h, fun t h1 h2 => by rw [n 17 (by omega)]; exact tw t h1 h2, fun i hi => ?_, pb.of (n 3 (by omega)), fun c hc => by rw [n 20 (by omega)]; exact cp c hc⟩
        · obtain ⟨z', a, q1, q2, q3, q4⟩ := b4 i hi
          rw [n 7 (by omega), up_at]
          by_cases e : i = 3 * p + k
          · have c : (5 : Nat) = 5 ∧ i = 3 * p + k := ⟨rfl, e⟩
            rw [if_pos c, e, c3]
            exact ⟨zz, 0, ez, rfl, by omega, hzz⟩
          · rw [if_neg (fun q => e q.2)]
            exact ⟨z', a, q1, q2, q3, q4⟩
        · unfold ab' at hc
          exact up_nn _ (by omega)
        · rw [up_at]
          by_cases e : i = 3 * p + k
          · have c : (5 : Nat) = 5 ∧ i = 3 * p + k := ⟨rfl, e⟩
            rw [if_pos c, ez]
            exact ai0 (by omega) (by omega)
          · rw [if_neg (fun q => e q.2)]
            exact sz i hi
      · rw [if_neg c3] at hn; first | exact er1 hn | exact er2 hn | exact er3 hn
    · rw [if_neg c2] at hn; first | exact er1 hn | exact er2 hn | exact er3 hn
  · rw [if_neg c1] at hn; first | exact er1 hn | exact er2 hn | exact er3 hn
theorem rng_up {x : Int32} {T : Nat} (hT : T < 100) (h : rng x (nI T)) : rng x (nI (T + 1)) := by
  obtain ⟨k, hk, e⟩ := rng_nat (by omega) h
  rw [e]
  exact rng_of (by omega) (by omega)
theorem nc_zero {r : Nat → Int32} {t : Nat} : ∀ n, (∀ i, i < n → r i ≠ nI t) → nc r t n = 0
  | 0, _ => rfl
  | n + 1, h => by
    show nc r t n + (if r n = nI t then 1 else 0) = 0
    rw [nc_zero n (fun i hi => h i (by omega)), if_neg (h n (by omega))]
theorem k_task {P B : Nat} {g : Mem} {a b c d : Int32} (h : OKg P B g) (hn : ¬ (o_task g a b c d).1 < 0) : OKg P (B + 7200) (o_task g a b c d).2 := by
  obtain ⟨T, C, bb, hb, h, hw⟩ := h
  unfold o_task at hn ⊢
  by_cases c1 : 1 ≤ a ∧ a ≤ 3
  · rw [if_pos c1] at hn ⊢
    by_cases c2 : 0 ≤ b ∧ b ≤ 999
    · rw [if_pos c2] at hn ⊢
      by_cases c3 : 0 ≤ c ∧ c ≤ 999
      · rw [if_pos c3] at hn ⊢
        by_cases c4 : 0 ≤ d ∧ d ≤ 2
        · rw [if_pos c4] at hn ⊢
          by_cases c5 : g 12 0 < 8
          · rw [if_pos c5]
            dsimp only
            obtain ⟨⟨⟨hP, b1, b2, b3, b4⟩, t1, a1⟩, ⟨hT, eT⟩, ⟨hC, eC⟩, ab, ht, lf, co, tw, sz, pb, cp⟩ := h
            have hT8 : T < 8 := by
              rw [eT, show (8 : Int32) = nI 8 from rfl, nI_ltI (by omega) (by omega)] at c5
              exact c5
            have e12 : g 12 0 + 1 = nI (T + 1) := by rw [eT, nI_1]
            rw [show (g 12 0).toNatClampNeg = T by rw [eT, nI_clamp (by omega)], e12]
            generalize hg' : up (up (up (up (up g 13 T a) 14 T b) 15 T c) 16 T d) 12 0 (nI (T + 1)) = g'
            have n : ∀ c, c ≠ 12 → c ≠ 13 → c ≠ 14 → c ≠ 15 → c ≠ 16 → g' c = g c := fun c h1 h2 h3 h4 h5 => by
              rw [← hg', up_n _ _ _ h1, up_n _ _ _ h5, up_n _ _ _ h4, up_n _ _ _ h3, up_n _ _ _ h2]
            have n12 : g' 12 0 = nI (T + 1) := by rw [← hg', up_at, if_pos ⟨rfl, rfl⟩]
            have n13 : g' 13 = upd (g 13) T a := by
              rw [← hg', up_n _ _ _ (by omega), up_n _ _ _ (by omega), up_n _ _ _ (by omega), up_n _ _ _ (by omega), up_s]
            have n14 : g' 14 = upd (g 14) T b := by
              rw [← hg', up_n _ _ _ (by omega), up_n _ _ _ (by omega), up_n _ _ _ (by omega), up_s, up_n _ _ _ (by omega)]
            have pP : g' 1 0 = nI P := by rw [n 1 (by omega) (by omega) (by omega) (by omega) (by omega)]; exact b1
            have pC : g' 18 0 = nI C := by rw [n 18 (by omega) (by omega) (by omega) (by omega) (by omega)]; exact eC
            have n6 := n 6 (by omega) (by omega) (by omega) (by omega) (by omega)
            have n7 := n 7 (by omega) (by omega) (by omega) (by omega) (by omega)
            have n5 := n 5 (by omega) (by omega) (by omega) (by omega) (by omega)
            have n0 := n 0 (by omega) (by omega) (by omega) (by omega) (by omega)
            refine ⟨T + 1, C, bb, hb, OKm.mono ?_ (Nat.le_add_right B 7200), hw.of (by rw [n0]) (n 10 (by omega) (by omega) (by omega) (by omega) (by omega))⟩
            refine ⟨⟨⟨hP, pP, ⟨P, T + 1, C, hP, by omega, hC, pP, n12, pC⟩, by rw [n0]; exact b3, gs_of b4 n5 n7⟩, fun i hi h7 => ?_, a1.of (fun i _ _ => by rw [n6])⟩, ⟨by omega, n12⟩, ⟨hC, pC⟩, ab.of (fun c f hc => ?_) (fun f _ => by rw [n5]) (fun f _ => by rw [n6]) (fun f _ => by rw [n 8 (by omega) (by omega) (by omega) (by omega) (by omega)]), fun i hi => ?_, fun t ht' => ?_, fun t ht' => ?_, fun t h1 h2 => by rw [n 17 (by omega) (by omega) (by omega) (by omega) (by omega)]; exact tw t (by omega) h2, fun i hi => by rw [n5]; exact sz i hi, pb.of (n 3 (by omega) (by omega) (by omega) (by omega) (by omega)), fun c hc => by rw [n 20 (by omega) (by omega) (by omega) (by omega) (by omega)]; exact cp c hc⟩
            · rw [n7] at h7
              obtain ⟨q1, q2⟩ := t1 i hi h7
              rw [n6, n12]
              rw [eT] at q2
              exact ⟨q1, rng_up (by omega) q2⟩
            · unfold ab' at hc
              rw [n c (by omega) (by omega) (by omega) (by omega) (by omega)]
            · rw [n6]
              rcases ht i hi with q | ⟨t, ht', e⟩
              · exact Or.inl q
              · exact Or.inr ⟨t, by omega, e⟩
            · rw [n6, n13]
              by_cases e : t = T
              · rw [e, pk_us]
                obtain ⟨m, hm, em⟩ := nat_le (m := 3) (by omega) (by grind) c1.2
                refine ⟨m, hm, em, ?_⟩
                rw [nc_zero 12 (fun i hi q => ?_)]
                · omega
                · rcases ht i hi with q2 | ⟨t, ht', e⟩
                  · rw [q2] at q; exact nI_m1 (by omega) q.symm
                  · rw [e] at q
                    have := nI_clamp (n := t) (by omega)
                    rw [q, nI_clamp (by omega)] at this
                    omega
              · rw [pk_un e]
                exact lf t ht'
            · rw [n14]
              by_cases e : t = T
              · rw [e, pk_us]; exact c2
              · rw [pk_un e]; exact co t ht'
          · rw [if_neg c5] at hn; first | exact er1 hn | exact er2 hn | exact er3 hn
        · rw [if_neg c4] at hn; first | exact er1 hn | exact er2 hn | exact er3 hn
      · rw [if_neg c3] at hn; first | exact er1 hn | exact er2 hn | exact er3 hn
    · rw [if_neg c2] at hn; first | exact er1 hn | exact er2 hn | exact er3 hn
  · rw [if_neg c1] at hn; first | exact er1 hn | exact er2 hn | exact er3 hn
theorem k_contract {P B : Nat} {g : Mem} {a b : Int32} (h : OKg P B g) (hn : ¬ (o_contract g a b).1 < 0) : OKg P (B + 7200) (o_contract g a b).2 := by
  obtain ⟨T, C, bb, hb, h, hw⟩ := h
  unfold o_contract at hn ⊢
  by_cases c1 : 0 ≤ a ∧ a ≤ 999
  · rw [if_pos c1] at hn ⊢
    by_cases c2 : 1 ≤ b ∧ b ≤ 20
    · rw [if_pos c2] at hn ⊢
      by_cases c5 : g 18 0 < 6
      · rw [if_pos c5]
        dsimp only
        obtain ⟨⟨⟨hP, b1, b2, b3, b4⟩, t1, a1⟩, ⟨hT, eT⟩, ⟨hC, eC⟩, ab, ht, lf, co, tw, sz, pb, cp⟩ := h
        have hC6 : C < 6 := by
          rw [eC, show (6 : Int32) = nI 6 from rfl, nI_ltI (by omega) (by omega)] at c5
          exact c5
        rw [show (g 18 0).toNatClampNeg = C by rw [eC, nI_clamp (by omega)], eC, nI_1]
        generalize hg' : up (up (up g 19 C a) 20 C b) 18 0 (nI (C + 1)) = g'
        have n : ∀ c, c ≠ 18 → c ≠ 19 → c ≠ 20 → g' c = g c := fun c h1 h2 h3 => by
          rw [← hg', up_n _ _ _ h1, up_n _ _ _ h3, up_n _ _ _ h2]
        have n18 : g' 18 0 = nI (C + 1) := by rw [← hg', up_at, if_pos ⟨rfl, rfl⟩]
        have n20 : g' 20 = upd (g 20) C b := by
          rw [← hg', up_n _ _ _ (by omega), up_s, up_n _ _ _ (by omega)]
        have n6 := n 6 (by omega) (by omega) (by omega)
        have n7 := n 7 (by omega) (by omega) (by omega)
        have n5 := n 5 (by omega) (by omega) (by omega)
        have n0 := n 0 (by omega) (by omega) (by omega)
        have n12 := n 12 (by omega) (by omega) (by omega)
        have pP : g' 1 0 = nI P := by rw [n 1 (by omega) (by omega) (by omega)]; exact b1
        have pT : g' 12 0 = nI T := by rw [n12]; exact eT
        refine ⟨T, C + 1, bb, hb, OKm.mono ?_ (Nat.le_add_right B 7200), hw.of (by rw [n0]) (n 10 (by omega) (by omega) (by omega))⟩
        refine ⟨⟨⟨hP, pP, ⟨P, T, C + 1, hP, hT, by omega, pP, pT, n18⟩, by rw [n0]; exact b3, gs_of b4 n5 n7⟩, t1.of n7 n6 n12, a1.of (fun i _ _ => by rw [n6])⟩, ⟨hT, pT⟩, ⟨by omega, n18⟩, ab.of (fun c f hc => ?_) (fun f _ => by rw [n5]) (fun f _ => by rw [n6]) (fun f _ => by rw [n 8 (by omega) (by omega) (by omega)]), fun i hi => by rw [n6]; exact ht i hi, lf.of (n 13 (by omega) (by omega) (by omega)) n6, fun t ht' => by rw [n 14 (by omega) (by omega) (by omega)]; exact co t ht', fun t h1 h2 => by rw [n 17 (by omega) (by omega) (by omega)]; exact tw t h1 h2, fun i hi => by rw [n5]; exact sz i hi, pb.of (n 3 (by omega) (by omega) (by omega)), fun c hc => ?_⟩
        · unfold ab' at hc
          rw [n c (by omega) (by omega) (by omega)]
        · rw [n20]
          by_cases e : c = C
          · rw [e, pk_us]
            obtain ⟨m, hm, em⟩ := nat_le (m := 20) (by omega) (by grind) c2.2
            exact ⟨m, hm, em⟩
          · rw [pk_un e]; exact cp c hc
      · rw [if_neg c5] at hn; first | exact er1 hn | exact er2 hn | exact er3 hn
    · rw [if_neg c2] at hn; first | exact er1 hn | exact er2 hn | exact er3 hn
  · rw [if_neg c1] at hn; first | exact er1 hn | exact er2 hn | exact er3 hn
theorem ab_pst {P t w c f : Nat} {g : Mem} (hw : w < 3 * P) (h : ab' P c f) : pst g t w c f = g c f := by
  unfold ab' at h
  rcases (show c = 2 ∨ c = 7 ∨ (c ≠ 2 ∧ c ≠ 7 ∧ c ≠ 6 ∧ c ≠ 8 ∧ c ≠ 4) by omega) with rfl | rfl | q
  · rw [pst_2, pay_at, if_neg (by omega), if_neg (by omega), if_neg (by omega)]
  · rw [pst_7, pk_un (by omega)]
  · rw [pst_n _ _ _ (by omega) (by omega) (by omega) (by omega) (by omega)]
theorem k_put {P B : Nat} {g : Mem} {x y z : Int32} (h : OKg P B g) (hn : ¬ (o_put g x y z).1 < 0) : OKg P (B + 7200) (o_put g x y z).2 := by
  obtain ⟨T, C, b, hb, h, hw⟩ := h
  unfold o_put at hn ⊢
  by_cases c1 : isW g x y
  · rw [if_pos c1] at hn ⊢
    by_cases c2 : rng z (g 12 0)
    · rw [if_pos c2] at hn ⊢
      by_cases c3 : cput g (gl x y) z.toNatClampNeg
      · rw [if_pos c3]
        obtain ⟨hgo, ⟨hT, eT⟩, ⟨hC, eC⟩, ab, ht, lf, co, tw, sz, pb, cp⟩ := h
        have hP := hgo.1.hP
        obtain ⟨p, k, hp, hk, ex, ey, e3, eg⟩ := gl_spec hP hgo.1.pl c1
        rw [eT] at c2
        obtain ⟨t, ht', et⟩ := rng_nat (by omega) c2
        rw [eg, et, nI_clamp (by omega)] at c3 ⊢
        show OKg P (B + 7200) (pst g t (3 * p + k))
        have n : ∀ c, c ≠ 2 → c ≠ 6 → c ≠ 7 → c ≠ 8 → c ≠ 4 → pst g t (3 * p + k) c = g c := fun c => pst_n _ _ _
        refine ⟨T, C, b, hb, OKm.mono ?_ (Nat.le_add_right B 7200), hw.of (by rw [n 0 (by omega) (by omega) (by omega) (by omega) (by omega)]) (n 10 (by omega) (by omega) (by omega) (by omega) (by omega))⟩
        refine ⟨hgo.put hT eT ht' (by omega), ⟨hT, by rw [n 12 (by omega) (by omega) (by omega) (by omega) (by omega)]; exact eT⟩, ⟨hC, by rw [n 18 (by omega) (by omega) (by omega) (by omega) (by omega)]; exact eC⟩, ab.of (fun c f hc => ab_pst (by omega) hc) (fun f _ => by rw [n 5 (by omega) (by omega) (by omega) (by omega) (by omega)]) (fun f hf => by rw [pst_6, pk_un (by omega)]) (fun f hf => ?_), fun i hi => ?_, lf.put (by omega) (by omega) c3.2.1, fun t h => by rw [n 14 (by omega) (by omega) (by omega) (by omega) (by omega)]; exact co t h, fun t h1 h2 => by rw [n 17 (by omega) (by omega) (by omega) (by omega) (by omega)]; exact tw t h1 h2, fun i hi => by rw [n 5 (by omega) (by omega) (by omega) (by omega) (by omega)]; exact sz i hi, pb.of (n 3 (by omega) (by omega) (by omega) (by omega) (by omega)), fun c hc => by rw [n 20 (by omega) (by omega) (by omega) (by omega) (by omega)]; exact cp c hc⟩
        · unfold pst stt
          rw [up_n _ _ _ (by omega), up_nn _ (by omega), up_n _ _ _ (by omega), up_n _ _ _ (by omega), pay_n _ _ _ (by omega)]
        · rw [pst_6]
          by_cases e : i = 3 * p + k
          · rw [e, pk_us]
            exact Or.inr ⟨t, ht', rfl⟩
          · rw [pk_un e]; exact ht i hi
      · rw [if_neg c3] at hn; first | exact er1 hn | exact er2 hn | exact er3 hn
    · rw [if_neg c2] at hn; first | exact er1 hn | exact er2 hn | exact er3 hn
  · rw [if_neg c1] at hn; first | exact er1 hn | exact er2 hn | exact er3 hn
theorem k_home {P B : Nat} {g : Mem} {x y : Int32} (h : OKg P B g) (hn : ¬ (o_home g x y).1 < 0) : OKg P (B + 7200) (o_home g x y).2 := by
  obtain ⟨T, C, b, hb, h, hw⟩ := h
  unfold o_home at hn ⊢
  by_cases c1 : isW g x y
  · rw [if_pos c1] at hn ⊢
    by_cases c3 : g 7 (gl x y) = 0
    · rw [if_pos c3] at hn ⊢
      by_cases c4 : g 6 (gl x y) = -1
      · rw [if_pos c4] at hn; first | exact er1 hn | exact er2 hn | exact er3 hn
      · rw [if_neg c4]
        dsimp only
        refine ⟨T, C, b, hb, OKm.mono ?_ (Nat.le_add_right B 7200), hw.of (up_nn _ (by omega)) (up_n _ _ _ (by omega))⟩
        obtain ⟨⟨⟨hP, b1, b2, b3, b4⟩, t1, a1⟩, tt, cc, ab, ht, lf, co, tw, sz, pb, cp⟩ := h
        obtain ⟨p, k, hp, hk, ex, ey, e3, eg⟩ := gl_spec hP b1 c1
        rw [eg] at c3 ⊢
        have n : ∀ c, c ≠ 6 → up g 6 (3 * p + k) (-1) c = g c := fun c h => up_n _ _ _ h
        refine ⟨⟨⟨hP, by rw [n 1 (by omega)]; exact b1, b2.of (by rw [n 1 (by omega)]) (by rw [n 12 (by omega)]) (by rw [n 18 (by omega)]), by rw [n 0 (by omega)]; exact b3, gs_of b4 (n 5 (by omega)) (n 7 (by omega))⟩, fun i hi h7 => ?_, a1.of (fun i h1 h2 => up_nn _ (by omega))⟩, by rw [n 12 (by omega)]; exact tt, by rw [n 18 (by omega)]; exact cc, ab.of (fun c f hc => ?_) (fun f hf => by rw [n 5 (by omega)]) (fun f _ => up_nn _ (by omega)) (fun f _ => by rw [n 8 (by omega)]), fun i hi => ?_, fun t h => ?_, fun t h => by rw [n 14 (by omega)]; exact co t h, fun t h1 h2 => by rw [n 17 (by omega)]; exact tw t h1 h2, fun i hi => by rw [n 5 (by omega)]; exact sz i hi, pb.of (n 3 (by omega)), fun c hc => by rw [n 20 (by omega)]; exact cp c hc⟩
        · rw [n 7 (by omega)] at h7
          have : i ≠ 3 * p + k := fun q => h7 (by rw [q]; exact c3)
          rw [up_nn _ (by omega), n 12 (by omega)]
          exact t1 i hi h7
        · unfold ab' at hc
          exact up_nn _ (by omega)
        · by_cases e : i = 3 * p + k
          · left
            rw [up_at, if_pos ⟨rfl, e⟩]
          · rw [up_nn _ (by omega)]; exact ht i hi
        · obtain ⟨c, hc, e, hn'⟩ := lf t h
          refine ⟨c, hc, by rw [n 13 (by omega)]; exact e, ?_⟩
          have u := nc_upd (g 6) t (w := 3 * p + k) (-1) 12 (by omega)
          have nt : ¬ (-1 : Int32) = nI t := fun q => nI_m1 (by omega) q.symm
          rw [if_neg nt] at u
          rw [up_s]
          omega
    · rw [if_neg c3] at hn; first | exact er1 hn | exact er2 hn | exact er3 hn
  · rw [if_neg c1] at hn; first | exact er1 hn | exact er2 hn | exact er3 hn
