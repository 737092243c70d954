theorem rmv_3 (g : Mem) (C i : Nat) {c : Nat} (h : c ≠ 19) (h2 : c ≠ 20) (h3 : c ≠ 18) : rmv g C i c = g c := by
  unfold rmv
  rw [up_n _ _ _ h3, rms_n _ _ h h2]
theorem r_moves {Q : Int32 → Mem → Prop} {P C i p : Nat} {v : Int32} {g : Mem} (hC : C ≤ 6) (hi : i < C) (hp : p < P) (hv : v = nI (C - 1)) : ∀ j n ρ f, i + n + j = C - 1 → 2 * j + 1 ≤ f → RR P (up (rms g i n) 18 0 v) ρ → (∀ ρ', RR P (up (rms g i (C - 1 - i)) 18 0 v) ρ' → Fr ρ ρ' → Q (rms g i (C - 1 - i) 3 p) ρ') → vl_X8_buy Q f 0 ρ (nI p) (nI (152 + 2 * (i + n))) := by
  intro j
  induction j with
  | zero =>
    intro n ρ f hn hf h hq
    have hP := h.1
    obtain ⟨f, rfl⟩ : ∃ f', f = f' + 1 := ⟨f - 1, by omega⟩
    have e2 : ρ 1 2 = nI (C - 1) := (h.r 18 0 (j := 2) (by simp [liv]) rfl).trans (by rw [up_at, if_pos ⟨rfl, rfl⟩, hv])
    refine br_t ?_ ?_
    · rw [show (2 : Int32).toNatClampNeg = 2 from rfl, e2, show (152 : Int32) = nI 152 from rfl, show (2 : Int32) = nI 2 from rfl, pk_mul, nI_add]
      exact gec (by omega)
    · rw [show ((8 : Int32) + 5 * nI p) + 3 = nI (8 + 5 * p + 3) from i8 p 3, nI_clamp (by omega)]
      refine ⟨vp_in_nI (by omega) (by omega), ?_⟩
      rw [h.r 3 p (j := 8 + 5 * p + 3) (by simp [liv]; omega) rfl, up_n _ _ _ (show 3 ≠ 18 by omega)]
      rw [show n = C - 1 - i by omega] at h ⊢
      exact hq ρ h Fr.rfl'
  | succ j ih =>
    intro n ρ f hn hf h hq
    have hP := h.1
    obtain ⟨f, rfl⟩ : ∃ f', f = f' + 2 := ⟨f - 2, by omega⟩
    have e2 : ρ 1 2 = nI (C - 1) := (h.r 18 0 (j := 2) (by simp [liv]) rfl).trans (by rw [up_at, if_pos ⟨rfl, rfl⟩, hv])
    have n3 : ∀ m, m < 152 + 2 * (C - 1) → ∀ ρ : Mem, ρ 1 2 = nI (C - 1) → ¬ (152 : Int32) + 2 * ρ 1 (2 : Int32).toNatClampNeg ≤ nI m := by
      intro m hm ρ e2
      rw [show (2 : Int32).toNatClampNeg = 2 from rfl, e2, show (152 : Int32) = nI 152 from rfl, show (2 : Int32) = nI 2 from rfl, pk_mul, nI_add]
      exact ltc hm
    have k1 : ρ 1 (152 + 2 * (i + n) + 2) = rms g i n 19 (i + n + 1) := (h.r 19 (i + n + 1) (by simp [liv]; omega) (by simp [J]; omega)).trans (by rw [up_n _ _ _ (show 19 ≠ 18 by omega)])
    refine br_f (n3 _ (by omega) ρ e2) ?_
    rw [show nI (152 + 2 * (i + n)) + 2 = nI (152 + 2 * (i + n) + 2) from nI_add _ 2, nI_clamp (by omega), nI_clamp (by omega), k1, nI_1]
    refine ⟨vp_in_nI (by omega) (by omega), vp_in_nI (by omega) (by omega), nm_e (nm_e ?_)⟩
    have R1 := h.w 19 (i + n) (j := 152 + 2 * (i + n)) (rms g i n 19 (i + n + 1)) (by simp [liv]; omega) rfl (by omega) (by omega) (by omega)
    have e2' : up ρ 1 (152 + 2 * (i + n)) (rms g i n 19 (i + n + 1)) 1 2 = nI (C - 1) := (R1.r 18 0 (j := 2) (by simp [liv]) rfl).trans (by rw [up_n _ _ _ (show 18 ≠ 19 by omega), up_at, if_pos ⟨rfl, rfl⟩, hv])
    have k2 : up ρ 1 (152 + 2 * (i + n)) (rms g i n 19 (i + n + 1)) 1 (152 + 2 * (i + n) + 1 + 2) = rms g i n 20 (i + n + 1) := (R1.r 20 (i + n + 1) (by simp [liv]; omega) (by simp [J]; omega)).trans (by rw [up_n _ _ _ (show 20 ≠ 19 by omega), up_n _ _ _ (show 20 ≠ 18 by omega)])
    have R2 := R1.w 20 (i + n) (j := 152 + 2 * (i + n) + 1) (rms g i n 20 (i + n + 1)) (by simp [liv]; omega) rfl (by omega) (by omega) (by omega)
    rw [up_comm _ _ _ _ _ (show 18 ≠ 19 by omega), up_comm _ _ _ _ _ (show 18 ≠ 20 by omega)] at R2
    refine br_f (n3 _ (by omega) _ e2') ?_
    rw [show nI (152 + 2 * (i + n) + 1) + 2 = nI (152 + 2 * (i + n) + 1 + 2) from nI_add _ 2, nI_clamp (by omega), nI_clamp (by omega), k2, nI_1]
    refine ⟨vp_in_nI (by omega) (by omega), vp_in_nI (by omega) (by omega), nm_e (nm_e ?_)⟩
    rw [show 152 + 2 * (i + n) + 1 + 1 = 152 + 2 * (i + (n + 1)) by omega]
    exact ih (n + 1) _ f (by omega) (by omega) R2 (fun ρ' R' f' => hq ρ' R' ((fr_1 _ _ _).tr ((fr_1 _ _ _).tr f')))
theorem r_buy {Q : Int32 → Mem → Prop} {P C n : Nat} {g ρ : Mem} {x y : Int32} (h : RR P g ρ) (hC : C ≤ 6) (eC : g 18 0 = nI C) (hn : n ≤ 4) (e : ρ 0 4 = nI n) (hpos : ∀ p c, p < P → c < C → ¬ g 3 p + g 20 c < 0) (hq : Rq Q P (o_buy C g x y) ρ n) : vc_X8_buy Q ρ x y := by
  have hP := h.1
  unfold o_buy at hq
  refine ⟨20, r_isP h ?_⟩
  by_cases c : rng x (g 1 0)
  · rw [if_pos c] at hq ⊢
    rw [h.2.1] at c
    obtain ⟨p, hp, ex⟩ := rng_nat (by omega) c
    refine ⟨fun q => absurd q (by decide), fun _ => r_isC h ?_⟩
    by_cases c2 : rng y (g 18 0)
    · rw [if_pos c2] at hq ⊢
      rw [eC] at c2
      obtain ⟨t, ht, et⟩ := rng_nat (by omega) c2
      rw [ex, et, nI_clamp (by omega), nI_clamp (by omega)] at hq
      rw [ex, et]
      have e152 : (152 : Int32) + 2 * nI t = nI (152 + 2 * t) := by rw [show (152 : Int32) = nI 152 from rfl, show (2 : Int32) = nI 2 from rfl, pk_mul, nI_add]
      refine ⟨fun _ => ?_, fun q => absurd q (by decide)⟩
      rw [e152, nI_clamp (by omega), h.r 19 t (j := 152 + 2 * t) (by simp [liv]; omega) rfl, nI_1, nI_clamp (by omega), show ((8 : Int32) + 5 * nI p) + 3 = nI (8 + 5 * p + 3) from i8 p 3, nI_clamp (by omega)]
      refine ⟨vp_in_nI (by omega) (by omega), nm_e (r_has h hp ?_)⟩
      by_cases c3 : hv g p (g 19 t)
      · rw [if_pos c3] at hq ⊢
        refine ⟨fun _ => r_chz hn e (r_pays (h.chz n) hp (fun ρ1 R1 f1 => ⟨vp_in_nI (by omega) (by omega), vp_in_nI (by omega) (by omega), nm_e (nm_e (nm_e ?_))⟩)), fun q => absurd q (by decide)⟩
        have q3 : ρ1 1 (8 + 5 * p + 3) = g 3 p := (R1.r 3 p (by simp [liv]; omega) rfl).trans (by rw [pay_n _ _ _ (by omega)])
        have q20 : ρ1 1 (152 + 2 * t + 1) = g 20 t := (R1.r 20 t (by simp [liv]; omega) rfl).trans (by rw [pay_n _ _ _ (by omega)])
        rw [q3, q20]
        have R2 := R1.w 3 p (j := 8 + 5 * p + 3) (g 3 p + g 20 t) (by simp [liv]; omega) rfl (by omega) (by omega) (by omega)
        have q2 : up ρ1 1 (8 + 5 * p + 3) (g 3 p + g 20 t) 1 2 = nI C := (R2.r 18 0 (by simp [liv]) rfl).trans (by rw [up_n _ _ _ (show 18 ≠ 3 by omega), pay_n _ _ _ (by omega), eC])
        have eC1 : nI C - 1 = nI (C - 1) := by rw [show (1 : Int32) = nI 1 from rfl, nI_sub (by omega)]
        rw [show (2 : Int32).toNatClampNeg = 2 from rfl, q2]
        have R3 := R2.w 18 0 (j := 2) (nI C - 1) (by simp [liv]) rfl (by omega) (by omega) (by omega)
        refine r_moves (i := t) (v := nI C - 1) (g := up (pay g p (g 19 t)) 3 p (g 3 p + g 20 t)) hC ht hp eC1 (C - 1 - t) 0 _ 20 (by omega) (by omega) R3 (fun ρ' R' f' => ?_)
        have ev : nI C - 1 = up (pay g p (g 19 t)) 3 p (g 3 p + g 20 t) 18 0 - 1 := by rw [up_n _ _ _ (show 18 ≠ 3 by omega), pay_n _ _ _ (by omega), eC]
        rw [ev] at R'
        have fin := hq.2 ?_ ρ' R' (f1.tr ((fr_1 _ _ _).tr ((fr_1 _ _ _).tr f')))
        · have e4 := rmv_3 (up (pay g p (g 19 t)) 3 p (g 3 p + g 20 t)) C t (c := 3) (by omega) (by omega) (by omega)
          rw [e4] at fin
          rw [rms_n _ _ (show 3 ≠ 19 by omega) (by omega)]
          exact fin
        · show ¬ rmv _ C t 3 p < 0
          rw [rmv_3 _ _ _ (by omega) (by omega) (by omega), up_at, if_pos ⟨rfl, rfl⟩]
          exact hpos p t hp ht
      · rw [if_neg c3] at hq ⊢
        exact ⟨fun q => absurd rfl q, fun _ => hq.err (by decide)⟩
    · rw [if_neg c2] at hq ⊢
      exact ⟨fun q => absurd rfl q, fun _ => hq.err (by decide)⟩
  · rw [if_neg c] at hq ⊢
    exact ⟨fun _ => hq.err (by decide), fun q => absurd rfl q⟩
