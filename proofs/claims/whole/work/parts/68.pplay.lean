/-! orders carried out -/
/-- the order o with the numbers v -/
def ox (P : Nat) (o : Int32) (v : Nat → Int32) (g : Mem) : Rs :=
  if o = 98 then o_buy (g 18 0).toNatClampNeg g (v 0) (v 1) else if o = 99 then o_contract g (v 0) (v 1) else if o = 104 then o_home g (v 0) (v 1) else if o = 116 then o_task g (v 0) (v 1) (v 2) (v 3) else if o = 119 then o_put g (v 0) (v 1) (v 2) else o_pass P g (v 0)
theorem nof_v {o : Int32} (h : nof o ≠ 0) : o = 98 ∨ o = 99 ∨ o = 104 ∨ o = 116 ∨ o = 119 ∨ o = 115 := by
  unfold nof at h
  by_cases c1 : o = 98
  · exact Or.inl c1
  by_cases c2 : o = 99
  · exact Or.inr (Or.inl c2)
  by_cases c3 : o = 104
  · exact Or.inr (Or.inr (Or.inl c3))
  by_cases c4 : o = 116
  · exact Or.inr (Or.inr (Or.inr (Or.inl c4)))
  by_cases c5 : o = 119
  · exact Or.inr (Or.inr (Or.inr (Or.inr (Or.inl c5))))
  by_cases c6 : o = 115
  · exact Or.inr (Or.inr (Or.inr (Or.inr (Or.inr c6))))
  rw [if_neg c1, if_neg c2, if_neg c3, if_neg c6, if_neg c4, if_neg c5] at h
  exact absurd rfl h
theorem s_obey {Q : Int32 → Mem → Prop} {P B : Nat} {o : Int32} {v : Nat → Int32} {g ο : Mem} (h : OKg P B g) (ho : nof o ≠ 0) (hv : ∀ j, j < nof o → ο 2 j = v j) (hq : Q (ox P o v g).1 (ox P o v g).2) : vc_X4_obey Q ο g o := by
  have hgo := h.go
  have hP := hgo.1.hP
  obtain ⟨T, C, hT, eT, hC, eC, _⟩ := h.tc
  unfold ox at hq
  rcases nof_v ho with rfl | rfl | rfl | rfl | rfl | rfl
  · rw [if_pos rfl, ← hv 0 (by decide), ← hv 1 (by decide), eC, nI_clamp (by omega)] at hq
    exact br_t rfl (s_buy hP hgo.1.pl hC eC hgo.1.pt hq)
  · rw [if_neg (by decide), if_pos rfl, ← hv 0 (by decide), ← hv 1 (by decide)] at hq
    exact br_f (by decide) (br_t rfl (s_contract hC eC hq))
  · rw [if_neg (by decide), if_neg (by decide), if_pos rfl, ← hv 0 (by decide), ← hv 1 (by decide)] at hq
    exact br_f (by decide) (br_f (by decide) (br_t rfl (s_home hP hgo.1.pl hgo.1.pt hq)))
  · rw [if_neg (by decide), if_neg (by decide), if_neg (by decide), if_pos rfl, ← hv 0 (by decide), ← hv 1 (by decide), ← hv 2 (by decide), ← hv 3 (by decide)] at hq
    exact br_f (by decide) (br_f (by decide) (br_f (by decide) (br_t rfl (s_task hT eT hq))))
  · rw [if_neg (by decide), if_neg (by decide), if_neg (by decide), if_neg (by decide), if_pos rfl, ← hv 0 (by decide), ← hv 1 (by decide), ← hv 2 (by decide)] at hq
    exact br_f (by decide) (br_f (by decide) (br_f (by decide) (br_f (by decide) (br_t rfl (s_put hP hgo.1.pl hT eT hgo.1.pt hq)))))
  · rw [if_neg (by decide), if_neg (by decide), if_neg (by decide), if_neg (by decide), if_neg (by decide), ← hv 0 (by decide)] at hq
    exact br_f (by decide) (br_f (by decide) (br_f (by decide) (br_f (by decide) (br_f (by decide) (s_pass hgo.1 hq)))))
theorem r_calls {Q : Int32 → Mem → Prop} {P B n : Nat} {o : Int32} {v : Nat → Int32} {g ρ : Mem} (h : OKg P B g) (hB : B ≤ 1000000000) (hr : RR P g ρ) (hn : n ≤ 4) (e : ρ 0 4 = nI n) (e15 : ρ 0 15 = o) (ho : nof o ≠ 0) (hv : ∀ j, j < nof o → ρ 7 j = v j) (hq : Rq Q P (ox P o v g) ρ n) : vc_X8_calls Q ρ := by
  have hgo := h.go
  have hP := hgo.1.hP
  obtain ⟨T, C, hT, eT, hC, eC, h17⟩ := h.tc
  unfold ox at hq
  unfold vc_X8_calls
  rw [e15]
  rcases nof_v ho with rfl | rfl | rfl | rfl | rfl | rfl
  · rw [if_pos rfl, ← hv 0 (by decide), ← hv 1 (by decide), eC, nI_clamp (by omega)] at hq
    exact br_t rfl (r_buy hr hC eC hn e (h.by hB hC) hq)
  · rw [if_neg (by decide), if_pos rfl, ← hv 0 (by decide), ← hv 1 (by decide)] at hq
    exact br_f (by decide) (br_t rfl (r_contract hr hC eC hn e hq))
  · rw [if_neg (by decide), if_neg (by decide), if_pos rfl, ← hv 0 (by decide), ← hv 1 (by decide)] at hq
    exact br_f (by decide) (br_f (by decide) (br_t rfl (r_home hr hgo.1.gs h.ho hn e hq)))
  · rw [if_neg (by decide), if_neg (by decide), if_neg (by decide), if_pos rfl, ← hv 0 (by decide), ← hv 1 (by decide), ← hv 2 (by decide), ← hv 3 (by decide)] at hq
    exact br_f (by decide) (br_f (by decide) (br_f (by decide) (br_t rfl (r_task hr hT eT h17 hn e hq))))
  · rw [if_neg (by decide), if_neg (by decide), if_neg (by decide), if_neg (by decide), if_pos rfl, ← hv 0 (by decide), ← hv 1 (by decide), ← hv 2 (by decide)] at hq
    exact br_f (by decide) (br_f (by decide) (br_f (by decide) (br_f (by decide) (br_t rfl (r_put hr hgo.2.2 hT eT hn e h.lf hq)))))
  · rw [if_neg (by decide), if_neg (by decide), if_neg (by decide), if_neg (by decide), if_neg (by decide), ← hv 0 (by decide)] at hq
    exact br_f (by decide) (br_f (by decide) (br_f (by decide) (br_f (by decide) (br_f (by decide) (r_pass hr hgo hn e h.ad hq)))))
theorem k_ox {P B : Nat} {o : Int32} {v : Nat → Int32} {g : Mem} (h : OKg P B g) (hn : ¬ (ox P o v g).1 < 0) : OKg P (B + 7200) (ox P o v g).2 := by
  obtain ⟨T, C, hT, eT, hC, eC, h17⟩ := h.tc
  unfold ox at hn ⊢
  by_cases c1 : o = 98
  · rw [if_pos c1] at hn ⊢
    rw [eC, nI_clamp (by omega)] at hn ⊢
    exact k_buy h eC hC hn
  rw [if_neg c1] at hn ⊢
  by_cases c2 : o = 99
  · rw [if_pos c2] at hn ⊢; exact k_contract h hn
  rw [if_neg c2] at hn ⊢
  by_cases c3 : o = 104
  · rw [if_pos c3] at hn ⊢; exact k_home h hn
  rw [if_neg c3] at hn ⊢
  by_cases c4 : o = 116
  · rw [if_pos c4] at hn ⊢; exact k_task h hn
  rw [if_neg c4] at hn ⊢
  by_cases c5 : o = 119
  · rw [if_pos c5] at hn ⊢; exact k_put h hn
  rw [if_neg c5] at hn ⊢
  exact k_pass h hn
theorem rmv0 (g : Mem) (x v : Int32) (p q C i : Nat) : rmv (up (pay g p x) 3 q v) C i 0 6 = g 0 6 := by
  rw [rmv_3 _ _ _ (by omega) (by omega) (by omega), up_n _ _ _ (by omega), pay_n _ _ _ (by omega)]
theorem d_ox {P : Nat} {o : Int32} {v : Nat → Int32} {g : Mem} (h : GO P g) : (ox P o v g).2 0 6 = 0 := by
  have h0 := h.1.d0
  unfold ox
  split
  · unfold o_buy
    split
    · split
      · split
        · exact (rmv0 g _ _ _ _ _ _).trans h0
        · exact h0
      · exact h0
    · exact h0
  · split
    · unfold o_contract
      split
      · split
        · split
          · exact h0
          · exact h0
        · exact h0
      · exact h0
    · split
      · unfold o_home
        split
        · split
          · split
            · exact h0
            · exact h0
          · exact h0
        · exact h0
      · split
        · unfold o_task
          split
          · split
            · split
              · split
                · split
                  · exact h0
                  · exact h0
                · exact h0
              · exact h0
            · exact h0
          · exact h0
        · split
          · unfold o_put
            split
            · split
              · split
                · exact h0
                · exact h0
              · exact h0
            · exact h0
          · unfold o_pass
            split
            · split
              · exact (GO.advs _ g h).1.d0
              · exact h0
            · exact h0
/-- a text played: all done or not, the place, reason and cause of its fault, how many orders were done, the game -/
def run (c : Nat → Int32) (l P : Nat) : Nat → Nat → Nat → Mem → Int32 × Nat × Int32 × Int32 × Nat × Mem
  | 0, s, d, g => (1, s, 0, 0, d, g)
  | k + 1, s, d, g => if l ≤ s then (1, s, 0, 0, d, g) else if (prs c l s).1 = true then (if (ox P (c s) (pn c l (nof (c s)) (s + 1)) g).1 < 0 then (0, s, 2, (ox P (c s) (pn c l (nof (c s)) (s + 1)) g).1, d, g) else run c l P k (prs c l s).2 (d + 1) (ox P (c s) (pn c l (nof (c s)) (s + 1)) g).2) else (0, s, 1, nI ((prs c l s).2 - s), d, g)
theorem prs_nof {c : Nat → Int32} {l s : Nat} (h : (prs c l s).1 = true) : nof (c s) ≠ 0 ∧ s < (prs c l s).2 ∧ (s < l → (prs c l s).2 ≤ l) := by
  unfold prs at h ⊢
  by_cases z : nof (c s) = 0
  · rw [if_pos z] at h; exact absurd (show false = true from h) (by decide)
  · rw [if_neg z]
    obtain ⟨a, b⟩ := ps_ge c l (nof (c s)) (s + 1)
    exact ⟨z, by omega, fun q => b (by omega)⟩
theorem prs_ge (c : Nat → Int32) (l s : Nat) : s ≤ (prs c l s).2 ∧ (s < l → (prs c l s).2 ≤ l) := by
  unfold prs
  by_cases z : nof (c s) = 0
  · rw [if_pos z]; exact ⟨Nat.le_refl _, fun q => Nat.le_of_lt q⟩
  · rw [if_neg z]
    obtain ⟨a, b⟩ := ps_ge c l (nof (c s)) (s + 1)
    exact ⟨by omega, fun q => b (by omega)⟩
theorem s_obeyLoop {Q : Int32 → Mem → Mem → Prop} {P B l : Nat} {c : Nat → Int32} (hl : l ≤ 60) : ∀ k s d g ο f, l ≤ s + k → k + 1 ≤ f → d ≤ s → s ≤ l → OKg P (B + 7200 * d) g → ο 1 = c → ο 0 0 = nI l → ο 0 5 = nI s → ο 0 1 = nI d → (∀ ο' g', ο' 1 = c → ο' 0 0 = nI l → ((run c l P k s d g).1 = 1 → ο' 0 1 = nI (run c l P k s d g).2.2.2.2.1 ∧ g' = (run c l P k s d g).2.2.2.2.2 ∧ OKg P (B + 432000) g') → ((run c l P k s d g).1 = 0 → ο' 0 2 = nI (run c l P k s d g).2.1 ∧ ο' 0 3 = (run c l P k s d g).2.2.1 ∧ ο' 0 4 = (run c l P k s d g).2.2.2.1 ∧ g' 0 6 = 0) → Q (run c l P k s d g).1 ο' g') → vl_X4_obeyAll Q f 0 ο g := by
  intro k
  induction k with
  | zero =>
    intro s d g ο f hk hf hd hs h e1 e0 e5 e01 hq
    obtain ⟨f, rfl⟩ : ∃ f', f = f' + 1 := ⟨f - 1, by omega⟩
    show vb_X4_obeyAll_10 Q (vl_X4_obeyAll Q f) ο g
    unfold vb_X4_obeyAll_10
    rw [e0, e5]
    exact br_t (gec (by omega) (by omega)) (hq ο g e1 e0 (fun _ => ⟨e01, rfl, h.mono (by omega)⟩) (fun q => absurd (show (1 : Int32) = 0 from q) (by decide)))
  | succ k ih =>
    intro s d g ο f hk hf hd hs h e1 e0 e5 e01 hq
    obtain ⟨f, rfl⟩ : ∃ f', f = f' + 1 := ⟨f - 1, by omega⟩
    have er : run c l P (k + 1) s d g = if l ≤ s then (1, s, 0, 0, d, g) else if (prs c l s).1 = true then (if (ox P (c s) (pn c l (nof (c s)) (s + 1)) g).1 < 0 then (0, s, 2, (ox P (c s) (pn c l (nof (c s)) (s + 1)) g).1, d, g) else run c l P k (prs c l s).2 (d + 1) (ox P (c s) (pn c l (nof (c s)) (s + 1)) g).2) else (0, s, 1, nI ((prs c l s).2 - s), d, g) := rfl
    show vb_X4_obeyAll_10 Q (vl_X4_obeyAll Q f) ο g
    unfold vb_X4_obeyAll_10
    rw [e0, e5, e01]
    by_cases c1 : l ≤ s
    · rw [if_pos c1] at er
      rw [er] at hq
      exact br_t (gec c1 (by omega)) (hq ο g e1 e0 (fun _ => ⟨e01, rfl, h.mono (by omega)⟩) (fun q => absurd (show (1 : Int32) = 0 from q) (by decide)))
    · rw [if_neg c1] at er
      refine br_f (ltc (by omega) (by omega)) (br_f (ltc (a := d) (b := 60) (by omega) (by omega)) (nm_e ?_))
      have hge := prs_ge c l s
      refine s_readOrder (c := c) (l := l) (s := s) hl (by omega) (by rw [up_n _ _ _ (by omega)]; exact e1) (by rw [up_nn _ (by omega)]; exact e0) (by rw [up_nn _ (by omega)]; exact e5) (fun ο' ko k5 kn => ?_)
      have o1 : ο' 1 = c := by rw [ko.1, up_n _ _ _ (by omega)]; exact e1
      have o0 : ο' 0 0 = nI l := by rw [ko.2 0 (by omega), up_nn _ (by omega)]; exact e0
      have o01 : ο' 0 1 = nI d := by rw [ko.2 1 (by omega), up_nn _ (by omega)]; exact e01
      have o2 : ο' 0 2 = nI s := by rw [ko.2 2 (by omega), up_at, if_pos ⟨rfl, rfl⟩]
      by_cases c2 : (prs c l s).1 = true
      · rw [if_pos c2] at er ⊢
        obtain ⟨hn, hlt, hle⟩ := prs_nof c2
        refine ⟨fun _ => ?_, fun q => absurd q (by decide)⟩
        rw [o2]
        refine s_signAt hl (by omega) o0 ?_
        rw [if_pos (by omega), o1]
        refine s_obey (v := pn c l (nof (c s)) (s + 1)) h hn (kn c2) ?_
        by_cases c3 : (ox P (c s) (pn c l (nof (c s)) (s + 1)) g).1 < 0
        · rw [if_pos c3] at er
          rw [er] at hq
          refine br_f (fun q => absurd (Int32.lt_of_le_of_lt q c3) (by decide)) (nm_e (nm_e (hq _ _ ?_ ?_ (fun q => absurd (show (0 : Int32) = 1 from q) (by decide)) (fun _ => ⟨?_, ?_, ?_, d_ox h.go⟩))))
          · rw [up_n _ _ _ (by omega), up_n _ _ _ (by omega)]; exact o1
          · rw [up_nn _ (by omega), up_nn _ (by omega)]; exact o0
          · rw [up_nn _ (by omega), up_nn _ (by omega)]; exact o2
          · rw [up_nn _ (by omega), up_at, if_pos ⟨rfl, rfl⟩]
          · rw [up_at, if_pos ⟨rfl, rfl⟩]
        · rw [if_neg c3] at er
          rw [er] at hq
          refine br_t (by grind) (nm_e ?_)
          have hx := k_ox h c3
          rw [show B + 7200 * d + 7200 = B + 7200 * (d + 1) by omega] at hx
          exact ih _ (d + 1) _ _ f (by omega) (by omega) (by omega) (hle (by omega)) hx (by rw [up_n _ _ _ (by omega)]; exact o1) (by rw [up_nn _ (by omega)]; exact o0) (by rw [up_nn _ (by omega)]; exact k5) (by rw [up_at, if_pos ⟨rfl, rfl⟩, o01, nI_1]) hq
      · rw [if_neg c2] at er ⊢
        rw [er] at hq
        refine ⟨fun q => absurd rfl q, fun _ => nm_e (nm_e (hq _ _ ?_ ?_ (fun q => absurd (show (0 : Int32) = 1 from q) (by decide)) (fun _ => ⟨?_, ?_, ?_, h.go.1.d0⟩)))⟩
        · rw [up_n _ _ _ (by omega), up_n _ _ _ (by omega)]; exact o1
        · rw [up_nn _ (by omega), up_nn _ (by omega)]; exact o0
        · rw [up_nn _ (by omega), up_nn _ (by omega)]; exact o2
        · rw [up_nn _ (by omega), up_at, if_pos ⟨rfl, rfl⟩]
        · rw [up_at, if_pos ⟨rfl, rfl⟩, up_nn _ (by omega), up_nn _ (by omega), k5, o2, nI_sub hge.1]
theorem s_obeyAll {Q : Int32 → Mem → Mem → Prop} {P B l : Nat} {c : Nat → Int32} {g ο : Mem} (hl : l ≤ 60) (h : OKg P B g) (e1 : ο 1 = c) (e0 : ο 0 0 = nI l) (hq : ∀ ο' g', ο' 1 = c → ο' 0 0 = nI l → ((run c l P 60 0 0 g).1 = 1 → ο' 0 1 = nI (run c l P 60 0 0 g).2.2.2.2.1 ∧ g' = (run c l P 60 0 0 g).2.2.2.2.2 ∧ OKg P (B + 432000) g') → ((run c l P 60 0 0 g).1 = 0 → ο' 0 2 = nI (run c l P 60 0 0 g).2.1 ∧ ο' 0 3 = (run c l P 60 0 0 g).2.2.1 ∧ ο' 0 4 = (run c l P 60 0 0 g).2.2.2.1 ∧ g' 0 6 = 0) → Q (run c l P 60 0 0 g).1 ο' g') : vc_X4_obeyAll Q ο g :=
  ⟨61, nm_e (nm_e (s_obeyLoop hl 60 0 0 g _ 61 (by omega) (by omega) (Nat.le_refl _) (by omega) h (by rw [up_n _ _ _ (by omega), up_n _ _ _ (by omega)]; exact e1) (by rw [up_nn _ (by omega), up_nn _ (by omega)]; exact e0) (by rw [up_at, if_pos ⟨rfl, rfl⟩]; rfl) (by rw [up_nn _ (by omega), up_at, if_pos ⟨rfl, rfl⟩]; rfl) hq))⟩
/-- what playing leaves alone in the reference -/
def Fp (ρ ρ' : Mem) : Prop := ρ' 2 = ρ 2 ∧ ρ' 3 = ρ 3 ∧ ρ' 5 = ρ 5 ∧ ρ' 0 4 = ρ 0 4 ∧ ρ' 0 7 = ρ 0 7
theorem Fp.tr {a b c : Mem} (h : Fp a b) (h' : Fp b c) : Fp a c := ⟨h'.1.trans h.1, h'.2.1.trans h.2.1, h'.2.2.1.trans h.2.2.1, h'.2.2.2.1.trans h.2.2.2.1, h'.2.2.2.2.trans h.2.2.2.2⟩
theorem fp_0 (ρ : Mem) (f : Nat) (v : Int32) (h4 : f ≠ 4) (h7 : f ≠ 7) : Fp ρ (up ρ 0 f v) := ⟨up_n _ _ _ (by omega), up_n _ _ _ (by omega), up_n _ _ _ (by omega), up_nn _ (by omega), up_nn _ (by omega)⟩
theorem Kr.fp {ρ ρ' : Mem} (h : Kr ρ ρ') : Fp ρ ρ' := ⟨h.1 2 (by omega) (by omega), h.1 3 (by omega) (by omega), h.1 5 (by omega) (by omega), h.2 4 (by omega) (by omega), h.2 7 (by omega) (by omega)⟩
theorem Fr.fp {ρ ρ' : Mem} (h : Fr ρ ρ') : Fp ρ ρ' := ⟨h.1 2 (by omega) (by omega) (by omega), h.1 3 (by omega) (by omega) (by omega), h.1 5 (by omega) (by omega) (by omega), h.2 4 (by omega), h.2 7 (by omega)⟩
theorem TX.fp {c : Nat → Int32} {l : Nat} {ρ ρ' : Mem} (h : TX c l ρ) (k : Fp ρ ρ') : TX c l ρ' := ⟨k.2.2.2.2.trans h.1, fun i hi => by rw [k.2.2.1]; exact h.2 i hi⟩
theorem r_playsLoop {Q : Int32 → Mem → Prop} {P B l n : Nat} {c : Nat → Int32} {ρ0 : Mem} (hl : l ≤ 60) (hn : n ≤ 4) (hB : B + 432000 ≤ 1000000000) (hch : ∀ i, i < l → 32 ≤ c i ∧ c i ≤ 126) : ∀ k s d g ρ f, l ≤ s + k → 3 * k + 1 ≤ f → d ≤ s → s ≤ l → OKg P (B + 7200 * d) g → RR P g ρ → Fp ρ0 ρ → TX c l ρ → ρ 0 4 = nI n → ρ 0 5 = 1 → ρ 0 10 = nI s → ρ 0 14 = nI d → (∀ ρ', Fp ρ0 ρ' → ρ' 0 5 = 0 → ((run c l P k s d g).1 = 1 → RR P (run c l P k s d g).2.2.2.2.2 ρ' ∧ ρ' 0 14 = nI (run c l P k s d g).2.2.2.2.1) → ((run c l P k s d g).1 = 0 → ρ' 0 11 = nI (run c l P k s d g).2.1 ∧ ρ' 0 12 = (run c l P k s d g).2.2.1 ∧ ρ' 0 13 = (run c l P k s d g).2.2.2.1) → Q (run c l P k s d g).1 ρ') → vl_X8_plays Q f 0 ρ 1 0 0 0 := by
  intro k
  induction k with
  | zero =>
    intro s d g ρ f hk hf hd hs h hr fp ht e4 e5 e10 e14 hq
    obtain ⟨f, rfl⟩ : ∃ f', f = f' + 1 := ⟨f - 1, by omega⟩
    show vb_X8_plays_22 Q (vl_X8_plays Q f) ρ 1
    unfold vb_X8_plays_22
    rw [ht.1, e10]
    exact br_t (gec (by omega) (by omega)) (nm_e ⟨by decide, hq _ (fp.tr (fp_0 _ _ _ (by omega) (by omega))) (by rw [up_at, if_pos ⟨rfl, rfl⟩]) (fun _ => ⟨hr.fr (up_n _ _ _ (by omega)), by rw [up_nn _ (by omega)]; exact e14⟩) (fun q => absurd (show (1 : Int32) = 0 from q) (by decide))⟩)
  | succ k ih =>
    intro s d g ρ f hk hf hd hs h hr fp ht e4 e5 e10 e14 hq
    obtain ⟨f, rfl⟩ : ∃ f', f = f' + 4 := ⟨f - 4, by omega⟩
    have er : run c l P (k + 1) s d g = if l ≤ s then (1, s, 0, 0, d, g) else if (prs c l s).1 = true then (if (ox P (c s) (pn c l (nof (c s)) (s + 1)) g).1 < 0 then (0, s, 2, (ox P (c s) (pn c l (nof (c s)) (s + 1)) g).1, d, g) else run c l P k (prs c l s).2 (d + 1) (ox P (c s) (pn c l (nof (c s)) (s + 1)) g).2) else (0, s, 1, nI ((prs c l s).2 - s), d, g) := rfl
    show vb_X8_plays_22 Q (vl_X8_plays Q (f + 3)) ρ 1
    unfold vb_X8_plays_22
    rw [ht.1, e10]
    by_cases c1 : l ≤ s
    · rw [if_pos c1] at er
      rw [er] at hq
      exact br_t (gec c1 (by omega)) (nm_e ⟨by decide, hq _ (fp.tr (fp_0 _ _ _ (by omega) (by omega))) (by rw [up_at, if_pos ⟨rfl, rfl⟩]) (fun _ => ⟨hr.fr (up_n _ _ _ (by omega)), by rw [up_nn _ (by omega)]; exact e14⟩) (fun q => absurd (show (1 : Int32) = 0 from q) (by decide))⟩)
    · rw [if_neg c1] at er
      have hge := prs_ge c l s
      -- how a fault ends the loop
      have stop : ∀ ρ', Fp ρ0 ρ' → TX c l ρ' → ((run c l P (k + 1) s d g).1 = 0 ∧ ρ' 0 11 = nI (run c l P (k + 1) s d g).2.1 ∧ ρ' 0 12 = (run c l P (k + 1) s d g).2.2.1 ∧ ρ' 0 13 = (run c l P (k + 1) s d g).2.2.2.1) → vl_X8_plays Q (f + 1) 0 ρ' 0 0 0 0 := by
        intro ρ' fp' ht' ⟨h0, h1, h2, h3⟩
        show vb_X8_plays_22 Q (vl_X8_plays Q f) ρ' 0
        unfold vb_X8_plays_22
        have fin : ∀ ρ6 : Mem, ρ6 = up ρ' 0 5 0 → (narrow .boolean (.int 0) = .int 0 ∧ Q 0 ρ6) := by
          rintro _ rfl
          refine ⟨by decide, ?_⟩
          have := hq _ (fp'.tr (fp_0 ρ' 5 0 (by omega) (by omega))) (by rw [up_at, if_pos ⟨rfl, rfl⟩]) (fun q => absurd (h0.symm.trans q) (by decide)) (fun _ => ⟨by rw [up_nn _ (by omega)]; exact h1, by rw [up_nn _ (by omega)]; exact h2, by rw [up_nn _ (by omega)]; exact h3⟩)
          rw [h0] at this
          exact this
        exact ⟨fun _ => fin, fun _ => ⟨fun _ => fin, fun q => absurd rfl q⟩⟩
      refine br_f (ltc (by omega) (by omega)) ⟨fun q => absurd q (by decide), fun _ => nm_e ?_⟩
      have f11 := fp_0 ρ 11 (nI s) (by omega) (by omega)
      refine r_reads (c := c) (l := l) (s := s) hl (by omega) (ht.fp f11) hch (by rw [up_nn _ (by omega)]; exact e10) (fun ρ1 kr k10 kn => ?_)
      have fp1 : Fp ρ0 ρ1 := fp.tr (f11.tr kr.fp)
      have ht1 : TX c l ρ1 := (ht.fp f11).kr kr
      have a4 : ρ1 0 4 = nI n := by rw [kr.2 4 (by omega) (by omega), up_nn _ (by omega)]; exact e4
      have a5 : ρ1 0 5 = 1 := by rw [kr.2 5 (by omega) (by omega), up_nn _ (by omega)]; exact e5
      have a11 : ρ1 0 11 = nI s := by rw [kr.2 11 (by omega) (by omega), up_at, if_pos ⟨rfl, rfl⟩]
      have a14 : ρ1 0 14 = nI d := by rw [kr.2 14 (by omega) (by omega), up_nn _ (by omega)]; exact e14
      have hr1 : RR P g ρ1 := hr.fr (by rw [kr.1 1 (by omega) (by omega), up_n _ _ _ (by omega)])
      by_cases c2 : (prs c l s).1 = true
      · rw [if_pos c2] at er ⊢
        obtain ⟨hno, hlt, hle⟩ := prs_nof c2
        obtain ⟨k15, kn⟩ := kn c2
        refine ⟨fun q => absurd q (by decide), fun _ => ?_⟩
        have ez : chz ρ1 n = ρ1 := by unfold chz; rw [if_neg (by rw [a5]; decide)]
        refine r_calls (v := pn c l (nof (c s)) (s + 1)) h (by omega) hr1 hn a4 k15 hno kn ⟨fun c3 => ?_, fun c3 ρ2 R2 fr2 => ?_⟩
        · rw [if_pos c3] at er
          show vb_X8_plays_62 Q (vl_X8_plays Q (f + 2)) ρ1 1 _
          refine ⟨fun q => absurd q (by decide), fun _ => br_t c3 ⟨fun q => absurd q (by decide), fun _ => ?_⟩⟩
          show vb_X8_plays_87 Q (vl_X8_plays Q (f + 1)) ρ1 0 1 _ 2
          refine nm_e ⟨fun q => absurd q (by decide), fun _ => nm_e (nm_e (stop _ ?_ ?_ ?_))⟩
          · exact fp1.tr ((fp_0 _ _ _ (by omega) (by omega)).tr ((fp_0 _ _ _ (by omega) (by omega)).tr (fp_0 _ _ _ (by omega) (by omega))))
          · exact ht1.fp ((fp_0 _ _ _ (by omega) (by omega)).tr ((fp_0 _ _ _ (by omega) (by omega)).tr (fp_0 _ _ _ (by omega) (by omega))))
          · rw [er]
            refine ⟨rfl, ?_, ?_, ?_⟩
            · rw [up_nn _ (by omega), up_nn _ (by omega), up_nn _ (by omega)]; exact a11
            · rw [up_nn _ (by omega), up_nn _ (by omega), up_at, if_pos ⟨rfl, rfl⟩]
            · rw [up_nn _ (by omega), up_at, if_pos ⟨rfl, rfl⟩]
        · rw [if_neg c3] at er
          rw [er] at hq
          rw [ez] at fr2
          show vb_X8_plays_62 Q (vl_X8_plays Q (f + 2)) ρ2 1 _
          refine ⟨fun q => absurd q (by decide), fun _ => br_f c3 ⟨fun q => absurd q (by decide), fun _ => ?_⟩⟩
          show vb_X8_plays_87 Q (vl_X8_plays Q (f + 1)) ρ2 1 1 _ 2
          refine nm_e ⟨fun q => absurd q (by decide), fun _ => nm_e (nm_e ?_)⟩
          have hx := k_ox h c3
          rw [show B + 7200 * d + 7200 = B + 7200 * (d + 1) by omega] at hx
          have ff : ∀ v1 v2 v3, Fp ρ2 (up (up (up ρ2 0 12 v1) 0 13 v2) 0 14 v3) := fun v1 v2 v3 => (fp_0 _ _ _ (by omega) (by omega)).tr ((fp_0 _ _ _ (by omega) (by omega)).tr (fp_0 _ _ _ (by omega) (by omega)))
          refine ih _ (d + 1) _ _ (f + 1) (by omega) (by omega) (by omega) (hle (by omega)) hx (R2.fr ?_) (fp1.tr (fr2.fp.tr (ff _ _ _))) ((ht1.fp fr2.fp).fp (ff _ _ _)) ?_ ?_ ?_ ?_ hq
          · rw [up_n _ _ _ (by omega), up_n _ _ _ (by omega), up_n _ _ _ (by omega)]
          · rw [up_nn _ (by omega), up_nn _ (by omega), up_nn _ (by omega), fr2.2 4 (by omega)]; exact a4
          · rw [up_nn _ (by omega), up_nn _ (by omega), up_nn _ (by omega), fr2.2 5 (by omega)]; exact a5
          · rw [up_nn _ (by omega), up_nn _ (by omega), up_nn _ (by omega), fr2.2 10 (by omega)]; exact k10
          · rw [up_at, if_pos ⟨rfl, rfl⟩, up_nn _ (by omega), up_nn _ (by omega), fr2.2 14 (by omega), a14, nI_1]
      · rw [if_neg c2] at er ⊢
        refine ⟨fun _ => ?_, fun q => absurd rfl q⟩
        show vb_X8_plays_62 Q (vl_X8_plays Q (f + 2)) ρ1 0 0
        refine ⟨fun _ => ⟨fun _ => ?_, fun q => absurd rfl q⟩, fun q => absurd rfl q⟩
        show vb_X8_plays_87 Q (vl_X8_plays Q (f + 1)) ρ1 0 0 0 1
        refine nm_e ⟨fun _ => nm_e (nm_e (stop _ ?_ ?_ ?_)), fun q => absurd rfl q⟩
        · exact fp1.tr ((fp_0 _ _ _ (by omega) (by omega)).tr ((fp_0 _ _ _ (by omega) (by omega)).tr (fp_0 _ _ _ (by omega) (by omega))))
        · exact ht1.fp ((fp_0 _ _ _ (by omega) (by omega)).tr ((fp_0 _ _ _ (by omega) (by omega)).tr (fp_0 _ _ _ (by omega) (by omega))))
        · rw [er]
          refine ⟨rfl, ?_, ?_, ?_⟩
          · rw [up_nn _ (by omega), up_nn _ (by omega), up_nn _ (by omega)]; exact a11
          · rw [up_nn _ (by omega), up_nn _ (by omega), up_at, if_pos ⟨rfl, rfl⟩]
          · rw [up_nn _ (by omega), up_at, if_pos ⟨rfl, rfl⟩, up_nn _ (by omega), up_nn _ (by omega), k10, a11, nI_sub hge.1]
theorem r_plays {Q : Int32 → Mem → Prop} {P B l n : Nat} {c : Nat → Int32} {g ρ : Mem} (hl : l ≤ 60) (hn : n ≤ 4) (hB : B + 432000 ≤ 1000000000) (hch : ∀ i, i < l → 32 ≤ c i ∧ c i ≤ 126) (h : OKg P B g) (hr : RR P g ρ) (ht : TX c l ρ) (e4 : ρ 0 4 = nI n) (hq : ∀ ρ', Fp ρ ρ' → ρ' 0 5 = 0 → ((run c l P 60 0 0 g).1 = 1 → RR P (run c l P 60 0 0 g).2.2.2.2.2 ρ' ∧ ρ' 0 14 = nI (run c l P 60 0 0 g).2.2.2.2.1) → ((run c l P 60 0 0 g).1 = 0 → ρ' 0 11 = nI (run c l P 60 0 0 g).2.1 ∧ ρ' 0 12 = (run c l P 60 0 0 g).2.2.1 ∧ ρ' 0 13 = (run c l P 60 0 0 g).2.2.2.1) → Q (run c l P 60 0 0 g).1 ρ') : vc_X8_plays Q ρ := by
  refine ⟨181, nm_e (nm_e (nm_e (nm_e ?_)))⟩
  have ff : Fp ρ (up (up (up (up ρ 0 5 1) 0 10 0) 0 11 0) 0 14 0) := (fp_0 _ _ _ (by omega) (by omega)).tr ((fp_0 _ _ _ (by omega) (by omega)).tr ((fp_0 _ _ _ (by omega) (by omega)).tr (fp_0 _ _ _ (by omega) (by omega))))
  refine r_playsLoop (ρ0 := ρ) hl hn hB hch 60 0 0 g _ 181 (by omega) (by omega) (Nat.le_refl _) (by omega) h (hr.fr ?_) ff (ht.fp ff) ?_ ?_ ?_ ?_ hq
  · rw [up_n _ _ _ (by omega), up_n _ _ _ (by omega), up_n _ _ _ (by omega), up_n _ _ _ (by omega)]
  · rw [up_nn _ (by omega), up_nn _ (by omega), up_nn _ (by omega), up_nn _ (by omega)]; exact e4
  · rw [up_nn _ (by omega), up_nn _ (by omega), up_nn _ (by omega), up_at, if_pos ⟨rfl, rfl⟩]
  · rw [up_nn _ (by omega), up_nn _ (by omega), up_at, if_pos ⟨rfl, rfl⟩]; rfl
  · rw [up_at, if_pos ⟨rfl, rfl⟩]; rfl
