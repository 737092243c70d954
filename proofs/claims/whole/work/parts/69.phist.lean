/-! the states kept, class and reference; what holds between two calls -/
theorem rel_cg {P : Nat} {g : Mem} {s s' : Nat → Int32} (h : Rel P g s) (e : ∀ j, j < 164 → s' j = s j) : Rel P g s' := by
  refine ⟨fun c f hl => ?_, ?_, ?_, fun p hp => ?_⟩
  · rw [e _ (J_sum hl).1]; exact h.1 c f hl
  · rw [e _ (by omega)]; exact h.2.1
  · rw [e _ (by omega)]; exact h.2.2.1
  · rw [e _ (by omega)]; exact h.2.2.2 p hp
def HI (B n : Nat) (η : Mem) (σ : Nat → Mem) (ρ : Mem) : Prop := n ≤ 4 ∧ η 0 0 = nI n ∧ ρ 0 4 = nI n ∧ (∀ i, i < 4 → σ i 0 6 = 0) ∧ ∀ i, i < n → ∃ P, OKg P B (σ i) ∧ Rel P (σ i) (fun j => ρ 2 (164 * i + j))
def TXT (ο ρ : Mem) : Prop := ∃ l, l ≤ 60 ∧ ο 0 0 = nI l ∧ TX (ο 1) l ρ ∧ ∀ i, i < l → 32 ≤ ο 1 i ∧ ο 1 i ≤ 126
def INV (B : Nat) (γ τ η : Mem) (σ : Nat → Mem) (ο ρ : Mem) : Prop := (∃ P, OKg P B γ ∧ RR P γ ρ) ∧ τ 0 6 = 0 ∧ ρ 0 5 = 0 ∧ (∃ n, HI B n η σ ρ) ∧ TXT ο ρ
theorem HI.mono {B B' n : Nat} {η ρ : Mem} {σ : Nat → Mem} (h : HI B n η σ ρ) (hb : B ≤ B') : HI B' n η σ ρ := by
  obtain ⟨a, b, c, d, e⟩ := h
  refine ⟨a, b, c, d, fun i hi => ?_⟩
  obtain ⟨P, h1, h2⟩ := e i hi
  exact ⟨P, h1.mono hb, h2⟩
theorem INV.kp {B : Nat} {γ τ τ' η ο ρ ρ' : Mem} {σ : Nat → Mem} (h : INV B γ τ η σ ο ρ) (k : KP ρ ρ') (h0 : τ' 0 6 = 0) : INV (B + 432000) γ τ' η σ ο ρ' := by
  obtain ⟨⟨P, a, b⟩, c, d, ⟨n, e⟩, l, f1, f2, f3, f4⟩ := h
  obtain ⟨k1, k2, k5, k04, k05, k07⟩ := k
  refine ⟨⟨P, a.mono (by omega), b.1, b.2.1, rel_cg b.2.2 k1⟩, h0, k05.trans d, ⟨n, ?_⟩, l, f1, f2, ⟨k07.trans f3.1, fun i hi => by rw [k5]; exact f3.2 i hi⟩, f4⟩
  obtain ⟨e1, e2, e3, e4, e5⟩ := e.mono (show B ≤ B + 432000 by omega)
  exact ⟨e1, e2, k04.trans e3, e4, by rw [k2]; exact e5⟩
/-- the past with one more state -/
def PS (ρ : Mem) (n : Nat) (ρ' : Mem) : Prop := ρ' 0 4 = nI (if n = 4 then 4 else n + 1) ∧ ∀ i j, i < (if n = 4 then 4 else n + 1) → j < 164 → ρ' 2 (164 * i + j) = if n = 4 then (if i = 3 then ρ 1 j else ρ 2 (164 * (i + 1) + j)) else if i = n then ρ 1 j else ρ 2 (164 * i + j)
theorem ps_chg {ρ ρ1 ρ' : Mem} {n : Nat} (hn : n ≤ 4) (k1 : ∀ j, j < 164 → ρ1 1 j = ρ 1 j) (k2 : ρ1 2 = ρ 2) (e4 : ρ' 0 4 = chg ρ1 n 0 4) (e2 : ρ' 2 = chg ρ1 n 2) : PS ρ n ρ' := by
  refine ⟨e4.trans (chg_4 ρ1 hn), fun i j hi hj => ?_⟩
  rw [e2, chg_past ρ1 hn hi hj, k1 j hj, k2]
theorem s_record {Q : Mem → (Nat → Mem) → Prop} {P B n : Nat} {γ η ρ : Mem} {σ : Nat → Mem} (hi : HI B n η σ ρ) (hg : OKg P B γ) (hr : RR P γ ρ) (hq : ∀ η' σ', (∀ ρ', PS ρ n ρ' → HI B (if n = 4 then 4 else n + 1) η' σ' ρ') → Q η' σ') : vc_X3_record Q η σ γ := by
  obtain ⟨h1, h2, h3, h4, h5⟩ := hi
  unfold vc_X3_record
  by_cases c : n = 4
  · subst c
    refine br_f (by rw [h2]; decide) ?_
    have e : up η 0 0 (η 0 0 - 1) 0 0 = nI 3 := by rw [up_at, if_pos ⟨rfl, rfl⟩, h2]; decide
    unfold vk_rec
    rw [e, nI_clamp (by omega)]
    refine ⟨vp_in_nI (by omega) (by omega), s_copyFrom (fun τ' cp e0 => hq _ _ (fun ρ' ps => ?_))⟩
    have r3 : rotσ σ 3 0 6 = 0 := h4 0 (by omega)
    obtain ⟨p1, p2⟩ := ps
    rw [if_pos rfl] at p1 ⊢
    refine ⟨Nat.le_refl _, by rw [up_at, if_pos ⟨rfl, rfl⟩]; rfl, p1, fun i hi => ?_, fun i hi => ?_⟩
    · unfold va_up
      by_cases q : i = 3
      · rw [if_pos q]; exact e0.trans r3
      · rw [if_neg q]
        unfold rotσ
        rw [if_neg q]
        exact h4 (i + 1) (by omega)
    · unfold va_up
      by_cases q : i = 3
      · rw [if_pos q]
        have RC := hr.cp cp
        refine ⟨P, hg.cp cp (e0.trans r3), rel_cg RC.2.2 (fun j hj => ?_)⟩
        have := p2 i j (by rw [if_pos rfl]; exact hi) hj
        rw [if_pos rfl, if_pos q] at this
        exact this
      · rw [if_neg q]
        have er : rotσ σ i = σ (i + 1) := by unfold rotσ; rw [if_neg q]
        rw [er]
        obtain ⟨P', a, b⟩ := h5 (i + 1) (by omega)
        refine ⟨P', a, rel_cg b (fun j hj => ?_)⟩
        have := p2 i j (by rw [if_pos rfl]; exact hi) hj
        rw [if_pos rfl, if_neg q] at this
        exact this
  · refine br_t (by rw [h2]; exact nI_lt (a := n) (b := 4) (by omega) (by omega)) ?_
    unfold vk_rec
    rw [h2, nI_clamp (by omega)]
    refine ⟨vp_in_nI (by omega) (by omega), s_copyFrom (fun τ' cp e0 => hq _ _ (fun ρ' ps => ?_))⟩
    obtain ⟨p1, p2⟩ := ps
    rw [if_neg c] at p1 ⊢
    refine ⟨by omega, by rw [up_at, if_pos ⟨rfl, rfl⟩, nI_1], p1, fun i hi => ?_, fun i hi => ?_⟩
    · unfold va_up
      by_cases q : i = n
      · rw [if_pos q]; exact e0.trans (h4 n (by omega))
      · rw [if_neg q]; exact h4 i hi
    · unfold va_up
      by_cases q : i = n
      · rw [if_pos q]
        have RC := hr.cp cp
        refine ⟨P, hg.cp cp (e0.trans (h4 n (by omega))), rel_cg RC.2.2 (fun j hj => ?_)⟩
        have := p2 i j (by rw [if_neg c]; exact hi) hj
        rw [if_neg c, if_pos q] at this
        exact this
      · rw [if_neg q]
        obtain ⟨P', a, b⟩ := h5 i (by omega)
        refine ⟨P', a, rel_cg b (fun j hj => ?_)⟩
        have := p2 i j (by rw [if_neg c]; exact hi) hj
        rw [if_neg c, if_neg q] at this
        exact this
abbrev KQ := Mem → Mem → Mem → (Nat → Mem) → Mem → Mem → Prop
/-- a trial kept: the class's answer r, the reference R -/
theorem keep_mv {K : KQ} {P P' B n : Nat} {ξ γ τ4 η ο ρ : Mem} {σ : Nat → Mem} {r : Int32} (hi : HI B n η σ ρ) (hg : OKg P B γ) (hr : RR P γ ρ) (hx : TXT ο ρ) (h5 : ρ 0 5 = 0) (hτ : τ4 0 6 = 0) (R : (Int32 → Mem → Prop) → Prop) (hR1 : r < 0 → ∀ Q : Int32 → Mem → Prop, Q r ρ → R Q) (hR2 : ¬ r < 0 → OKg P' (B + 7200) τ4 ∧ ∀ Q : Int32 → Mem → Prop, (∀ ρ', RR P' τ4 ρ' → Fr (chz ρ n) ρ' → Q r ρ') → R Q) (hk : ∀ γ' τ' η' σ' ο' ρ', INV (B + 432000) γ' τ' η' σ' ο' ρ' → K γ' τ' η' σ' ο' ρ') :
    vc_X7_keepTrial (fun r5 γ6 η7 σ8 => R (fun r' ρ' => (r5 = r' → K γ6 τ4 η7 σ8 ο ρ') ∧ (¬ r5 = r' → False))) ξ γ τ4 η σ ο r := by
  unfold vc_X7_keepTrial
  have hn := hi.1
  refine ⟨fun c => hR1 c _ (sme rfl (hk _ _ _ _ _ _ ⟨⟨P, hg.mono (by omega), hr⟩, hτ, h5, ⟨n, hi.mono (by omega)⟩, hx⟩)), fun c => s_record hi hg hr (fun η' σ' hH => s_copyFrom (fun γ' cp e0 => ?_))⟩
  obtain ⟨ok, hR2⟩ := hR2 c
  refine hR2 _ (fun ρ' R' fr => sme rfl (hk _ _ _ _ _ _ ?_))
  have ez : chz ρ n = chg ρ n := by unfold chz; rw [if_pos h5]
  rw [ez] at fr
  have f0 : ∀ f, f ≠ 9 → f ≠ 4 → ρ' 0 f = ρ 0 f := fun f h9 h4 => (fr.2 f h9).trans (chg_0 _ _ h4)
  refine ⟨⟨P', (ok.cp cp (e0.trans hg.go.1.d0)).mono (by omega), R'.cp cp⟩, hτ, (f0 5 (by omega) (by omega)).trans h5, ⟨_, (hH ρ' (ps_chg hn (fun _ _ => rfl) rfl (fr.2 4 (by omega)) (fr.1 2 (by omega) (by omega) (by omega)))).mono (by omega)⟩, ?_⟩
  obtain ⟨l, l1, l2, l3, l4⟩ := hx
  refine ⟨l, l1, l2, ⟨(f0 7 (by omega) (by omega)).trans l3.1, fun i hi => ?_⟩, l4⟩
  rw [fr.1 5 (by omega) (by omega) (by omega), chg_c _ _ (by omega) (by omega)]
  exact l3.2 i hi
