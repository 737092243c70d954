/-- a game between two calls: what the seconds ask -/
def GO (P : Nat) (g : Mem) : Prop := GI P g ∧ TI P g ∧ AT P g
theorem GO.stp {P : Nat} {g : Mem} (h : GO P g) : GO P (stp g P 1).2 :=
  ⟨h.1.stp (k := 1) (by omega), ti_stp h.1.hP h.1.d0 h.2.1, fun i h1 h2 => by rw [stp_n (by omega)]; exact h.2.2 i h1 h2⟩
theorem GO.advs {P : Nat} : ∀ n g, GO P g → GO P (advs P n g).2
  | 0, _, h => h
  | n + 1, _, h => GO.advs n _ h.stp
theorem wk_dn1 {w : Nat} {g : Mem} (hw : w < 12) (hr : rng (g 6 w) (g 12 0)) : sm (dn1 g w 9) 12 = sm (g 9) 12 + 1 := by
  have : dn1 g w 9 = upd (g 9) w (g 9 w + 1) := by
    unfold dn1
    rw [if_pos hr, eff_n _ _ _ (by omega) (by omega) (by omega) (by omega) (by omega), gain_n _ _ _ (by omega) (by omega)]
    unfold wrk
    rw [up_n _ _ _ (show 9 ≠ 17 by omega), up_s]
  rw [this, sm_inc _ _ hw]
theorem wk_finD {P : Nat} (hP : P ≤ 4) : ∀ n g k, k + n ≤ 12 → DQ P g → TI P g → sm ((finD n g k).2 9) 12 + nI k = sm (g 9) 12 + (finD n g k).1
  | 0, g, k, _, _, _ => rfl
  | n + 1, g, k, hk, hd, ht => by
    unfold finD
    by_cases c : g 0 6 ≤ nI k
    · rw [if_pos c]; rfl
    · have hd' := hd
      obtain ⟨m, em, hm, he⟩ := hd'
      have hkm : k < m := by
        rw [em, nI_leI (by omega) (by omega)] at c
        omega
      obtain ⟨w, hw, ew, e7, hr⟩ := he k hkm
      have dn := dq_dn1 hP hd ht w
      rw [if_neg c, ew, nI_clamp (by omega)]
      have ih := wk_finD hP n (dn1 g w) (k + 1) (by omega) dn.1 dn.2
      rw [wk_dn1 (by omega) hr, ← nI_1] at ih
      grind
theorem wk_stp {P : Nat} {g : Mem} (h : GO P g) : sm ((stp g P 1).2 9) 12 = sm (g 9) 12 + (stp g P 1).1 := by
  have hd := dq_tks (k := 1) h.1.hP (dq_0 h.1.d0) h.2.1 (3 * P) (by have := h.1.hP; omega)
  have := wk_finD h.1.hP 12 (sec (tks g 1 (3 * P)) 1) 0 (by omega) (hd.1.of (sec_n _ _ (by omega)) (sec_n _ _ (by omega)) (sec_n _ _ (by omega)) (sec_n _ _ (by omega)) (by unfold sec; rw [up_at, if_neg (by omega)])) (hd.2.of (sec_n _ _ (by omega)) (sec_n _ _ (by omega)) (sec_n _ _ (by omega)))
  rw [sec_n _ _ (show 9 ≠ 0 by omega), tks_n _ _ (by omega) (by omega) (by omega) (by omega), show nI 0 = 0 from rfl, Int32.add_zero] at this
  exact this
theorem wk_advs {P : Nat} : ∀ n g, GO P g → sm ((advs P n g).2 9) 12 = sm (g 9) 12 + (advs P n g).1
  | 0, g, _ => (Int32.add_zero _).symm
  | n + 1, g, h => by
    show sm ((advs P n (stp g P 1).2).2 9) 12 = sm (g 9) 12 + ((stp g P 1).1 + (advs P n (stp g P 1).2).1)
    rw [wk_advs n _ h.stp, wk_stp h, Int32.add_assoc]
theorem r_go {Q : Mem → Prop} {P : Nat} {g ρ : Mem} (h : RR P g ρ) (hg : GO P g) (hq : ∀ ρ', RR P (stp g P 1).2 ρ' → Fr ρ ρ' → Q ρ') : vc_X8_goes Q ρ :=
  r_goes h hg.1.d0 hg.1.gs hg.2.1 hg.1.pt (fun ρ' a b _ _ => hq ρ' a b)
theorem r_passes {Q : Int32 → Mem → Prop} {P n : Nat} {w2 : Int32} (hn : n ≤ 1000) : ∀ j i g ρ f, i + j = n → j + 1 ≤ f → RR P g ρ → GO P g → (∀ ρ', RR P (advs P j g).2 ρ' → Fr ρ ρ' → Q (sm ((advs P j g).2 9) 12 - w2) ρ') → vl_X8_pass Q f 0 ρ (nI n) w2 (nI i) := by
  intro j
  induction j with
  | zero =>
    intro i g ρ f hij hf h hg hq
    obtain ⟨f, rfl⟩ : ∃ m, f = m + 1 := ⟨f - 1, by omega⟩
    refine br_t (gec (a := i) (b := n) (by omega)) ?_
    rw [show (4 : Int32).toNatClampNeg = 4 from rfl, h.2.2.2.1]
    exact hq ρ h Fr.rfl'
  | succ j ih =>
    intro i g ρ f hij hf h hg hq
    obtain ⟨f, rfl⟩ : ∃ m, f = m + 1 := ⟨f - 1, by omega⟩
    refine br_f (ltc (a := i) (b := n) (by omega)) (r_go h hg (fun ρ1 R1 f1 => nm_e ?_))
    rw [nI_1]
    exact ih (i + 1) _ ρ1 f (by omega) (by omega) R1 hg.stp (fun ρ' a b => hq ρ' a (f1.tr b))
