theorem finD_n {c : Nat} (h : c = 12 ∨ c = 18 ∨ c = 5 ∨ c = 6 ∨ c = 8 ∨ c = 10 ∨ c = 4 ∨ c = 13 ∨ c = 14 ∨ c = 15 ∨ c = 16 ∨ c = 19 ∨ c = 20) : ∀ n γ k, (finD n γ k).2 c = γ c
  | 0, γ, k => up_n _ _ _ (by omega)
  | n + 1, γ, k => by
    unfold finD
    split
    · exact up_n _ _ _ (by omega)
    · rw [finD_n h n, dn1_n _ _ h]
theorem finD_10 : ∀ n γ k, (finD n γ k).2 1 0 = γ 1 0
  | 0, γ, k => rfl
  | n + 1, γ, k => by
    unfold finD
    split
    · rfl
    · rw [finD_10 n, dn1_10]
theorem finD_0f {f : Nat} (h : f ≠ 6) : ∀ n γ k, (finD n γ k).2 0 f = γ 0 f
  | 0, γ, k => by show up γ 0 6 0 0 f = _; rw [up_at, if_neg (by omega)]
  | n + 1, γ, k => by
    unfold finD
    split
    · show up γ 0 6 0 0 f = _; rw [up_at, if_neg (by omega)]
    · rw [finD_0f h n, dn1_0 _ _ h]
theorem sec_n (γ : Mem) (k : Int32) {c : Nat} (h : c ≠ 0) : sec γ k c = γ c := up_n _ _ _ h
theorem stp_n {γ : Mem} {P : Nat} {k : Int32} {c : Nat} (h : c = 12 ∨ c = 18 ∨ c = 5 ∨ c = 6 ∨ c = 8 ∨ c = 4 ∨ c = 13 ∨ c = 14 ∨ c = 15 ∨ c = 16 ∨ c = 19 ∨ c = 20) : (stp γ P k).2 c = γ c := by
  unfold stp
  rw [finD_n (by omega), sec_n _ _ (by omega), tks_n _ _ (by omega) (by omega) (by omega) (by omega)]
theorem stp_10 {γ : Mem} {P : Nat} {k : Int32} : (stp γ P k).2 1 0 = γ 1 0 := by
  unfold stp
  rw [finD_10, sec_n _ _ (by omega), tks_n _ _ (by omega) (by omega) (by omega) (by omega)]
theorem stp_00 {γ : Mem} {P : Nat} {k : Int32} : (stp γ P k).2 0 0 = γ 0 0 + k := by
  unfold stp
  rw [finD_0f (by omega)]
  unfold sec
  rw [up_at, if_pos ⟨rfl, rfl⟩, tks_0 _ _ (by omega)]
theorem stp_06 {γ : Mem} {P : Nat} {k : Int32} : (stp γ P k).2 0 6 = 0 := d0_finD _ _ _
theorem pt_stp {γ : Mem} {P : Nat} {k : Int32} (h : PT γ) : PT (stp γ P k).2 := h.of stp_10 (by rw [stp_n (by omega)]) (by rw [stp_n (by omega)])
/-- what every game holds between its calls -/
def GI (P : Nat) (γ : Mem) : Prop := P ≤ 4 ∧ γ 1 0 = nI P ∧ PT γ ∧ γ 0 6 = 0 ∧ GS γ
theorem GI.hP {P : Nat} {γ : Mem} (h : GI P γ) : P ≤ 4 := h.1
theorem GI.pl {P : Nat} {γ : Mem} (h : GI P γ) : γ 1 0 = nI P := h.2.1
theorem GI.pt {P : Nat} {γ : Mem} (h : GI P γ) : PT γ := h.2.2.1
theorem GI.d0 {P : Nat} {γ : Mem} (h : GI P γ) : γ 0 6 = 0 := h.2.2.2.1
theorem GI.gs {P : Nat} {γ : Mem} (h : GI P γ) : GS γ := h.2.2.2.2
theorem GI.stp {P : Nat} {γ : Mem} (h : GI P γ) {k : Nat} (hk : k ≤ 1000000) : GI P (stp γ P (nI k)).2 :=
  ⟨h.hP, stp_10.trans h.pl, pt_stp h.pt, stp_06, gs_stp h.gs h.hP hk⟩
theorem dok_0 {γ : Mem} (h : γ 0 6 = 0) : DOk γ := ⟨0, by omega, h, fun j hj => by omega⟩
theorem s_step {Q : Int32 → Mem → Prop} {P n k g : Nat} {γ : Mem} {w2 w3 : Int32} (h : GI P γ) (hk : k ≤ 1000000) (hf : 3 * P + 1 ≤ g)
    (nx : ∀ f, g ≤ f + 3 * P + 2 → vl_X1_advance Q f 0 (stp γ P (nI k)).2 (nI n) (w2 + (stp γ P (nI k)).1) (w3 + nI k) 0 0) : vl_X1_advance Q (g + 1) 1 γ (nI n) w2 w3 (nI k) 0 := by
  have hP := h.hP
  have st : ∀ j i g, i + j = 3 * P → j + 1 ≤ g → (∀ f, g ≤ f + j + 2 → vl_X1_advance Q f 0 (stp γ P (nI k)).2 (nI n) (w2 + (stp γ P (nI k)).1) (w3 + nI k) 0 0) → vl_X1_advance Q (g + 1) 1 (tks γ (nI k) i) (nI n) w2 w3 (nI k) (nI i) := by
    intro j
    induction j with
    | zero =>
      intro i g hi hg nx
      have e1 : tks γ (nI k) i 1 0 = nI P := by rw [tks_n _ _ (by omega) (by omega) (by omega) (by omega)]; exact h.pl
      have hi' : i = 3 * P := by omega
      subst hi'
      obtain ⟨f, rfl⟩ : ∃ f, g = f + 1 := ⟨g - 1, by omega⟩
      refine br_t (by rw [e1, show (3 : Int32) = nI 3 from rfl, pk_mul]; exact Int32.le_refl _) ?_
      refine nm_e (nm_e ?_)
      have hq : vl_X1_advance Q f 0 (finD 12 (sec (tks γ (nI k) (3 * P)) (nI k)) 0).2 (nI n) (w2 + (finD 12 (sec (tks γ (nI k) (3 * P)) (nI k)) 0).1) (w3 + nI k) 0 0 := nx f (by omega)
      refine s_finishDue (γ := sec (tks γ (nI k) (3 * P)) (nI k)) ?_ ?_ (nm_e hq)
      · exact h.pt.of (by rw [sec_n _ _ (by omega), tks_n _ _ (by omega) (by omega) (by omega) (by omega)]) (by rw [sec_n _ _ (by omega), tks_n _ _ (by omega) (by omega) (by omega) (by omega)]) (by rw [sec_n _ _ (by omega), tks_n _ _ (by omega) (by omega) (by omega) (by omega)])
      · exact (dok_tks (dok_0 h.d0) (nI k) (3 * P) (by omega)).of (by unfold sec; rw [up_at, if_neg (by omega)]) (sec_n _ _ (by omega))
    | succ j ih =>
      intro i g hi hg nx
      have e1 : tks γ (nI k) i 1 0 = nI P := by rw [tks_n _ _ (by omega) (by omega) (by omega) (by omega)]; exact h.pl
      obtain ⟨f, rfl⟩ : ∃ f, g = f + 1 := ⟨g - 1, by omega⟩
      have nx1 := ih (i + 1) f (by omega) (by omega) (fun f' hf' => nx f' (by omega))
      refine br_f (by rw [e1, show (3 : Int32) = nI 3 from rfl, pk_mul]; exact ltc (a := i) (b := 3 * P) (by omega)) (br_f (ltc (a := i) (b := 12) (by omega)) (s_isOut (by omega) ?_))
      have e7 : tks γ (nI k) i 0 6 = tks γ (nI k) i 0 6 := rfl
      by_cases c : tks γ (nI k) i 7 i = 0
      · rw [if_pos c]
        refine ⟨fun q => absurd q (by decide), fun _ => ⟨vp_in_nI (by omega) (by omega), nm_e (nm_e ?_)⟩⟩
        rw [nI_clamp (by omega), nI_1]
        have : tks γ (nI k) (i + 1) = up (tks γ (nI k) i) 10 i (tks γ (nI k) i 10 i + nI k) := if_pos c
        rw [this] at nx1
        exact nx1
      · rw [if_neg c]
        refine ⟨fun _ => ⟨vp_in_nI (by omega) (by omega), nm_e (nm_e ?_)⟩, fun q => absurd rfl q⟩
        rw [nI_clamp (by omega)]
        have : tks γ (nI k) (i + 1) = due1 (up (tks γ (nI k) i) 7 i (if 0 < tks γ (nI k) i 7 i - nI k then tks γ (nI k) i 7 i - nI k else 0)) i := if_neg c
        rw [this] at nx1
        refine s_addIfDue (by omega) ?_ (nm_e (by rw [nI_1]; exact nx1))
        have dk := dok_tks (dok_0 h.d0) (nI k) i (by omega)
        obtain ⟨m, hm, em, _⟩ := dk
        rw [up_at, if_neg (by omega), em]
        exact nI_pos' (by omega)
  exact st (3 * P) 0 g (by omega) hf (fun f hf' => nx f (by omega))
theorem s_advance {Q : Int32 → Mem → Prop} {P n : Nat} {γ : Mem} (h : GI P γ) (hn : n ≤ 1000000) (hq : Q (advs P n γ).1 (advs P n γ).2) : vc_X1_advance Q γ (nI n) := by
  have st : ∀ r d (γ : Mem) (s : Int32) (f : Nat), r + d = n → 16 * r + 1 ≤ f → GI P γ → Q (s + (advs P r γ).1) (advs P r γ).2 → vl_X1_advance Q f 0 γ (nI n) s (nI d) 0 0 := by
    intro r
    induction r using Nat.strongRecOn with
    | ind r ih =>
      intro d γ s f hr hf hi hq
      obtain ⟨f, rfl⟩ : ∃ g, f = g + 1 := ⟨f - 1, by omega⟩
      have hP := hi.hP
      by_cases r0 : r = 0
      · subst r0
        refine br_t (gec (a := d) (b := n) (by omega)) ?_
        have : s + (0 : Int32) = s := Int32.add_zero s
        rw [show (advs P 0 γ).1 = 0 from rfl, this] at hq
        exact hq
      · refine br_f (ltc (a := d) (b := n) (by omega)) ?_
        obtain ⟨u, eu, hu1, hu2, hua, _⟩ := unt_spec hi.gs
        refine s_untilNextOut ?_
        rw [eu, nI_sub (by omega)]
        refine nm_e (nm_e ?_)
        generalize hk : (if u < n - d then u else n - d) = k
        have ek : (if 1 < (if nI u < nI (n - d) then nI u else nI (n - d)) then (if nI u < nI (n - d) then nI u else nI (n - d)) else 1) = nI k := by
          have : (if nI u < nI (n - d) then nI u else nI (n - d)) = nI k := by
            by_cases c : u < n - d
            · rw [if_pos c] at hk
              rw [if_pos (nI_lt c (by omega)), hk]
            · rw [if_neg c] at hk
              rw [if_neg (fun q => absurd (nI_ltI (by omega) (by omega) |>.mp q) c), hk]
          rw [this]
          by_cases c : 1 < k
          · rw [if_pos]; exact nI_lt (a := 1) c (by split at hk <;> omega)
          · have : k = 1 := by split at hk <;> omega
            rw [this]
            rfl
        rw [ek]
        have hk1 : 1 ≤ k ∧ k ≤ u ∧ k ≤ r ∧ k ≤ 1000000 := by split at hk <;> omega
        obtain ⟨f, rfl⟩ : ∃ g, f = g + 1 := ⟨f - 1, by omega⟩
        refine s_step hi hk1.2.2.2 (by omega) (fun f' hf' => ?_)
        have eb : advs P k γ = stp γ P (nI k) := bulk k γ hk1.1 hk1.2.2.2 hi.d0 (fun i hi' => by
          obtain ⟨a, ha, ea, c⟩ := hua i (by omega)
          exact ⟨a, by omega, ea, by omega⟩)
        rw [nI_add]
        refine ih (r - k) (by omega) (d + k) _ _ f' (by omega) (by omega) (hi.stp hk1.2.2.2) ?_
        have ea := advs_add P k (r - k) γ
        rw [show k + (r - k) = r by omega, eb] at ea
        rw [ea] at hq
        rw [Int32.add_assoc]
        exact hq
  refine ⟨16 * n + 1, st n 0 γ 0 _ (by omega) (by omega) h ?_⟩
  rw [Int32.zero_add]
  exact hq
