def o_flip (g : Mem) (x y : Int32) : Rs :=
  if isW g x y then (if g 7 (gl x y) = 0 then (-1000002, g) else ((finD 12 (due1 (fl1 g (gl x y)) (gl x y)) 0).2 7 (gl x y), (finD 12 (due1 (fl1 g (gl x y)) (gl x y)) 0).2)) else (-1000001, g)
theorem s_flip {Q : Int32 → Mem → Prop} {P : Nat} {g : Mem} {x y : Int32} (hg : GI P g) (h : Q (o_flip g x y).1 (o_flip g x y).2) : vc_X1_flipByHand Q g x y := by
  have hP := hg.hP
  unfold o_flip at h
  refine s_hasW hg.pt ?_
  by_cases c : isW g x y
  · rw [if_pos c] at h ⊢
    obtain ⟨p, k, hp', hk, ex, ey, e3, eg⟩ := gl_spec hP hg.pl c
    refine ⟨fun _ => s_gl ?_, fun q => absurd q (by decide)⟩
    rw [e3]
    rw [eg] at h
    have f0 : fl1 g (3 * p + k) 0 6 = 0 := by rw [fl1_n _ _ (by omega) (by omega)]; exact hg.d0
    refine s_isOut (by omega) ?_
    by_cases c3 : g 7 (3 * p + k) = 0
    · rw [if_pos c3] at h ⊢
      exact ⟨fun q => absurd q (by decide), fun _ => h⟩
    · rw [if_neg c3] at h ⊢
      refine ⟨fun _ => s_flipOne (by omega) (s_addIfDue (by omega) (by rw [f0]; exact Int32.le_refl _) (s_finishDue ?_ (dok_due1 (dok_0 f0) (by omega)) ⟨vp_in_nI (by omega) (by omega), ?_⟩)), fun q => absurd rfl q⟩
      · exact hg.pt.of (by rw [due1_n _ _ (by omega) (by omega), fl1_n _ _ (by omega) (by omega)]) (by rw [due1_n _ _ (by omega) (by omega), fl1_n _ _ (by omega) (by omega)]) (by rw [due1_n _ _ (by omega) (by omega), fl1_n _ _ (by omega) (by omega)])
      · rw [nI_clamp (by omega)]
        exact h
  · rw [if_neg c] at h ⊢
    exact ⟨fun q => absurd rfl q, fun _ => h⟩
/-- n contracts, from the i-th on, moved down by one -/
def rms (g : Mem) (i : Nat) : Nat → Mem
  | 0 => g
  | n + 1 => up (up (rms g i n) 19 (i + n) (rms g i n 19 (i + n + 1))) 20 (i + n) (rms g i n 20 (i + n + 1))
theorem rms_n (g : Mem) (i : Nat) {c : Nat} (h : c ≠ 19) (h2 : c ≠ 20) : ∀ n, rms g i n c = g c
  | 0 => rfl
  | n + 1 => by
    show up (up (rms g i n) 19 _ _) 20 _ _ c = _
    rw [up_n _ _ _ h2, up_n _ _ _ h, rms_n g i h h2 n]
def rmv (g : Mem) (C i : Nat) : Mem := up (rms g i (C - 1 - i)) 18 0 (g 18 0 - 1)
theorem s_remove {Q : Mem → Prop} {C i : Nat} {g : Mem} (hC : C ≤ 6) (e : g 18 0 = nI C) (hi : i < C) (h : Q (rmv g C i)) : vc_X0_remove Q g (nI i) := by
  have st : ∀ j n, i + n + j = C - 1 → vl_X0_remove Q (j + 1) 0 (rms g i n) (nI (i + n)) := by
    intro j
    induction j with
    | zero =>
      intro n hn
      have e18 : rms g i n 18 0 = nI C := by rw [rms_n _ _ (by omega) (by omega)]; exact e
      have h' := h
      unfold rmv at h'
      rw [show C - 1 - i = n by omega, e] at h'
      refine br_t ?_ (nm_e ?_)
      · rw [e18, show nI C - 1 = nI (C - 1) from by rw [show (1 : Int32) = nI 1 from rfl, nI_sub (by omega)]]
        exact gec (a := i + n) (b := C - 1) (by omega)
      · rw [e18]; exact h'
    | succ j ih =>
      intro n hn
      have e18 : rms g i n 18 0 = nI C := by rw [rms_n _ _ (by omega) (by omega)]; exact e
      refine br_f ?_ (br_f (ltc (a := i + n) (b := 5) (by omega)) ?_)
      · rw [e18, show nI C - 1 = nI (C - 1) from by rw [show (1 : Int32) = nI 1 from rfl, nI_sub (by omega)]]
        exact ltc (a := i + n) (b := C - 1) (by omega)
      · rw [nI_1, nI_clamp (by omega), nI_clamp (by omega)]
        refine ⟨vp_in_nI (by omega) (by omega), vp_in_nI (by omega) (by omega), nm_e (nm_e (nm_e ?_))⟩
        rw [up_n _ _ _ (show 20 ≠ 19 by omega)]
        exact ih (n + 1) (by omega)
  exact ⟨_, st (C - 1 - i) 0 (by omega)⟩
def o_buy (C : Nat) (g : Mem) (x y : Int32) : Rs :=
  if rng x (g 1 0) then (if rng y (g 18 0) then (if hv g x.toNatClampNeg (g 19 y.toNatClampNeg) then
    (rmv (up (pay g x.toNatClampNeg (g 19 y.toNatClampNeg)) 3 x.toNatClampNeg (g 3 x.toNatClampNeg + g 20 y.toNatClampNeg)) C y.toNatClampNeg 3 x.toNatClampNeg, rmv (up (pay g x.toNatClampNeg (g 19 y.toNatClampNeg)) 3 x.toNatClampNeg (g 3 x.toNatClampNeg + g 20 y.toNatClampNeg)) C y.toNatClampNeg) else (-1000002, g)) else (-1000001, g)) else (-1000001, g)
theorem s_buy {Q : Int32 → Mem → Prop} {P C : Nat} {g : Mem} {x y : Int32} (hP : P ≤ 4) (e : g 1 0 = nI P) (hC : C ≤ 6) (eC : g 18 0 = nI C) (hp : PT g) (h : Q (o_buy C g x y).1 (o_buy C g x y).2) : vc_X1_buyContract Q g x y := by
  unfold o_buy at h
  refine s_hasPlayer hp ?_
  by_cases c : rng x (g 1 0)
  · rw [if_pos c] at h ⊢
    rw [e] at c
    obtain ⟨p, hp', ex⟩ := rng_nat (by omega) c
    refine ⟨fun q => absurd q (by decide), fun _ => s_hasContract hp ?_⟩
    by_cases c2 : rng y (g 18 0)
    · rw [if_pos c2] at h ⊢
      rw [eC] at c2
      obtain ⟨t, ht, et⟩ := rng_nat (by omega) c2
      rw [ex, et, nI_clamp (by omega), nI_clamp (by omega)] at h
      rw [ex, et]
      refine ⟨fun _ => ⟨vp_in_nI (by omega) (by omega), nm_e ?_⟩, fun q => absurd q (by decide)⟩
      rw [nI_clamp (n := t) (by omega)]
      refine s_have (by omega) ?_
      by_cases c3 : hv g p (g 19 t)
      · rw [if_pos c3] at h ⊢
        refine ⟨fun _ => s_pay (by omega) ⟨vp_in_nI (by omega) (by omega), nm_e ?_⟩, fun q => absurd q (by decide)⟩
        rw [nI_clamp (n := p) (by omega), pay_n _ _ _ (show 3 ≠ 2 by omega), pay_n _ _ _ (show 20 ≠ 2 by omega)]
        exact s_remove hC (by rw [up_n _ _ _ (show 18 ≠ 3 by omega), pay_n _ _ _ (show 18 ≠ 2 by omega)]; exact eC) ht h
      · rw [if_neg c3] at h ⊢
        exact ⟨fun q => absurd rfl q, fun _ => h⟩
    · rw [if_neg c2] at h ⊢
      exact ⟨fun q => absurd rfl q, fun _ => h⟩
  · rw [if_neg c] at h ⊢
    exact ⟨fun _ => h, fun q => absurd rfl q⟩
