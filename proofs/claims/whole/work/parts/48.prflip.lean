theorem z_fst1 {g : Mem} {w i : Nat} (h : g 7 w = 0) : fst1 g i 7 w = 0 := by
  unfold fst1
  split
  · exact h
  · next c =>
    rw [due1_n _ _ (by omega) (by omega), fl1_7, pk_un (fun q => c (by rw [← q, h]; exact Int32.le_refl _))]
    exact h
theorem z_fsts {g : Mem} {w : Nat} (h : g 7 w = 0) : ∀ n, fsts g n 7 w = 0
  | 0 => h
  | n + 1 => z_fst1 (z_fsts h n)
theorem z_dn1 {g : Mem} {w : Nat} (i : Nat) (h : g 7 w = 0) : dn1 g i 7 w = 0 := by
  unfold dn1
  split
  · have hg : gain (wrk g i (g 6 i).toNatClampNeg) (i / 3) (g 15 (g 6 i).toNatClampNeg) 7 w = 0 := by
      rw [gain_n _ _ _ (by omega) (by omega)]; exact h
    unfold eff
    split
    · exact z_fsts hg 12
    · split
      · exact hg
      · exact hg
  · exact h
theorem z_finD {w : Nat} : ∀ n g k, g 7 w = 0 → (finD n g k).2 7 w = 0
  | 0, _, _, h => h
  | n + 1, g, k, h => by
    unfold finD
    split
    · exact h
    · exact z_finD n _ _ (z_dn1 _ h)
theorem flip_above {g : Mem} {w : Nat} (h0 : g 0 6 = 0) : (finD 12 (due1 (fl1 g w) w) 0).2 7 w = due1 (fl1 g w) w 7 w := by
  have e : due1 (fl1 g w) w 7 w = fl1 g w 7 w := by rw [due1_n _ _ (by omega) (by omega)]
  by_cases c : fl1 g w 7 w = 0
  · rw [e, c]
    exact z_finD _ _ _ (e.trans c)
  · rw [due1_ne c, finD_0 (by rw [fl1_n _ _ (by omega) (by omega)]; exact h0)]
theorem r_flip {Q : Int32 → Mem → Prop} {P n : Nat} {g ρ : Mem} {x y : Int32} (h : RR P g ρ) (hg : GO P g) (hn : n ≤ 4) (e : ρ 0 4 = nI n) (hpos : ∀ w, w < 12 → ¬ due1 (fl1 g w) w 7 w < 0) (hq : Rq Q P (o_flip g x y) ρ n) : vc_X8_flip Q ρ x y := by
  have hP := h.1
  unfold o_flip at hq
  refine r_isW h ?_
  by_cases c : isW g x y
  · rw [if_pos c] at hq ⊢
    obtain ⟨p, k, hp', hk, ex, ey, e3, eg⟩ := gl_spec hP h.2.1 c
    refine ⟨fun _ => nm_e ?_, fun q => absurd q (by decide)⟩
    rw [e3]
    rw [eg] at hq
    refine r_of 2 (by omega) (by omega) ?_
    rw [h.r 7 (3 * p + k) (j := 28 + 7 * (3 * p + k) + 2) (by simp [liv]; omega) rfl]
    by_cases c3 : g 7 (3 * p + k) = 0
    · rw [if_pos c3] at hq
      exact ⟨fun q => absurd c3 q, fun _ => hq.err (by decide)⟩
    · rw [if_neg c3, flip_above hg.1.d0] at hq
      refine ⟨fun _ => r_chz hn e (nm_e ?_), fun q => absurd q c3⟩
      have R0 : RR P g (up (chz ρ n) 0 9 0) := (h.chz n).fr (up_n _ _ _ (by omega))
      have Q0 : RQ P g (up (chz ρ n) 0 9 0) := ⟨R0, by rw [up_at, if_pos ⟨rfl, rfl⟩, hg.1.d0], fun m hm em j hj => by
        rw [hg.1.d0] at em
        have q := nI_clamp (n := m) (by omega)
        rw [← em] at q
        have : m = 0 := q.symm.trans rfl
        omega⟩
      have hd := dq_0 (P := P) hg.1.d0
      have dst := dq_step (g' := fl1 g (3 * p + k)) hP (by omega) hd hg.2.1 c3 (fl1_7 g _) (fl1_n _ _ (by omega) (by omega)) (fl1_n _ _ (by omega) (by omega)) (fl1_n _ _ (by omega) (by omega)) (by rw [fl1_n _ _ (by omega) (by omega)])
      refine r_flips Q0 hd hg.2.1 (by omega) c3 (fun ρ1 h1 f1 => r_of 2 (by omega) (by omega) ?_)
      rw [h1.1.r 7 (3 * p + k) (j := 28 + 7 * (3 * p + k) + 2) (by simp [liv]; omega) rfl]
      have hpt : PT (due1 (fl1 g (3 * p + k)) (3 * p + k)) := hg.1.pt.of (by rw [due1_n _ _ (by omega) (by omega), fl1_n _ _ (by omega) (by omega)]) (by rw [due1_n _ _ (by omega) (by omega), fl1_n _ _ (by omega) (by omega)]) (by rw [due1_n _ _ (by omega) (by omega), fl1_n _ _ (by omega) (by omega)])
      refine r_works h1 dst.1 dst.2.1 hpt (fun ρ' g' q1 q2 q3 q4 fr => hq.2 (hpos _ (by omega)) ρ' ?_ ((fr_9 _ _).tr (f1.tr fr)))
      show RR P (finD 12 (due1 (fl1 g (3 * p + k)) (3 * p + k)) 0).2 ρ'
      rw [q3]
      refine q2.1.of (fun c f hl => ?_) (up_n _ _ _ (by omega)) (up_n _ _ _ (by omega))
      rw [up_at, if_neg (fun q => by rw [q.1, q.2] at hl; simp [liv] at hl)]
  · rw [if_neg c] at hq ⊢
    exact ⟨fun q => absurd rfl q, fun _ => hq.err (by decide)⟩
