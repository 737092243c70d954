theorem dX7_on_0 : decode cX7_on 0 = .ok (.aload_n 0, 1) := by decide +kernel
theorem dX7_on_1 : decode cX7_on 1 = .ok (.getfield 12, 3) := by decide +kernel
theorem dX7_on_4 : decode cX7_on 4 = .ok (.iload_n 1, 1) := by decide +kernel
theorem dX7_on_5 : decode cX7_on 5 = .ok (.invokevirtual 137, 3) := by decide +kernel
theorem dX7_on_8 : decode cX7_on 8 = .ok (.ifCond .eq 7, 3) := by decide +kernel
theorem dX7_on_11 : decode cX7_on 11 = .ok (.iload_n 2, 1) := by decide +kernel
theorem dX7_on_12 : decode cX7_on 12 = .ok (.ifCond .ge 6, 3) := by decide +kernel
theorem dX7_on_15 : decode cX7_on 15 = .ok (.ldc 79, 2) := by decide +kernel
theorem dX7_on_17 : decode cX7_on 17 = .ok (.ireturn, 1) := by decide +kernel
theorem dX7_on_18 : decode cX7_on 18 = .ok (.aload_n 0, 1) := by decide +kernel
theorem dX7_on_19 : decode cX7_on 19 = .ok (.getfield 12, 3) := by decide +kernel
theorem dX7_on_22 : decode cX7_on 22 = .ok (.getfield 90, 3) := by decide +kernel
theorem dX7_on_25 : decode cX7_on 25 = .ok (.iload_n 1, 1) := by decide +kernel
theorem dX7_on_26 : decode cX7_on 26 = .ok (.iload_n 2, 1) := by decide +kernel
theorem dX7_on_27 : decode cX7_on 27 = .ok (.invokevirtual 162, 3) := by decide +kernel
theorem dX7_on_30 : decode cX7_on 30 = .ok (.istore_n 3, 1) := by decide +kernel
theorem dX7_on_31 : decode cX7_on 31 = .ok (.iload_n 3, 1) := by decide +kernel
theorem dX7_on_32 : decode cX7_on 32 = .ok (.iconst (-1), 1) := by decide +kernel
theorem dX7_on_33 : decode cX7_on 33 = .ok (.if_icmp .ne 8, 3) := by decide +kernel
theorem dX7_on_36 : decode cX7_on 36 = .ok (.ldc 124, 2) := by decide +kernel
theorem dX7_on_38 : decode cX7_on 38 = .ok (.goto 7, 3) := by decide +kernel
theorem dX7_on_41 : decode cX7_on 41 = .ok (.iload_n 3, 1) := by decide +kernel
theorem dX7_on_42 : decode cX7_on 42 = .ok (.invokestatic 165, 3) := by decide +kernel
theorem dX7_on_45 : decode cX7_on 45 = .ok (.ireturn, 1) := by decide +kernel
def vc_X7_on (Q : Int32 → Prop) (ξ : Mem) (γ : Mem) (τ : Mem) (η : Mem) (σ : (Nat → Mem)) (ο : Mem) (x1 : Int32) (x2 : Int32) : Prop :=
  vc_X1_hasTask (fun r1 => ((r1 = 0) → (Q (-1000001) )) ∧ ((¬ r1 = 0) → (((0 ≤ x2) → (vc_X2_atPlace (fun r4 => ((¬ r4 = (-1)) → (vc_X7_toldOf (fun r6 => Q r6 ) r4)) ∧ ((r4 = (-1)) → (Q (-1000004) ))) γ x1 x2)) ∧ ((¬ 0 ≤ x2) → (Q (-1000001) ))))) γ x1
set_option maxHeartbeats 8000000 in
set_option maxRecDepth 100000 in
theorem m_X7_on (l : Launch) (G : GG) (x : Nat) (ξ : Mem) (γ : Mem) (τ : Mem) (η : Mem) (σ : (Nat → Mem)) (ο : Mem) (x1 : Int32) (x2 : Int32) (Q : Int32 → Prop) (h : vc_X7_on Q ξ γ τ η σ ο x1 x2) : CtI l yX7_on cX7_on 4 (some .int) { frames := 2, cells := 0, slots := 0, locals := 46 } [.ref (x + 0), .int x1, .int x2] G (fun H => rg G LX x ξ H ∧ rg G LG (x + 1) γ H ∧ rg G LG (x + 23) τ H ∧ rg G LH (x + 45) η H ∧ HG G (x + 46) σ H ∧ rg G LO (x + 135) ο H) (fun r (_ : Unit) => Q r) (fun _ _ => True) (fun _ => False) := by
  unfold CtI
  refine met_start (y := yX7_on) (maxL := 4) (av := [.ref (x + 0), .int x1, .int x2]) (G := G) (P := fun H => rg G LX x ξ H ∧ rg G LG (x + 1) γ H ∧ rg G LG (x + 23) τ H ∧ rg G LH (x + 45) η H ∧ HG G (x + 46) σ H ∧ rg G LO (x + 135) ο H) (by decide) rfl (Nat.le_of_ble_eq_true rfl) (fun p e s m below meth c ls C hr hP hK hl => ?_)
  obtain ⟨hx, hb, hml, hown, hts, hlocks⟩ := id C
  obtain ⟨hX, hG, hT, hH, hZ, hO⟩ := hP
  have hS : va_S (fun _ => False) s.heap s.heap [] := va_S.rf
  have hl : lv_has ls 4 [(0, .ref (x + 0)), (1, .int x1), (2, .int x2)] := hl
  unfold vc_X7_on at h
  refine lv_aload_n hx hb dX7_on_0 rfl (lv_at hl 0 rfl) ?_
  refine g_getR (a := x) (k := 0) (o := 1) C hK hX fl_X7_12 rfl rfl dX7_on_1 ?_
  refine lv_iload_n hx hb dX7_on_4 rfl (lv_at hl 1 rfl) ?_
  refine g_vI C hK hl.1 (m_X1_hasTask l G (x + 1) γ x1 _ h) mw_X1_hasTask mi_X1_hasTask ml_X7_137 rfl ⟨rfl, rfl, Nat.le_of_ble_eq_true rfl, Nat.le_of_ble_eq_true rfl⟩ ⟨Nat.zero_le _, Nat.zero_le _⟩ (g_recv (a := (x + 1)) (k := 0) hK hG rfl rfl) hG hS (fun _ h => h.elim) rfl (Nat.le_of_ble_eq_true rfl) dX7_on_5 (fun r1 u H locs h hu _ hq hS => ?_)
  have hX := hX.past hq (fun _ _ h => h)
  have hG := hG.past hq (fun _ _ h => h)
  have hT := hT.past hq (fun _ _ h => h)
  have hH := hH.past hq (fun _ _ h => h)
  have hZ := hZ.past hq (fun _ _ h => h)
  have hO := hO.past hq (fun _ _ h => h)
  refine lv_if_eq (tgt := 15) hx hb dX7_on_8 (by decide) (fun c2 => ?_) (fun c2 => ?_)
  · replace h := h.1 c2
    refine g_ldc C kc_X7_79 dX7_on_15 ?_
    exact g_iret (post := fun r (_ : Unit) => Q r) (P' := fun _ _ => True) (r := (-1000001)) (u := ()) C hr hK hS h trivial dX7_on_17
  · replace h := h.2 c2
    refine lv_iload_n hx hb dX7_on_11 rfl (lv_at hl 2 rfl) ?_
    refine lv_if_ge (tgt := 18) hx hb dX7_on_12 (by decide) (fun c3 => ?_) (fun c3 => ?_)
    · replace h := h.1 c3
      refine lv_aload_n hx hb dX7_on_18 rfl (lv_at hl 0 rfl) ?_
      refine g_getR (a := x) (k := 0) (o := 1) C hK hX fl_X7_12 rfl rfl dX7_on_19 ?_
      refine g_getR (a := (x + 1)) (k := 0) (o := 4) C hK hG fl_X7_90 rfl rfl dX7_on_22 ?_
      refine lv_iload_n hx hb dX7_on_25 rfl (lv_at hl 1 rfl) ?_
      refine lv_iload_n hx hb dX7_on_26 rfl (lv_at hl 2 rfl) ?_
      refine g_vI C hK hl.1 (m_X2_atPlace l G (x + 1) γ x1 x2 _ h) mw_X2_atPlace mi_X2_atPlace ml_X7_162 rfl ⟨rfl, rfl, Nat.le_of_ble_eq_true rfl, Nat.le_of_ble_eq_true rfl⟩ ⟨Nat.zero_le _, Nat.zero_le _⟩ (g_recv (a := (x + 1)) (k := 4) hK hG rfl rfl) hG hS (fun _ h => h.elim) rfl (Nat.le_of_ble_eq_true rfl) dX7_on_27 (fun r4 u H locs h hu _ hq hS => ?_)
      have hX := hX.past hq (fun _ _ h => h)
      have hG := hG.past hq (fun _ _ h => h)
      have hT := hT.past hq (fun _ _ h => h)
      have hH := hH.past hq (fun _ _ h => h)
      have hZ := hZ.past hq (fun _ _ h => h)
      have hO := hO.past hq (fun _ _ h => h)
      refine lv_istore_n (lv' := [(3, .int r4), (0, .ref (x + 0)), (1, .int x1), (2, .int x2)]) hx hb dX7_on_30 rfl hl (by decide) rfl (fun ls hl => ?_)
      refine lv_iload_n hx hb dX7_on_31 rfl (lv_at hl 0 rfl) ?_
      refine lv_iconst (v := (-1)) hx hb dX7_on_32 (by decide) ?_
      refine lv_icmp_ne (tgt := 41) hx hb dX7_on_33 (by decide) (fun c5 => ?_) (fun c5 => ?_)
      · replace h := h.1 c5
        refine lv_iload_n hx hb dX7_on_41 rfl (lv_at hl 0 rfl) ?_
        refine g_sI C hK hl.1 (m_X7_toldOf l G r4 _ h) mw_X7_toldOf ms_X7_toldOf ml_X7_165 rfl ⟨rfl, rfl, Nat.le_of_ble_eq_true rfl, Nat.le_of_ble_eq_true rfl⟩ ⟨Nat.zero_le _, Nat.zero_le _⟩ trivial hS (fun _ h => h.elim) rfl (Nat.le_of_ble_eq_true rfl) dX7_on_42 (fun r6 u H locs h hu _ hq hS => ?_)
        have hX := hX.past hq (fun _ _ h => h)
        have hG := hG.past hq (fun _ _ h => h)
        have hT := hT.past hq (fun _ _ h => h)
        have hH := hH.past hq (fun _ _ h => h)
        have hZ := hZ.past hq (fun _ _ h => h)
        have hO := hO.past hq (fun _ _ h => h)
        exact g_iret (post := fun r (_ : Unit) => Q r) (P' := fun _ _ => True) (r := r6) (u := ()) C hr hK hS h trivial dX7_on_45
      · replace h := h.2 c5
        refine g_ldc C kc_X7_124 dX7_on_36 ?_
        refine lv_goto (tgt := 45) hx hb dX7_on_38 (by decide) ?_
        exact g_iret (post := fun r (_ : Unit) => Q r) (P' := fun _ _ => True) (r := (-1000004)) (u := ()) C hr hK hS h trivial dX7_on_45
    · replace h := h.2 c3
      refine g_ldc C kc_X7_79 dX7_on_15 ?_
      exact g_iret (post := fun r (_ : Unit) => Q r) (P' := fun _ _ => True) (r := (-1000001)) (u := ()) C hr hK hS h trivial dX7_on_17
theorem dX7_contractOf_0 : decode cX7_contractOf 0 = .ok (.aload_n 0, 1) := by decide +kernel
theorem dX7_contractOf_1 : decode cX7_contractOf 1 = .ok (.getfield 12, 3) := by decide +kernel
theorem dX7_contractOf_4 : decode cX7_contractOf 4 = .ok (.iload_n 1, 1) := by decide +kernel
theorem dX7_contractOf_5 : decode cX7_contractOf 5 = .ok (.invokevirtual 168, 3) := by decide +kernel
theorem dX7_contractOf_8 : decode cX7_contractOf 8 = .ok (.ifCond .eq 12, 3) := by decide +kernel
theorem dX7_contractOf_11 : decode cX7_contractOf 11 = .ok (.iload_n 2, 1) := by decide +kernel
theorem dX7_contractOf_12 : decode cX7_contractOf 12 = .ok (.iconst 0, 1) := by decide +kernel
theorem dX7_contractOf_13 : decode cX7_contractOf 13 = .ok (.iconst 2, 1) := by decide +kernel
theorem dX7_contractOf_14 : decode cX7_contractOf 14 = .ok (.invokestatic 75, 3) := by decide +kernel
theorem dX7_contractOf_17 : decode cX7_contractOf 17 = .ok (.ifCond .ne 6, 3) := by decide +kernel
theorem dX7_contractOf_20 : decode cX7_contractOf 20 = .ok (.ldc 79, 2) := by decide +kernel
theorem dX7_contractOf_22 : decode cX7_contractOf 22 = .ok (.ireturn, 1) := by decide +kernel
theorem dX7_contractOf_23 : decode cX7_contractOf 23 = .ok (.aload_n 0, 1) := by decide +kernel
theorem dX7_contractOf_24 : decode cX7_contractOf 24 = .ok (.getfield 12, 3) := by decide +kernel
theorem dX7_contractOf_27 : decode cX7_contractOf 27 = .ok (.getfield 171, 3) := by decide +kernel
theorem dX7_contractOf_30 : decode cX7_contractOf 30 = .ok (.getfield 175, 3) := by decide +kernel
theorem dX7_contractOf_33 : decode cX7_contractOf 33 = .ok (.iload_n 1, 1) := by decide +kernel
theorem dX7_contractOf_34 : decode cX7_contractOf 34 = .ok (.iaload, 1) := by decide +kernel
theorem dX7_contractOf_35 : decode cX7_contractOf 35 = .ok (.istore_n 3, 1) := by decide +kernel
theorem dX7_contractOf_36 : decode cX7_contractOf 36 = .ok (.iload_n 2, 1) := by decide +kernel
theorem dX7_contractOf_37 : decode cX7_contractOf 37 = .ok (.lookupswitch 42 #[(0, 27), (1, 29)], 27) := by decide +kernel
theorem dX7_contractOf_64 : decode cX7_contractOf 64 = .ok (.iload_n 3, 1) := by decide +kernel
theorem dX7_contractOf_65 : decode cX7_contractOf 65 = .ok (.ireturn, 1) := by decide +kernel
theorem dX7_contractOf_66 : decode cX7_contractOf 66 = .ok (.aload_n 0, 1) := by decide +kernel
theorem dX7_contractOf_67 : decode cX7_contractOf 67 = .ok (.getfield 12, 3) := by decide +kernel
theorem dX7_contractOf_70 : decode cX7_contractOf 70 = .ok (.getfield 171, 3) := by decide +kernel
theorem dX7_contractOf_73 : decode cX7_contractOf 73 = .ok (.getfield 180, 3) := by decide +kernel
theorem dX7_contractOf_76 : decode cX7_contractOf 76 = .ok (.iload_n 1, 1) := by decide +kernel
theorem dX7_contractOf_77 : decode cX7_contractOf 77 = .ok (.iaload, 1) := by decide +kernel
theorem dX7_contractOf_78 : decode cX7_contractOf 78 = .ok (.ireturn, 1) := by decide +kernel
theorem dX7_contractOf_79 : decode cX7_contractOf 79 = .ok (.aload_n 0, 1) := by decide +kernel
theorem dX7_contractOf_80 : decode cX7_contractOf 80 = .ok (.getfield 12, 3) := by decide +kernel
theorem dX7_contractOf_83 : decode cX7_contractOf 83 = .ok (.getfield 80, 3) := by decide +kernel
theorem dX7_contractOf_86 : decode cX7_contractOf 86 = .ok (.iload_n 3, 1) := by decide +kernel
theorem dX7_contractOf_87 : decode cX7_contractOf 87 = .ok (.invokevirtual 181, 3) := by decide +kernel
theorem dX7_contractOf_90 : decode cX7_contractOf 90 = .ok (.ireturn, 1) := by decide +kernel
def vc_X7_contractOf (Q : Int32 → Prop) (ξ : Mem) (γ : Mem) (τ : Mem) (η : Mem) (σ : (Nat → Mem)) (ο : Mem) (x1 : Int32) (x2 : Int32) : Prop :=
  vc_X1_hasContract (fun r1 => ((r1 = 0) → (Q (-1000001) )) ∧ ((¬ r1 = 0) → (vc_X7_within (fun r3 => ((¬ r3 = 0) → (vp_in x1 6 ∧ (∀ v6 : Int32, v6 = (γ 19 x1.toNatClampNeg) → (((x2 = 0) → (Q v6 )) ∧ ((¬ x2 = 0) → (((x2 = 1) → ((Q (γ 20 x1.toNatClampNeg) ))) ∧ ((¬ x2 = 1) → (vc_X5_allWhoHave (fun r9 => Q r9 ) γ v6)))))))) ∧ ((r3 = 0) → (Q (-1000001) ))) x2 0 2))) γ x1
set_option maxHeartbeats 8000000 in
set_option maxRecDepth 100000 in
theorem m_X7_contractOf (l : Launch) (G : GG) (x : Nat) (ξ : Mem) (γ : Mem) (τ : Mem) (η : Mem) (σ : (Nat → Mem)) (ο : Mem) (x1 : Int32) (x2 : Int32) (Q : Int32 → Prop) (h : vc_X7_contractOf Q ξ γ τ η σ ο x1 x2) : CtI l yX7_contractOf cX7_contractOf 4 (some .int) { frames := 3, cells := 0, slots := 0, locals := 68 } [.ref (x + 0), .int x1, .int x2] G (fun H => rg G LX x ξ H ∧ rg G LG (x + 1) γ H ∧ rg G LG (x + 23) τ H ∧ rg G LH (x + 45) η H ∧ HG G (x + 46) σ H ∧ rg G LO (x + 135) ο H) (fun r (_ : Unit) => Q r) (fun _ _ => True) (fun _ => False) := by
  unfold CtI
  refine met_start (y := yX7_contractOf) (maxL := 4) (av := [.ref (x + 0), .int x1, .int x2]) (G := G) (P := fun H => rg G LX x ξ H ∧ rg G LG (x + 1) γ H ∧ rg G LG (x + 23) τ H ∧ rg G LH (x + 45) η H ∧ HG G (x + 46) σ H ∧ rg G LO (x + 135) ο H) (by decide) rfl (Nat.le_of_ble_eq_true rfl) (fun p e s m below meth c ls C hr hP hK hl => ?_)
  obtain ⟨hx, hb, hml, hown, hts, hlocks⟩ := id C
  obtain ⟨hX, hG, hT, hH, hZ, hO⟩ := hP
  have hS : va_S (fun _ => False) s.heap s.heap [] := va_S.rf
  have hl : lv_has ls 4 [(0, .ref (x + 0)), (1, .int x1), (2, .int x2)] := hl
  unfold vc_X7_contractOf at h
  refine lv_aload_n hx hb dX7_contractOf_0 rfl (lv_at hl 0 rfl) ?_
  refine g_getR (a := x) (k := 0) (o := 1) C hK hX fl_X7_12 rfl rfl dX7_contractOf_1 ?_
  refine lv_iload_n hx hb dX7_contractOf_4 rfl (lv_at hl 1 rfl) ?_
  refine g_vI C hK hl.1 (m_X1_hasContract l G (x + 1) γ x1 _ h) mw_X1_hasContract mi_X1_hasContract ml_X7_168 rfl ⟨rfl, rfl, Nat.le_of_ble_eq_true rfl, Nat.le_of_ble_eq_true rfl⟩ ⟨Nat.zero_le _, Nat.zero_le _⟩ (g_recv (a := (x + 1)) (k := 0) hK hG rfl rfl) hG hS (fun _ h => h.elim) rfl (Nat.le_of_ble_eq_true rfl) dX7_contractOf_5 (fun r1 u H locs h hu _ hq hS => ?_)
  have hX := hX.past hq (fun _ _ h => h)
  have hG := hG.past hq (fun _ _ h => h)
  have hT := hT.past hq (fun _ _ h => h)
  have hH := hH.past hq (fun _ _ h => h)
  have hZ := hZ.past hq (fun _ _ h => h)
  have hO := hO.past hq (fun _ _ h => h)
  refine lv_if_eq (tgt := 20) hx hb dX7_contractOf_8 (by decide) (fun c2 => ?_) (fun c2 => ?_)
  · replace h := h.1 c2
    refine g_ldc C kc_X7_79 dX7_contractOf_20 ?_
    exact g_iret (post := fun r (_ : Unit) => Q r) (P' := fun _ _ => True) (r := (-1000001)) (u := ()) C hr hK hS h trivial dX7_contractOf_22
  · replace h := h.2 c2
    refine lv_iload_n hx hb dX7_contractOf_11 rfl (lv_at hl 2 rfl) ?_
    refine lv_iconst (v := 0) hx hb dX7_contractOf_12 (by decide) ?_
    refine lv_iconst (v := 2) hx hb dX7_contractOf_13 (by decide) ?_
    refine g_sI C hK hl.1 (m_X7_within l G x2 0 2 _ h) mw_X7_within ms_X7_within ml_X7_75 rfl ⟨rfl, rfl, Nat.le_of_ble_eq_true rfl, Nat.le_of_ble_eq_true rfl⟩ ⟨Nat.zero_le _, Nat.zero_le _⟩ trivial hS (fun _ h => h.elim) rfl (Nat.le_of_ble_eq_true rfl) dX7_contractOf_14 (fun r3 u H locs h hu _ hq hS => ?_)
    have hX := hX.past hq (fun _ _ h => h)
    have hG := hG.past hq (fun _ _ h => h)
    have hT := hT.past hq (fun _ _ h => h)
    have hH := hH.past hq (fun _ _ h => h)
    have hZ := hZ.past hq (fun _ _ h => h)
    have hO := hO.past hq (fun _ _ h => h)
    refine lv_if_ne (tgt := 23) hx hb dX7_contractOf_17 (by decide) (fun c4 => ?_) (fun c4 => ?_)
    · replace h := h.1 c4
      refine lv_aload_n hx hb dX7_contractOf_23 rfl (lv_at hl 0 rfl) ?_
      refine g_getR (a := x) (k := 0) (o := 1) C hK hX fl_X7_12 rfl rfl dX7_contractOf_24 ?_
      refine g_getR (a := (x + 1)) (k := 0) (o := 18) C hK hG fl_X7_171 rfl rfl dX7_contractOf_27 ?_
      refine g_getR (a := (x + 1)) (k := 18) (o := 19) C hK hG fl_X7_175 rfl rfl dX7_contractOf_30 ?_
      refine lv_iload_n hx hb dX7_contractOf_33 rfl (lv_at hl 1 rfl) ?_
      obtain ⟨b5, h⟩ := h
      refine g_ald (a := (x + 1)) (k := 19) (n := 6) C hK hG rfl b5 dX7_contractOf_34 ?_
      refine lv_topi (fun v6 ev6 => ?_)
      specialize h v6 ev6
      refine lv_istore_n (lv' := [(3, .int v6), (0, .ref (x + 0)), (1, .int x1), (2, .int x2)]) hx hb dX7_contractOf_35 rfl hl (by decide) rfl (fun ls hl => ?_)
      refine lv_iload_n hx hb dX7_contractOf_36 rfl (lv_at hl 3 rfl) ?_
      by_cases c7 : x2 = 0
      · replace h := h.1 c7
        refine lv_lookup (off := 27) (tgt := 64) hx hb dX7_contractOf_37 (by decide) (by rw [c7]; rfl) (by decide) ?_
        refine lv_iload_n hx hb dX7_contractOf_64 rfl (lv_at hl 0 rfl) ?_
        exact g_iret (post := fun r (_ : Unit) => Q r) (P' := fun _ _ => True) (r := v6) (u := ()) C hr hK hS h trivial dX7_contractOf_65
      · replace h := h.2 c7
        by_cases c8 : x2 = 1
        · replace h := h.1 c8
          refine lv_lookup (off := 29) (tgt := 66) hx hb dX7_contractOf_37 (by decide) (by rw [c8]; rfl) (by decide) ?_
          refine lv_aload_n hx hb dX7_contractOf_66 rfl (lv_at hl 1 rfl) ?_
          refine g_getR (a := x) (k := 0) (o := 1) C hK hX fl_X7_12 rfl rfl dX7_contractOf_67 ?_
          refine g_getR (a := (x + 1)) (k := 0) (o := 18) C hK hG fl_X7_171 rfl rfl dX7_contractOf_70 ?_
          refine g_getR (a := (x + 1)) (k := 18) (o := 20) C hK hG fl_X7_180 rfl rfl dX7_contractOf_73 ?_
          refine lv_iload_n hx hb dX7_contractOf_76 rfl (lv_at hl 2 rfl) ?_
          refine g_ald (a := (x + 1)) (k := 20) (n := 6) C hK hG rfl b5 dX7_contractOf_77 ?_
          exact g_iret (post := fun r (_ : Unit) => Q r) (P' := fun _ _ => True) (r := (γ 20 x1.toNatClampNeg)) (u := ()) C hr hK hS h trivial dX7_contractOf_78
        · replace h := h.2 c8
          refine lv_lookup (off := 42) (tgt := 79) hx hb dX7_contractOf_37 (by decide) (by simp only [List.toList_toArray]; rw [lv_osw c7 (by rfl), lv_osw c8 (by rfl)]; rfl) (by decide) ?_
          refine lv_aload_n hx hb dX7_contractOf_79 rfl (lv_at hl 1 rfl) ?_
          refine g_getR (a := x) (k := 0) (o := 1) C hK hX fl_X7_12 rfl rfl dX7_contractOf_80 ?_
          refine g_getR (a := (x + 1)) (k := 0) (o := 1) C hK hG fl_X7_80 rfl rfl dX7_contractOf_83 ?_
          refine lv_iload_n hx hb dX7_contractOf_86 rfl (lv_at hl 0 rfl) ?_
          refine g_vI C hK hl.1 (m_X5_allWhoHave l G (x + 1) γ v6 _ h) mw_X5_allWhoHave mi_X5_allWhoHave ml_X7_181 rfl ⟨rfl, rfl, Nat.le_of_ble_eq_true rfl, Nat.le_of_ble_eq_true rfl⟩ ⟨Nat.zero_le _, Nat.zero_le _⟩ (g_recv (a := (x + 1)) (k := 1) hK hG rfl rfl) hG hS (fun _ h => h.elim) rfl (Nat.le_of_ble_eq_true rfl) dX7_contractOf_87 (fun r9 u H locs h hu _ hq hS => ?_)
          have hX := hX.past hq (fun _ _ h => h)
          have hG := hG.past hq (fun _ _ h => h)
          have hT := hT.past hq (fun _ _ h => h)
          have hH := hH.past hq (fun _ _ h => h)
          have hZ := hZ.past hq (fun _ _ h => h)
          have hO := hO.past hq (fun _ _ h => h)
          exact g_iret (post := fun r (_ : Unit) => Q r) (P' := fun _ _ => True) (r := r9) (u := ()) C hr hK hS h trivial dX7_contractOf_90
    · replace h := h.2 c4
      refine g_ldc C kc_X7_79 dX7_contractOf_20 ?_
      exact g_iret (post := fun r (_ : Unit) => Q r) (P' := fun _ _ => True) (r := (-1000001)) (u := ()) C hr hK hS h trivial dX7_contractOf_22
theorem dX7_next_0 : decode cX7_next 0 = .ok (.iload_n 1, 1) := by decide +kernel
theorem dX7_next_1 : decode cX7_next 1 = .ok (.iconst 0, 1) := by decide +kernel
theorem dX7_next_2 : decode cX7_next 2 = .ok (.iconst 1, 1) := by decide +kernel
theorem dX7_next_3 : decode cX7_next 3 = .ok (.invokestatic 75, 3) := by decide +kernel
theorem dX7_next_6 : decode cX7_next 6 = .ok (.ifCond .ne 6, 3) := by decide +kernel
theorem dX7_next_9 : decode cX7_next 9 = .ok (.ldc 79, 2) := by decide +kernel
theorem dX7_next_11 : decode cX7_next 11 = .ok (.ireturn, 1) := by decide +kernel
theorem dX7_next_12 : decode cX7_next 12 = .ok (.aload_n 0, 1) := by decide +kernel
theorem dX7_next_13 : decode cX7_next 13 = .ok (.getfield 12, 3) := by decide +kernel
theorem dX7_next_16 : decode cX7_next 16 = .ok (.getfield 90, 3) := by decide +kernel
theorem dX7_next_19 : decode cX7_next 19 = .ok (.invokevirtual 184, 3) := by decide +kernel
theorem dX7_next_22 : decode cX7_next 22 = .ok (.istore_n 2, 1) := by decide +kernel
theorem dX7_next_23 : decode cX7_next 23 = .ok (.iload_n 2, 1) := by decide +kernel
theorem dX7_next_24 : decode cX7_next 24 = .ok (.iconst (-1), 1) := by decide +kernel
theorem dX7_next_25 : decode cX7_next 25 = .ok (.if_icmp .ne 6, 3) := by decide +kernel
theorem dX7_next_28 : decode cX7_next 28 = .ok (.ldc 124, 2) := by decide +kernel
theorem dX7_next_30 : decode cX7_next 30 = .ok (.ireturn, 1) := by decide +kernel
theorem dX7_next_31 : decode cX7_next 31 = .ok (.iload_n 1, 1) := by decide +kernel
theorem dX7_next_32 : decode cX7_next 32 = .ok (.ifCond .ne 10, 3) := by decide +kernel
theorem dX7_next_35 : decode cX7_next 35 = .ok (.iload_n 2, 1) := by decide +kernel
theorem dX7_next_36 : decode cX7_next 36 = .ok (.invokestatic 165, 3) := by decide +kernel
theorem dX7_next_39 : decode cX7_next 39 = .ok (.goto 15, 3) := by decide +kernel
theorem dX7_next_42 : decode cX7_next 42 = .ok (.aload_n 0, 1) := by decide +kernel
theorem dX7_next_43 : decode cX7_next 43 = .ok (.getfield 12, 3) := by decide +kernel
theorem dX7_next_46 : decode cX7_next 46 = .ok (.getfield 90, 3) := by decide +kernel
theorem dX7_next_49 : decode cX7_next 49 = .ok (.getfield 125, 3) := by decide +kernel
theorem dX7_next_52 : decode cX7_next 52 = .ok (.iload_n 2, 1) := by decide +kernel
theorem dX7_next_53 : decode cX7_next 53 = .ok (.iaload, 1) := by decide +kernel
theorem dX7_next_54 : decode cX7_next 54 = .ok (.ireturn, 1) := by decide +kernel
def vc_X7_next (Q : Int32 → Prop) (ξ : Mem) (γ : Mem) (τ : Mem) (η : Mem) (σ : (Nat → Mem)) (ο : Mem) (x1 : Int32) : Prop :=
  vc_X7_within (fun r1 => ((¬ r1 = 0) → (vc_X2_nextOut (fun r3 => ((¬ r3 = (-1)) → (((¬ x1 = 0) → (vp_in r3 12 ∧ (Q (γ 7 r3.toNatClampNeg) ))) ∧ ((x1 = 0) → (vc_X7_toldOf (fun r7 => Q r7 ) r3)))) ∧ ((r3 = (-1)) → (Q (-1000004) ))) γ)) ∧ ((r1 = 0) → (Q (-1000001) ))) x1 0 1
set_option maxHeartbeats 8000000 in
set_option maxRecDepth 100000 in
theorem m_X7_next (l : Launch) (G : GG) (x : Nat) (ξ : Mem) (γ : Mem) (τ : Mem) (η : Mem) (σ : (Nat → Mem)) (ο : Mem) (x1 : Int32) (Q : Int32 → Prop) (h : vc_X7_next Q ξ γ τ η σ ο x1) : CtI l yX7_next cX7_next 3 (some .int) { frames := 2, cells := 0, slots := 0, locals := 43 } [.ref (x + 0), .int x1] G (fun H => rg G LX x ξ H ∧ rg G LG (x + 1) γ H ∧ rg G LG (x + 23) τ H ∧ rg G LH (x + 45) η H ∧ HG G (x + 46) σ H ∧ rg G LO (x + 135) ο H) (fun r (_ : Unit) => Q r) (fun _ _ => True) (fun _ => False) := by
  unfold CtI
  refine met_start (y := yX7_next) (maxL := 3) (av := [.ref (x + 0), .int x1]) (G := G) (P := fun H => rg G LX x ξ H ∧ rg G LG (x + 1) γ H ∧ rg G LG (x + 23) τ H ∧ rg G LH (x + 45) η H ∧ HG G (x + 46) σ H ∧ rg G LO (x + 135) ο H) (by decide) rfl (Nat.le_of_ble_eq_true rfl) (fun p e s m below meth c ls C hr hP hK hl => ?_)
  obtain ⟨hx, hb, hml, hown, hts, hlocks⟩ := id C
  obtain ⟨hX, hG, hT, hH, hZ, hO⟩ := hP
  have hS : va_S (fun _ => False) s.heap s.heap [] := va_S.rf
  have hl : lv_has ls 3 [(0, .ref (x + 0)), (1, .int x1)] := hl
  unfold vc_X7_next at h
  refine lv_iload_n hx hb dX7_next_0 rfl (lv_at hl 1 rfl) ?_
  refine lv_iconst (v := 0) hx hb dX7_next_1 (by decide) ?_
  refine lv_iconst (v := 1) hx hb dX7_next_2 (by decide) ?_
  refine g_sI C hK hl.1 (m_X7_within l G x1 0 1 _ h) mw_X7_within ms_X7_within ml_X7_75 rfl ⟨rfl, rfl, Nat.le_of_ble_eq_true rfl, Nat.le_of_ble_eq_true rfl⟩ ⟨Nat.zero_le _, Nat.zero_le _⟩ trivial hS (fun _ h => h.elim) rfl (Nat.le_of_ble_eq_true rfl) dX7_next_3 (fun r1 u H locs h hu _ hq hS => ?_)
  have hX := hX.past hq (fun _ _ h => h)
  have hG := hG.past hq (fun _ _ h => h)
  have hT := hT.past hq (fun _ _ h => h)
  have hH := hH.past hq (fun _ _ h => h)
  have hZ := hZ.past hq (fun _ _ h => h)
  have hO := hO.past hq (fun _ _ h => h)
  refine lv_if_ne (tgt := 12) hx hb dX7_next_6 (by decide) (fun c2 => ?_) (fun c2 => ?_)
  · replace h := h.1 c2
    refine lv_aload_n hx hb dX7_next_12 rfl (lv_at hl 0 rfl) ?_
    refine g_getR (a := x) (k := 0) (o := 1) C hK hX fl_X7_12 rfl rfl dX7_next_13 ?_
    refine g_getR (a := (x + 1)) (k := 0) (o := 4) C hK hG fl_X7_90 rfl rfl dX7_next_16 ?_
    refine g_vI C hK hl.1 (m_X2_nextOut l G (x + 1) γ _ h) mw_X2_nextOut mi_X2_nextOut ml_X7_184 rfl ⟨rfl, rfl, Nat.le_of_ble_eq_true rfl, Nat.le_of_ble_eq_true rfl⟩ ⟨Nat.zero_le _, Nat.zero_le _⟩ (g_recv (a := (x + 1)) (k := 4) hK hG rfl rfl) hG hS (fun _ h => h.elim) rfl (Nat.le_of_ble_eq_true rfl) dX7_next_19 (fun r3 u H locs h hu _ hq hS => ?_)
    have hX := hX.past hq (fun _ _ h => h)
    have hG := hG.past hq (fun _ _ h => h)
    have hT := hT.past hq (fun _ _ h => h)
    have hH := hH.past hq (fun _ _ h => h)
    have hZ := hZ.past hq (fun _ _ h => h)
    have hO := hO.past hq (fun _ _ h => h)
    refine lv_istore_n (lv' := [(2, .int r3), (0, .ref (x + 0)), (1, .int x1)]) hx hb dX7_next_22 rfl hl (by decide) rfl (fun ls hl => ?_)
    refine lv_iload_n hx hb dX7_next_23 rfl (lv_at hl 0 rfl) ?_
    refine lv_iconst (v := (-1)) hx hb dX7_next_24 (by decide) ?_
    refine lv_icmp_ne (tgt := 31) hx hb dX7_next_25 (by decide) (fun c4 => ?_) (fun c4 => ?_)
    · replace h := h.1 c4
      refine lv_iload_n hx hb dX7_next_31 rfl (lv_at hl 2 rfl) ?_
      refine lv_if_ne (tgt := 42) hx hb dX7_next_32 (by decide) (fun c5 => ?_) (fun c5 => ?_)
      · replace h := h.1 c5
        refine lv_aload_n hx hb dX7_next_42 rfl (lv_at hl 1 rfl) ?_
        refine g_getR (a := x) (k := 0) (o := 1) C hK hX fl_X7_12 rfl rfl dX7_next_43 ?_
        refine g_getR (a := (x + 1)) (k := 0) (o := 4) C hK hG fl_X7_90 rfl rfl dX7_next_46 ?_
        refine g_getR (a := (x + 1)) (k := 4) (o := 7) C hK hG fl_X7_125 rfl rfl dX7_next_49 ?_
        refine lv_iload_n hx hb dX7_next_52 rfl (lv_at hl 0 rfl) ?_
        obtain ⟨b6, h⟩ := h
        refine g_ald (a := (x + 1)) (k := 7) (n := 12) C hK hG rfl b6 dX7_next_53 ?_
        exact g_iret (post := fun r (_ : Unit) => Q r) (P' := fun _ _ => True) (r := (γ 7 r3.toNatClampNeg)) (u := ()) C hr hK hS h trivial dX7_next_54
      · replace h := h.2 c5
        refine lv_iload_n hx hb dX7_next_35 rfl (lv_at hl 0 rfl) ?_
        refine g_sI C hK hl.1 (m_X7_toldOf l G r3 _ h) mw_X7_toldOf ms_X7_toldOf ml_X7_165 rfl ⟨rfl, rfl, Nat.le_of_ble_eq_true rfl, Nat.le_of_ble_eq_true rfl⟩ ⟨Nat.zero_le _, Nat.zero_le _⟩ trivial hS (fun _ h => h.elim) rfl (Nat.le_of_ble_eq_true rfl) dX7_next_36 (fun r7 u H locs h hu _ hq hS => ?_)
        have hX := hX.past hq (fun _ _ h => h)
        have hG := hG.past hq (fun _ _ h => h)
        have hT := hT.past hq (fun _ _ h => h)
        have hH := hH.past hq (fun _ _ h => h)
        have hZ := hZ.past hq (fun _ _ h => h)
        have hO := hO.past hq (fun _ _ h => h)
        refine lv_goto (tgt := 54) hx hb dX7_next_39 (by decide) ?_
        exact g_iret (post := fun r (_ : Unit) => Q r) (P' := fun _ _ => True) (r := r7) (u := ()) C hr hK hS h trivial dX7_next_54
    · replace h := h.2 c4
      refine g_ldc C kc_X7_124 dX7_next_28 ?_
      exact g_iret (post := fun r (_ : Unit) => Q r) (P' := fun _ _ => True) (r := (-1000004)) (u := ()) C hr hK hS h trivial dX7_next_30
  · replace h := h.2 c2
    refine g_ldc C kc_X7_79 dX7_next_9 ?_
    exact g_iret (post := fun r (_ : Unit) => Q r) (P' := fun _ _ => True) (r := (-1000001)) (u := ()) C hr hK hS h trivial dX7_next_11
theorem dX7_would_0 : decode cX7_would 0 = .ok (.aload_n 0, 1) := by decide +kernel
theorem dX7_would_1 : decode cX7_would 1 = .ok (.getfield 12, 3) := by decide +kernel
theorem dX7_would_4 : decode cX7_would 4 = .ok (.iload_n 1, 1) := by decide +kernel
theorem dX7_would_5 : decode cX7_would 5 = .ok (.invokevirtual 71, 3) := by decide +kernel
theorem dX7_would_8 : decode cX7_would 8 = .ok (.ifCond .eq 23, 3) := by decide +kernel
theorem dX7_would_11 : decode cX7_would 11 = .ok (.iload_n 2, 1) := by decide +kernel
theorem dX7_would_12 : decode cX7_would 12 = .ok (.iconst 0, 1) := by decide +kernel
theorem dX7_would_13 : decode cX7_would 13 = .ok (.sipush 600, 3) := by decide +kernel
theorem dX7_would_16 : decode cX7_would 16 = .ok (.invokestatic 75, 3) := by decide +kernel
theorem dX7_would_19 : decode cX7_would 19 = .ok (.ifCond .eq 12, 3) := by decide +kernel
theorem dX7_would_22 : decode cX7_would 22 = .ok (.iload_n 3, 1) := by decide +kernel
theorem dX7_would_23 : decode cX7_would 23 = .ok (.iconst 0, 1) := by decide +kernel
theorem dX7_would_24 : decode cX7_would 24 = .ok (.iconst 4, 1) := by decide +kernel
theorem dX7_would_25 : decode cX7_would 25 = .ok (.invokestatic 75, 3) := by decide +kernel
theorem dX7_would_28 : decode cX7_would 28 = .ok (.ifCond .ne 6, 3) := by decide +kernel
theorem dX7_would_31 : decode cX7_would 31 = .ok (.ldc 79, 2) := by decide +kernel
theorem dX7_would_33 : decode cX7_would 33 = .ok (.ireturn, 1) := by decide +kernel
theorem dX7_would_34 : decode cX7_would 34 = .ok (.aload_n 0, 1) := by decide +kernel
theorem dX7_would_35 : decode cX7_would 35 = .ok (.invokevirtual 33, 3) := by decide +kernel
theorem dX7_would_38 : decode cX7_would 38 = .ok (.aload_n 0, 1) := by decide +kernel
theorem dX7_would_39 : decode cX7_would 39 = .ok (.getfield 16, 3) := by decide +kernel
theorem dX7_would_42 : decode cX7_would 42 = .ok (.iload_n 2, 1) := by decide +kernel
theorem dX7_would_43 : decode cX7_would 43 = .ok (.invokevirtual 187, 3) := by decide +kernel
theorem dX7_would_46 : decode cX7_would 46 = .ok (.pop, 1) := by decide +kernel
theorem dX7_would_47 : decode cX7_would 47 = .ok (.iload_n 3, 1) := by decide +kernel
theorem dX7_would_48 : decode cX7_would 48 = .ok (.lookupswitch 65 #[(3, 28), (4, 41)], 28) := by decide +kernel
theorem dX7_would_76 : decode cX7_would 76 = .ok (.aload_n 0, 1) := by decide +kernel
theorem dX7_would_77 : decode cX7_would 77 = .ok (.getfield 16, 3) := by decide +kernel
theorem dX7_would_80 : decode cX7_would 80 = .ok (.getfield 80, 3) := by decide +kernel
theorem dX7_would_83 : decode cX7_would 83 = .ok (.getfield 84, 3) := by decide +kernel
theorem dX7_would_86 : decode cX7_would 86 = .ok (.iload_n 1, 1) := by decide +kernel
theorem dX7_would_87 : decode cX7_would 87 = .ok (.iaload, 1) := by decide +kernel
theorem dX7_would_88 : decode cX7_would 88 = .ok (.ireturn, 1) := by decide +kernel
theorem dX7_would_89 : decode cX7_would 89 = .ok (.aload_n 0, 1) := by decide +kernel
theorem dX7_would_90 : decode cX7_would 90 = .ok (.getfield 16, 3) := by decide +kernel
theorem dX7_would_93 : decode cX7_would 93 = .ok (.getfield 90, 3) := by decide +kernel
theorem dX7_would_96 : decode cX7_would 96 = .ok (.iload_n 1, 1) := by decide +kernel
theorem dX7_would_97 : decode cX7_would 97 = .ok (.invokevirtual 94, 3) := by decide +kernel
theorem dX7_would_100 : decode cX7_would 100 = .ok (.aload_n 0, 1) := by decide +kernel
theorem dX7_would_101 : decode cX7_would 101 = .ok (.getfield 12, 3) := by decide +kernel
theorem dX7_would_104 : decode cX7_would 104 = .ok (.getfield 90, 3) := by decide +kernel
theorem dX7_would_107 : decode cX7_would 107 = .ok (.iload_n 1, 1) := by decide +kernel
theorem dX7_would_108 : decode cX7_would 108 = .ok (.invokevirtual 94, 3) := by decide +kernel
theorem dX7_would_111 : decode cX7_would 111 = .ok (.isub, 1) := by decide +kernel
theorem dX7_would_112 : decode cX7_would 112 = .ok (.ireturn, 1) := by decide +kernel
theorem dX7_would_113 : decode cX7_would 113 = .ok (.aload_n 0, 1) := by decide +kernel
theorem dX7_would_114 : decode cX7_would 114 = .ok (.getfield 16, 3) := by decide +kernel
theorem dX7_would_117 : decode cX7_would 117 = .ok (.getfield 80, 3) := by decide +kernel
theorem dX7_would_120 : decode cX7_would 120 = .ok (.iload_n 1, 1) := by decide +kernel
theorem dX7_would_121 : decode cX7_would 121 = .ok (.iload_n 3, 1) := by decide +kernel
theorem dX7_would_122 : decode cX7_would 122 = .ok (.invokevirtual 108, 3) := by decide +kernel
theorem dX7_would_125 : decode cX7_would 125 = .ok (.ireturn, 1) := by decide +kernel
def vc_X7_would (Q : Int32 → Mem → Prop) (ξ : Mem) (γ : Mem) (τ : Mem) (η : Mem) (σ : (Nat → Mem)) (ο : Mem) (x1 : Int32) (x2 : Int32) (x3 : Int32) : Prop :=
  vc_X1_hasPlayer (fun r1 => ((r1 = 0) → (Q (-1000001) τ)) ∧ ((¬ r1 = 0) → (vc_X7_within (fun r3 => ((r3 = 0) → (Q (-1000001) τ)) ∧ ((¬ r3 = 0) → (vc_X7_within (fun r5 => ((¬ r5 = 0) → (vc_X7_startTrial (fun τ8 => vc_X1_advance (fun r9 τ10 => ((x3 = 3) → (vp_in x1 4 ∧ (Q (τ10 3 x1.toNatClampNeg) τ10))) ∧ ((¬ x3 = 3) → (((x3 = 4) → (vc_X2_worksOf (fun r14 => vc_X2_worksOf (fun r15 => Q (r14 - r15) τ10) γ x1) τ10 x1)) ∧ ((¬ x3 = 4) → (vc_X5_amountOf (fun r16 => Q r16 τ10) τ10 x1 x3))))) τ8 x2) ξ γ τ η σ ο)) ∧ ((r5 = 0) → (Q (-1000001) τ))) x3 0 4))) x2 0 600))) γ x1
set_option maxHeartbeats 8000000 in
set_option maxRecDepth 100000 in
theorem m_X7_would (l : Launch) (G : GG) (x : Nat) (ξ : Mem) (γ : Mem) (τ : Mem) (η : Mem) (σ : (Nat → Mem)) (ο : Mem) (x1 : Int32) (x2 : Int32) (x3 : Int32) (Q : Int32 → Mem → Prop) (h : vc_X7_would Q ξ γ τ η σ ο x1 x2 x3) : CtI l yX7_would cX7_would 4 (some .int) { frames := 5, cells := 0, slots := 0, locals := 123 } [.ref (x + 0), .int x1, .int x2, .int x3] G (fun H => rg G LX x ξ H ∧ rg G LG (x + 1) γ H ∧ rg G LG (x + 23) τ H ∧ rg G LH (x + 45) η H ∧ HG G (x + 46) σ H ∧ rg G LO (x + 135) ο H) (Q) (fun u H => rg G LG (x + 23) u H) (RA (x + 23) 22) := by
  unfold CtI
  refine met_start (y := yX7_would) (maxL := 4) (av := [.ref (x + 0), .int x1, .int x2, .int x3]) (G := G) (P := fun H => rg G LX x ξ H ∧ rg G LG (x + 1) γ H ∧ rg G LG (x + 23) τ H ∧ rg G LH (x + 45) η H ∧ HG G (x + 46) σ H ∧ rg G LO (x + 135) ο H) (by decide) rfl (Nat.le_of_ble_eq_true rfl) (fun p e s m below meth c ls C hr hP hK hl => ?_)
  obtain ⟨hx, hb, hml, hown, hts, hlocks⟩ := id C
  obtain ⟨hX, hG, hT, hH, hZ, hO⟩ := hP
  have hS : va_S (RA (x + 23) 22) s.heap s.heap [] := va_S.rf
  have hl : lv_has ls 4 [(0, .ref (x + 0)), (1, .int x1), (2, .int x2), (3, .int x3)] := hl
  unfold vc_X7_would at h
  refine lv_aload_n hx hb dX7_would_0 rfl (lv_at hl 0 rfl) ?_
  refine g_getR (a := x) (k := 0) (o := 1) C hK hX fl_X7_12 rfl rfl dX7_would_1 ?_
  refine lv_iload_n hx hb dX7_would_4 rfl (lv_at hl 1 rfl) ?_
  refine g_vI C hK hl.1 (m_X1_hasPlayer l G (x + 1) γ x1 _ h) mw_X1_hasPlayer mi_X1_hasPlayer ml_X7_71 rfl ⟨rfl, rfl, Nat.le_of_ble_eq_true rfl, Nat.le_of_ble_eq_true rfl⟩ ⟨Nat.zero_le _, Nat.zero_le _⟩ (g_recv (a := (x + 1)) (k := 0) hK hG rfl rfl) hG hS (fun _ h => h.elim) rfl (Nat.le_of_ble_eq_true rfl) dX7_would_5 (fun r1 u H locs h hu _ hq hS => ?_)
  have hX := hX.past hq (fun _ _ h => h)
  have hG := hG.past hq (fun _ _ h => h)
  have hT := hT.past hq (fun _ _ h => h)
  have hH := hH.past hq (fun _ _ h => h)
  have hZ := hZ.past hq (fun _ _ h => h)
  have hO := hO.past hq (fun _ _ h => h)
  refine lv_if_eq (tgt := 31) hx hb dX7_would_8 (by decide) (fun c2 => ?_) (fun c2 => ?_)
  · replace h := h.1 c2
    refine g_ldc C kc_X7_79 dX7_would_31 ?_
    exact g_iret (post := Q) (P' := fun u H => rg G LG (x + 23) u H) (r := (-1000001)) (u := τ) C hr hK hS h hT dX7_would_33
  · replace h := h.2 c2
    refine lv_iload_n hx hb dX7_would_11 rfl (lv_at hl 2 rfl) ?_
    refine lv_iconst (v := 0) hx hb dX7_would_12 (by decide) ?_
    refine lv_sipush (v := 600) hx hb dX7_would_13 (by decide) ?_
    refine g_sI C hK hl.1 (m_X7_within l G x2 0 600 _ h) mw_X7_within ms_X7_within ml_X7_75 rfl ⟨rfl, rfl, Nat.le_of_ble_eq_true rfl, Nat.le_of_ble_eq_true rfl⟩ ⟨Nat.zero_le _, Nat.zero_le _⟩ trivial hS (fun _ h => h.elim) rfl (Nat.le_of_ble_eq_true rfl) dX7_would_16 (fun r3 u H locs h hu _ hq hS => ?_)
    have hX := hX.past hq (fun _ _ h => h)
    have hG := hG.past hq (fun _ _ h => h)
    have hT := hT.past hq (fun _ _ h => h)
    have hH := hH.past hq (fun _ _ h => h)
    have hZ := hZ.past hq (fun _ _ h => h)
    have hO := hO.past hq (fun _ _ h => h)
    refine lv_if_eq (tgt := 31) hx hb dX7_would_19 (by decide) (fun c4 => ?_) (fun c4 => ?_)
    · replace h := h.1 c4
      refine g_ldc C kc_X7_79 dX7_would_31 ?_
      exact g_iret (post := Q) (P' := fun u H => rg G LG (x + 23) u H) (r := (-1000001)) (u := τ) C hr hK hS h hT dX7_would_33
    · replace h := h.2 c4
      refine lv_iload_n hx hb dX7_would_22 rfl (lv_at hl 3 rfl) ?_
      refine lv_iconst (v := 0) hx hb dX7_would_23 (by decide) ?_
      refine lv_iconst (v := 4) hx hb dX7_would_24 (by decide) ?_
      refine g_sI C hK hl.1 (m_X7_within l G x3 0 4 _ h) mw_X7_within ms_X7_within ml_X7_75 rfl ⟨rfl, rfl, Nat.le_of_ble_eq_true rfl, Nat.le_of_ble_eq_true rfl⟩ ⟨Nat.zero_le _, Nat.zero_le _⟩ trivial hS (fun _ h => h.elim) rfl (Nat.le_of_ble_eq_true rfl) dX7_would_25 (fun r5 u H locs h hu _ hq hS => ?_)
      have hX := hX.past hq (fun _ _ h => h)
      have hG := hG.past hq (fun _ _ h => h)
      have hT := hT.past hq (fun _ _ h => h)
      have hH := hH.past hq (fun _ _ h => h)
      have hZ := hZ.past hq (fun _ _ h => h)
      have hO := hO.past hq (fun _ _ h => h)
      refine lv_if_ne (tgt := 34) hx hb dX7_would_28 (by decide) (fun c6 => ?_) (fun c6 => ?_)
      · replace h := h.1 c6
        refine lv_aload_n hx hb dX7_would_34 rfl (lv_at hl 0 rfl) ?_
        refine g_vV C hK hl.1 (m_X7_startTrial l G x ξ γ τ η σ ο _ h) mw_X7_startTrial mi_X7_startTrial ml_X7_33 rfl ⟨rfl, rfl, Nat.le_of_ble_eq_true rfl, Nat.le_of_ble_eq_true rfl⟩ ⟨Nat.zero_le _, Nat.zero_le _⟩ (g_recv (a := x) (k := 0) hK hX rfl rfl) ⟨hX, hG, hT, hH, hZ, hO⟩ hS (fun _ h => h) rfl (Nat.le_of_ble_eq_true rfl) dX7_would_35 (fun u H locs h hu _ hq hS => ?_)
        obtain ⟨τ8, rfl⟩ : ∃ z, z = u := ⟨_, rfl⟩
        have hT := hu
        have hX := hX.past hq (fun j hj h => by have hj : j < 1 := hj; simp only [RA] at h; omega)
        have hG := hG.past hq (fun j hj h => by have hj : j < 22 := hj; simp only [RA] at h; omega)
        have hH := hH.past hq (fun j hj h => by have hj : j < 1 := hj; simp only [RA] at h; omega)
        have hZ := hZ.past hq (fun j hj h => by have hj : j < 89 := hj; simp only [RA] at h; omega)
        have hO := hO.past hq (fun j hj h => by have hj : j < 3 := hj; simp only [RA] at h; omega)
        refine lv_aload_n hx hb dX7_would_38 rfl (lv_at hl 0 rfl) ?_
        refine g_getR (a := x) (k := 0) (o := 23) C hK hX fl_X7_16 rfl rfl dX7_would_39 ?_
        refine lv_iload_n hx hb dX7_would_42 rfl (lv_at hl 2 rfl) ?_
        refine g_vI C hK hl.1 (m_X1_advance l G (x + 23) τ8 x2 _ h) mw_X1_advance mi_X1_advance ml_X7_187 rfl ⟨rfl, rfl, Nat.le_of_ble_eq_true rfl, Nat.le_of_ble_eq_true rfl⟩ ⟨Nat.zero_le _, Nat.zero_le _⟩ (g_recv (a := (x + 23)) (k := 0) hK hT rfl rfl) hT hS (fun _ h => h) rfl (Nat.le_of_ble_eq_true rfl) dX7_would_43 (fun r9 u H locs h hu _ hq hS => ?_)
        obtain ⟨τ10, rfl⟩ : ∃ z, z = u := ⟨_, rfl⟩
        have hT := hu
        have hX := hX.past hq (fun j hj h => by have hj : j < 1 := hj; simp only [RA] at h; omega)
        have hG := hG.past hq (fun j hj h => by have hj : j < 22 := hj; simp only [RA] at h; omega)
        have hH := hH.past hq (fun j hj h => by have hj : j < 1 := hj; simp only [RA] at h; omega)
        have hZ := hZ.past hq (fun j hj h => by have hj : j < 89 := hj; simp only [RA] at h; omega)
        have hO := hO.past hq (fun j hj h => by have hj : j < 3 := hj; simp only [RA] at h; omega)
        refine lv_pop hx hb dX7_would_46 rfl ?_
        refine lv_iload_n hx hb dX7_would_47 rfl (lv_at hl 3 rfl) ?_
        by_cases c11 : x3 = 3
        · replace h := h.1 c11
          refine lv_lookup (off := 28) (tgt := 76) hx hb dX7_would_48 (by decide) (by rw [c11]; rfl) (by decide) ?_
          refine lv_aload_n hx hb dX7_would_76 rfl (lv_at hl 0 rfl) ?_
          refine g_getR (a := x) (k := 0) (o := 23) C hK hX fl_X7_16 rfl rfl dX7_would_77 ?_
          refine g_getR (a := (x + 23)) (k := 0) (o := 1) C hK hT fl_X7_80 rfl rfl dX7_would_80 ?_
          refine g_getR (a := (x + 23)) (k := 1) (o := 3) C hK hT fl_X7_84 rfl rfl dX7_would_83 ?_
          refine lv_iload_n hx hb dX7_would_86 rfl (lv_at hl 1 rfl) ?_
          obtain ⟨b12, h⟩ := h
          refine g_ald (a := (x + 23)) (k := 3) (n := 4) C hK hT rfl b12 dX7_would_87 ?_
          exact g_iret (post := Q) (P' := fun u H => rg G LG (x + 23) u H) (r := (τ10 3 x1.toNatClampNeg)) (u := τ10) C hr hK hS h hT dX7_would_88
        · replace h := h.2 c11
          by_cases c13 : x3 = 4
          · replace h := h.1 c13
            refine lv_lookup (off := 41) (tgt := 89) hx hb dX7_would_48 (by decide) (by rw [c13]; rfl) (by decide) ?_
            refine lv_aload_n hx hb dX7_would_89 rfl (lv_at hl 0 rfl) ?_
            refine g_getR (a := x) (k := 0) (o := 23) C hK hX fl_X7_16 rfl rfl dX7_would_90 ?_
            refine g_getR (a := (x + 23)) (k := 0) (o := 4) C hK hT fl_X7_90 rfl rfl dX7_would_93 ?_
            refine lv_iload_n hx hb dX7_would_96 rfl (lv_at hl 1 rfl) ?_
            refine g_vI C hK hl.1 (m_X2_worksOf l G (x + 23) τ10 x1 _ h) mw_X2_worksOf mi_X2_worksOf ml_X7_94 rfl ⟨rfl, rfl, Nat.le_of_ble_eq_true rfl, Nat.le_of_ble_eq_true rfl⟩ ⟨Nat.zero_le _, Nat.zero_le _⟩ (g_recv (a := (x + 23)) (k := 4) hK hT rfl rfl) hT hS (fun _ h => h.elim) rfl (Nat.le_of_ble_eq_true rfl) dX7_would_97 (fun r14 u H locs h hu _ hq hS => ?_)
            have hX := hX.past hq (fun _ _ h => h)
            have hG := hG.past hq (fun _ _ h => h)
            have hT := hT.past hq (fun _ _ h => h)
            have hH := hH.past hq (fun _ _ h => h)
            have hZ := hZ.past hq (fun _ _ h => h)
            have hO := hO.past hq (fun _ _ h => h)
            refine lv_aload_n hx hb dX7_would_100 rfl (lv_at hl 0 rfl) ?_
            refine g_getR (a := x) (k := 0) (o := 1) C hK hX fl_X7_12 rfl rfl dX7_would_101 ?_
            refine g_getR (a := (x + 1)) (k := 0) (o := 4) C hK hG fl_X7_90 rfl rfl dX7_would_104 ?_
            refine lv_iload_n hx hb dX7_would_107 rfl (lv_at hl 1 rfl) ?_
            refine g_vI C hK hl.1 (m_X2_worksOf l G (x + 1) γ x1 _ h) mw_X2_worksOf mi_X2_worksOf ml_X7_94 rfl ⟨rfl, rfl, Nat.le_of_ble_eq_true rfl, Nat.le_of_ble_eq_true rfl⟩ ⟨Nat.zero_le _, Nat.zero_le _⟩ (g_recv (a := (x + 1)) (k := 4) hK hG rfl rfl) hG hS (fun _ h => h.elim) rfl (Nat.le_of_ble_eq_true rfl) dX7_would_108 (fun r15 u H locs h hu _ hq hS => ?_)
            have hX := hX.past hq (fun _ _ h => h)
            have hG := hG.past hq (fun _ _ h => h)
            have hT := hT.past hq (fun _ _ h => h)
            have hH := hH.past hq (fun _ _ h => h)
            have hZ := hZ.past hq (fun _ _ h => h)
            have hO := hO.past hq (fun _ _ h => h)
            refine lv_isub hx hb dX7_would_111 ?_
            exact g_iret (post := Q) (P' := fun u H => rg G LG (x + 23) u H) (r := (r14 - r15)) (u := τ10) C hr hK hS h hT dX7_would_112
          · replace h := h.2 c13
            refine lv_lookup (off := 65) (tgt := 113) hx hb dX7_would_48 (by decide) (by simp only [List.toList_toArray]; rw [lv_osw c11 (by rfl), lv_osw c13 (by rfl)]; rfl) (by decide) ?_
            refine lv_aload_n hx hb dX7_would_113 rfl (lv_at hl 0 rfl) ?_
            refine g_getR (a := x) (k := 0) (o := 23) C hK hX fl_X7_16 rfl rfl dX7_would_114 ?_
            refine g_getR (a := (x + 23)) (k := 0) (o := 1) C hK hT fl_X7_80 rfl rfl dX7_would_117 ?_
            refine lv_iload_n hx hb dX7_would_120 rfl (lv_at hl 1 rfl) ?_
            refine lv_iload_n hx hb dX7_would_121 rfl (lv_at hl 3 rfl) ?_
            refine g_vI C hK hl.1 (m_X5_amountOf l G (x + 23) τ10 x1 x3 _ h) mw_X5_amountOf mi_X5_amountOf ml_X7_108 rfl ⟨rfl, rfl, Nat.le_of_ble_eq_true rfl, Nat.le_of_ble_eq_true rfl⟩ ⟨Nat.zero_le _, Nat.zero_le _⟩ (g_recv (a := (x + 23)) (k := 1) hK hT rfl rfl) hT hS (fun _ h => h.elim) rfl (Nat.le_of_ble_eq_true rfl) dX7_would_122 (fun r16 u H locs h hu _ hq hS => ?_)
            have hX := hX.past hq (fun _ _ h => h)
            have hG := hG.past hq (fun _ _ h => h)
            have hT := hT.past hq (fun _ _ h => h)
            have hH := hH.past hq (fun _ _ h => h)
            have hZ := hZ.past hq (fun _ _ h => h)
            have hO := hO.past hq (fun _ _ h => h)
            exact g_iret (post := Q) (P' := fun u H => rg G LG (x + 23) u H) (r := r16) (u := τ10) C hr hK hS h hT dX7_would_125
      · replace h := h.2 c6
        refine g_ldc C kc_X7_79 dX7_would_31 ?_
        exact g_iret (post := Q) (P' := fun u H => rg G LG (x + 23) u H) (r := (-1000001)) (u := τ) C hr hK hS h hT dX7_would_33
theorem dX7_best_0 : decode cX7_best 0 = .ok (.aload_n 0, 1) := by decide +kernel
theorem dX7_best_1 : decode cX7_best 1 = .ok (.getfield 12, 3) := by decide +kernel
theorem dX7_best_4 : decode cX7_best 4 = .ok (.iload_n 1, 1) := by decide +kernel
theorem dX7_best_5 : decode cX7_best 5 = .ok (.iload_n 2, 1) := by decide +kernel
theorem dX7_best_6 : decode cX7_best 6 = .ok (.invokevirtual 111, 3) := by decide +kernel
theorem dX7_best_9 : decode cX7_best 9 = .ok (.ifCond .eq 12, 3) := by decide +kernel
theorem dX7_best_12 : decode cX7_best 12 = .ok (.iload_n 3, 1) := by decide +kernel
theorem dX7_best_13 : decode cX7_best 13 = .ok (.iconst 0, 1) := by decide +kernel
theorem dX7_best_14 : decode cX7_best 14 = .ok (.iconst 1, 1) := by decide +kernel
theorem dX7_best_15 : decode cX7_best 15 = .ok (.invokestatic 75, 3) := by decide +kernel
theorem dX7_best_18 : decode cX7_best 18 = .ok (.ifCond .ne 6, 3) := by decide +kernel
theorem dX7_best_21 : decode cX7_best 21 = .ok (.ldc 79, 2) := by decide +kernel
theorem dX7_best_23 : decode cX7_best 23 = .ok (.ireturn, 1) := by decide +kernel
theorem dX7_best_24 : decode cX7_best 24 = .ok (.iload_n 1, 1) := by decide +kernel
theorem dX7_best_25 : decode cX7_best 25 = .ok (.iload_n 2, 1) := by decide +kernel
theorem dX7_best_26 : decode cX7_best 26 = .ok (.invokestatic 115, 3) := by decide +kernel
theorem dX7_best_29 : decode cX7_best 29 = .ok (.istore 4, 2) := by decide +kernel
theorem dX7_best_31 : decode cX7_best 31 = .ok (.aload_n 0, 1) := by decide +kernel
theorem dX7_best_32 : decode cX7_best 32 = .ok (.getfield 12, 3) := by decide +kernel
theorem dX7_best_35 : decode cX7_best 35 = .ok (.getfield 90, 3) := by decide +kernel
theorem dX7_best_38 : decode cX7_best 38 = .ok (.iload 4, 2) := by decide +kernel
theorem dX7_best_40 : decode cX7_best 40 = .ok (.invokevirtual 190, 3) := by decide +kernel
theorem dX7_best_43 : decode cX7_best 43 = .ok (.ifCond .ne 6, 3) := by decide +kernel
theorem dX7_best_46 : decode cX7_best 46 = .ok (.ldc 193, 2) := by decide +kernel
theorem dX7_best_48 : decode cX7_best 48 = .ok (.ireturn, 1) := by decide +kernel
theorem dX7_best_49 : decode cX7_best 49 = .ok (.aload_n 0, 1) := by decide +kernel
theorem dX7_best_50 : decode cX7_best 50 = .ok (.getfield 12, 3) := by decide +kernel
theorem dX7_best_53 : decode cX7_best 53 = .ok (.iload 4, 2) := by decide +kernel
theorem dX7_best_55 : decode cX7_best 55 = .ok (.invokevirtual 194, 3) := by decide +kernel
theorem dX7_best_58 : decode cX7_best 58 = .ok (.istore 5, 2) := by decide +kernel
theorem dX7_best_60 : decode cX7_best 60 = .ok (.iload 5, 2) := by decide +kernel
theorem dX7_best_62 : decode cX7_best 62 = .ok (.iconst (-1), 1) := by decide +kernel
theorem dX7_best_63 : decode cX7_best 63 = .ok (.if_icmp .ne 6, 3) := by decide +kernel
theorem dX7_best_66 : decode cX7_best 66 = .ok (.ldc 124, 2) := by decide +kernel
theorem dX7_best_68 : decode cX7_best 68 = .ok (.ireturn, 1) := by decide +kernel
theorem dX7_best_69 : decode cX7_best 69 = .ok (.iload_n 3, 1) := by decide +kernel
theorem dX7_best_70 : decode cX7_best 70 = .ok (.ifCond .ne 8, 3) := by decide +kernel
theorem dX7_best_73 : decode cX7_best 73 = .ok (.iload 5, 2) := by decide +kernel
theorem dX7_best_75 : decode cX7_best 75 = .ok (.goto 18, 3) := by decide +kernel
theorem dX7_best_78 : decode cX7_best 78 = .ok (.aload_n 0, 1) := by decide +kernel
theorem dX7_best_79 : decode cX7_best 79 = .ok (.getfield 12, 3) := by decide +kernel
theorem dX7_best_82 : decode cX7_best 82 = .ok (.getfield 140, 3) := by decide +kernel
theorem dX7_best_85 : decode cX7_best 85 = .ok (.iload 5, 2) := by decide +kernel
theorem dX7_best_87 : decode cX7_best 87 = .ok (.invokevirtual 197, 3) := by decide +kernel
theorem dX7_best_90 : decode cX7_best 90 = .ok (.bipush 100, 2) := by decide +kernel
theorem dX7_best_92 : decode cX7_best 92 = .ok (.iadd, 1) := by decide +kernel
theorem dX7_best_93 : decode cX7_best 93 = .ok (.ireturn, 1) := by decide +kernel
def vc_X7_best (Q : Int32 → Prop) (ξ : Mem) (γ : Mem) (τ : Mem) (η : Mem) (σ : (Nat → Mem)) (ο : Mem) (x1 : Int32) (x2 : Int32) (x3 : Int32) : Prop :=
  vc_X1_hasWorker (fun r1 => ((r1 = 0) → (Q (-1000001) )) ∧ ((¬ r1 = 0) → (vc_X7_within (fun r3 => ((¬ r3 = 0) → (vc_X7_glassOf (fun r5 => vc_X2_isOut (fun r6 => ((¬ r6 = 0) → (vc_X1_bestTask (fun r8 => ((¬ r8 = (-1)) → (((¬ x3 = 0) → (vc_X6_differenceOf (fun r11 => Q (r11 + 100) ) γ r8)) ∧ ((x3 = 0) → (Q r8 )))) ∧ ((r8 = (-1)) → (Q (-1000004) ))) γ r5)) ∧ ((r6 = 0) → (Q (-1000002) ))) γ r5) x1 x2)) ∧ ((r3 = 0) → (Q (-1000001) ))) x3 0 1))) γ x1 x2
set_option maxHeartbeats 8000000 in
set_option maxRecDepth 100000 in
theorem m_X7_best (l : Launch) (G : GG) (x : Nat) (ξ : Mem) (γ : Mem) (τ : Mem) (η : Mem) (σ : (Nat → Mem)) (ο : Mem) (x1 : Int32) (x2 : Int32) (x3 : Int32) (Q : Int32 → Prop) (h : vc_X7_best Q ξ γ τ η σ ο x1 x2 x3) : CtI l yX7_best cX7_best 6 (some .int) { frames := 4, cells := 0, slots := 0, locals := 91 } [.ref (x + 0), .int x1, .int x2, .int x3] G (fun H => rg G LX x ξ H ∧ rg G LG (x + 1) γ H ∧ rg G LG (x + 23) τ H ∧ rg G LH (x + 45) η H ∧ HG G (x + 46) σ H ∧ rg G LO (x + 135) ο H) (fun r (_ : Unit) => Q r) (fun _ _ => True) (fun _ => False) := by
  unfold CtI
  refine met_start (y := yX7_best) (maxL := 6) (av := [.ref (x + 0), .int x1, .int x2, .int x3]) (G := G) (P := fun H => rg G LX x ξ H ∧ rg G LG (x + 1) γ H ∧ rg G LG (x + 23) τ H ∧ rg G LH (x + 45) η H ∧ HG G (x + 46) σ H ∧ rg G LO (x + 135) ο H) (by decide) rfl (Nat.le_of_ble_eq_true rfl) (fun p e s m below meth c ls C hr hP hK hl => ?_)
  obtain ⟨hx, hb, hml, hown, hts, hlocks⟩ := id C
  obtain ⟨hX, hG, hT, hH, hZ, hO⟩ := hP
  have hS : va_S (fun _ => False) s.heap s.heap [] := va_S.rf
  have hl : lv_has ls 6 [(0, .ref (x + 0)), (1, .int x1), (2, .int x2), (3, .int x3)] := hl
  unfold vc_X7_best at h
  refine lv_aload_n hx hb dX7_best_0 rfl (lv_at hl 0 rfl) ?_
  refine g_getR (a := x) (k := 0) (o := 1) C hK hX fl_X7_12 rfl rfl dX7_best_1 ?_
  refine lv_iload_n hx hb dX7_best_4 rfl (lv_at hl 1 rfl) ?_
  refine lv_iload_n hx hb dX7_best_5 rfl (lv_at hl 2 rfl) ?_
  refine g_vI C hK hl.1 (m_X1_hasWorker l G (x + 1) γ x1 x2 _ h) mw_X1_hasWorker mi_X1_hasWorker ml_X7_111 rfl ⟨rfl, rfl, Nat.le_of_ble_eq_true rfl, Nat.le_of_ble_eq_true rfl⟩ ⟨Nat.zero_le _, Nat.zero_le _⟩ (g_recv (a := (x + 1)) (k := 0) hK hG rfl rfl) hG hS (fun _ h => h.elim) rfl (Nat.le_of_ble_eq_true rfl) dX7_best_6 (fun r1 u H locs h hu _ hq hS => ?_)
  have hX := hX.past hq (fun _ _ h => h)
  have hG := hG.past hq (fun _ _ h => h)
  have hT := hT.past hq (fun _ _ h => h)
  have hH := hH.past hq (fun _ _ h => h)
  have hZ := hZ.past hq (fun _ _ h => h)
  have hO := hO.past hq (fun _ _ h => h)
  refine lv_if_eq (tgt := 21) hx hb dX7_best_9 (by decide) (fun c2 => ?_) (fun c2 => ?_)
  · replace h := h.1 c2
    refine g_ldc C kc_X7_79 dX7_best_21 ?_
    exact g_iret (post := fun r (_ : Unit) => Q r) (P' := fun _ _ => True) (r := (-1000001)) (u := ()) C hr hK hS h trivial dX7_best_23
  · replace h := h.2 c2
    refine lv_iload_n hx hb dX7_best_12 rfl (lv_at hl 3 rfl) ?_
    refine lv_iconst (v := 0) hx hb dX7_best_13 (by decide) ?_
    refine lv_iconst (v := 1) hx hb dX7_best_14 (by decide) ?_
    refine g_sI C hK hl.1 (m_X7_within l G x3 0 1 _ h) mw_X7_within ms_X7_within ml_X7_75 rfl ⟨rfl, rfl, Nat.le_of_ble_eq_true rfl, Nat.le_of_ble_eq_true rfl⟩ ⟨Nat.zero_le _, Nat.zero_le _⟩ trivial hS (fun _ h => h.elim) rfl (Nat.le_of_ble_eq_true rfl) dX7_best_15 (fun r3 u H locs h hu _ hq hS => ?_)
    have hX := hX.past hq (fun _ _ h => h)
    have hG := hG.past hq (fun _ _ h => h)
    have hT := hT.past hq (fun _ _ h => h)
    have hH := hH.past hq (fun _ _ h => h)
    have hZ := hZ.past hq (fun _ _ h => h)
    have hO := hO.past hq (fun _ _ h => h)
    refine lv_if_ne (tgt := 24) hx hb dX7_best_18 (by decide) (fun c4 => ?_) (fun c4 => ?_)
    · replace h := h.1 c4
      refine lv_iload_n hx hb dX7_best_24 rfl (lv_at hl 1 rfl) ?_
      refine lv_iload_n hx hb dX7_best_25 rfl (lv_at hl 2 rfl) ?_
      refine g_sI C hK hl.1 (m_X7_glassOf l G x1 x2 _ h) mw_X7_glassOf ms_X7_glassOf ml_X7_115 rfl ⟨rfl, rfl, Nat.le_of_ble_eq_true rfl, Nat.le_of_ble_eq_true rfl⟩ ⟨Nat.zero_le _, Nat.zero_le _⟩ trivial hS (fun _ h => h.elim) rfl (Nat.le_of_ble_eq_true rfl) dX7_best_26 (fun r5 u H locs h hu _ hq hS => ?_)
      have hX := hX.past hq (fun _ _ h => h)
      have hG := hG.past hq (fun _ _ h => h)
      have hT := hT.past hq (fun _ _ h => h)
      have hH := hH.past hq (fun _ _ h => h)
      have hZ := hZ.past hq (fun _ _ h => h)
      have hO := hO.past hq (fun _ _ h => h)
      refine lv_istore (lv' := [(4, .int r5), (0, .ref (x + 0)), (1, .int x1), (2, .int x2), (3, .int x3)]) hx hb dX7_best_29 hl (by decide) rfl (fun ls hl => ?_)
      refine lv_aload_n hx hb dX7_best_31 rfl (lv_at hl 1 rfl) ?_
      refine g_getR (a := x) (k := 0) (o := 1) C hK hX fl_X7_12 rfl rfl dX7_best_32 ?_
      refine g_getR (a := (x + 1)) (k := 0) (o := 4) C hK hG fl_X7_90 rfl rfl dX7_best_35 ?_
      refine lv_iload hx hb dX7_best_38 (lv_at hl 0 rfl) ?_
      refine g_vI C hK hl.1 (m_X2_isOut l G (x + 1) γ r5 _ h) mw_X2_isOut mi_X2_isOut ml_X7_190 rfl ⟨rfl, rfl, Nat.le_of_ble_eq_true rfl, Nat.le_of_ble_eq_true rfl⟩ ⟨Nat.zero_le _, Nat.zero_le _⟩ (g_recv (a := (x + 1)) (k := 4) hK hG rfl rfl) hG hS (fun _ h => h.elim) rfl (Nat.le_of_ble_eq_true rfl) dX7_best_40 (fun r6 u H locs h hu _ hq hS => ?_)
      have hX := hX.past hq (fun _ _ h => h)
      have hG := hG.past hq (fun _ _ h => h)
      have hT := hT.past hq (fun _ _ h => h)
      have hH := hH.past hq (fun _ _ h => h)
      have hZ := hZ.past hq (fun _ _ h => h)
      have hO := hO.past hq (fun _ _ h => h)
      refine lv_if_ne (tgt := 49) hx hb dX7_best_43 (by decide) (fun c7 => ?_) (fun c7 => ?_)
      · replace h := h.1 c7
        refine lv_aload_n hx hb dX7_best_49 rfl (lv_at hl 1 rfl) ?_
        refine g_getR (a := x) (k := 0) (o := 1) C hK hX fl_X7_12 rfl rfl dX7_best_50 ?_
        refine lv_iload hx hb dX7_best_53 (lv_at hl 0 rfl) ?_
        refine g_vI C hK hl.1 (m_X1_bestTask l G (x + 1) γ r5 _ h) mw_X1_bestTask mi_X1_bestTask ml_X7_194 rfl ⟨rfl, rfl, Nat.le_of_ble_eq_true rfl, Nat.le_of_ble_eq_true rfl⟩ ⟨Nat.zero_le _, Nat.zero_le _⟩ (g_recv (a := (x + 1)) (k := 0) hK hG rfl rfl) hG hS (fun _ h => h.elim) rfl (Nat.le_of_ble_eq_true rfl) dX7_best_55 (fun r8 u H locs h hu _ hq hS => ?_)
        have hX := hX.past hq (fun _ _ h => h)
        have hG := hG.past hq (fun _ _ h => h)
        have hT := hT.past hq (fun _ _ h => h)
        have hH := hH.past hq (fun _ _ h => h)
        have hZ := hZ.past hq (fun _ _ h => h)
        have hO := hO.past hq (fun _ _ h => h)
        refine lv_istore (lv' := [(5, .int r8), (4, .int r5), (0, .ref (x + 0)), (1, .int x1), (2, .int x2), (3, .int x3)]) hx hb dX7_best_58 hl (by decide) rfl (fun ls hl => ?_)
        refine lv_iload hx hb dX7_best_60 (lv_at hl 0 rfl) ?_
        refine lv_iconst (v := (-1)) hx hb dX7_best_62 (by decide) ?_
        refine lv_icmp_ne (tgt := 69) hx hb dX7_best_63 (by decide) (fun c9 => ?_) (fun c9 => ?_)
        · replace h := h.1 c9
          refine lv_iload_n hx hb dX7_best_69 rfl (lv_at hl 5 rfl) ?_
          refine lv_if_ne (tgt := 78) hx hb dX7_best_70 (by decide) (fun c10 => ?_) (fun c10 => ?_)
          · replace h := h.1 c10
            refine lv_aload_n hx hb dX7_best_78 rfl (lv_at hl 2 rfl) ?_
            refine g_getR (a := x) (k := 0) (o := 1) C hK hX fl_X7_12 rfl rfl dX7_best_79 ?_
            refine g_getR (a := (x + 1)) (k := 0) (o := 12) C hK hG fl_X7_140 rfl rfl dX7_best_82 ?_
            refine lv_iload hx hb dX7_best_85 (lv_at hl 0 rfl) ?_
            refine g_vI C hK hl.1 (m_X6_differenceOf l G (x + 1) γ r8 _ h) mw_X6_differenceOf mi_X6_differenceOf ml_X7_197 rfl ⟨rfl, rfl, Nat.le_of_ble_eq_true rfl, Nat.le_of_ble_eq_true rfl⟩ ⟨Nat.zero_le _, Nat.zero_le _⟩ (g_recv (a := (x + 1)) (k := 12) hK hG rfl rfl) hG hS (fun _ h => h.elim) rfl (Nat.le_of_ble_eq_true rfl) dX7_best_87 (fun r11 u H locs h hu _ hq hS => ?_)
            have hX := hX.past hq (fun _ _ h => h)
            have hG := hG.past hq (fun _ _ h => h)
            have hT := hT.past hq (fun _ _ h => h)
            have hH := hH.past hq (fun _ _ h => h)
            have hZ := hZ.past hq (fun _ _ h => h)
            have hO := hO.past hq (fun _ _ h => h)
            refine lv_bipush (v := 100) hx hb dX7_best_90 (by decide) ?_
            refine lv_iadd hx hb dX7_best_92 ?_
            exact g_iret (post := fun r (_ : Unit) => Q r) (P' := fun _ _ => True) (r := (r11 + 100)) (u := ()) C hr hK hS h trivial dX7_best_93
          · replace h := h.2 c10
            refine lv_iload hx hb dX7_best_73 (lv_at hl 0 rfl) ?_
            refine lv_goto (tgt := 93) hx hb dX7_best_75 (by decide) ?_
            exact g_iret (post := fun r (_ : Unit) => Q r) (P' := fun _ _ => True) (r := r8) (u := ()) C hr hK hS h trivial dX7_best_93
        · replace h := h.2 c9
          refine g_ldc C kc_X7_124 dX7_best_66 ?_
          exact g_iret (post := fun r (_ : Unit) => Q r) (P' := fun _ _ => True) (r := (-1000004)) (u := ()) C hr hK hS h trivial dX7_best_68
      · replace h := h.2 c7
        refine g_ldc C kc_X7_193 dX7_best_46 ?_
        exact g_iret (post := fun r (_ : Unit) => Q r) (P' := fun _ _ => True) (r := (-1000002)) (u := ()) C hr hK hS h trivial dX7_best_48
    · replace h := h.2 c4
      refine g_ldc C kc_X7_79 dX7_best_21 ?_
      exact g_iret (post := fun r (_ : Unit) => Q r) (P' := fun _ _ => True) (r := (-1000001)) (u := ()) C hr hK hS h trivial dX7_best_23
theorem dX7_earns_0 : decode cX7_earns 0 = .ok (.aload_n 0, 1) := by decide +kernel
theorem dX7_earns_1 : decode cX7_earns 1 = .ok (.getfield 12, 3) := by decide +kernel
theorem dX7_earns_4 : decode cX7_earns 4 = .ok (.iload_n 1, 1) := by decide +kernel
theorem dX7_earns_5 : decode cX7_earns 5 = .ok (.invokevirtual 71, 3) := by decide +kernel
theorem dX7_earns_8 : decode cX7_earns 8 = .ok (.ifCond .eq 25, 3) := by decide +kernel
theorem dX7_earns_11 : decode cX7_earns 11 = .ok (.aload_n 0, 1) := by decide +kernel
theorem dX7_earns_12 : decode cX7_earns 12 = .ok (.getfield 12, 3) := by decide +kernel
theorem dX7_earns_15 : decode cX7_earns 15 = .ok (.iload_n 2, 1) := by decide +kernel
theorem dX7_earns_16 : decode cX7_earns 16 = .ok (.invokevirtual 168, 3) := by decide +kernel
theorem dX7_earns_19 : decode cX7_earns 19 = .ok (.ifCond .eq 14, 3) := by decide +kernel
theorem dX7_earns_22 : decode cX7_earns 22 = .ok (.aload_n 0, 1) := by decide +kernel
theorem dX7_earns_23 : decode cX7_earns 23 = .ok (.getfield 12, 3) := by decide +kernel
theorem dX7_earns_26 : decode cX7_earns 26 = .ok (.iload_n 3, 1) := by decide +kernel
theorem dX7_earns_27 : decode cX7_earns 27 = .ok (.invokevirtual 137, 3) := by decide +kernel
theorem dX7_earns_30 : decode cX7_earns 30 = .ok (.ifCond .ne 6, 3) := by decide +kernel
theorem dX7_earns_33 : decode cX7_earns 33 = .ok (.ldc 79, 2) := by decide +kernel
theorem dX7_earns_35 : decode cX7_earns 35 = .ok (.ireturn, 1) := by decide +kernel
theorem dX7_earns_36 : decode cX7_earns 36 = .ok (.aload_n 0, 1) := by decide +kernel
theorem dX7_earns_37 : decode cX7_earns 37 = .ok (.invokevirtual 33, 3) := by decide +kernel
theorem dX7_earns_40 : decode cX7_earns 40 = .ok (.aload_n 0, 1) := by decide +kernel
theorem dX7_earns_41 : decode cX7_earns 41 = .ok (.getfield 16, 3) := by decide +kernel
theorem dX7_earns_44 : decode cX7_earns 44 = .ok (.iload_n 1, 1) := by decide +kernel
theorem dX7_earns_45 : decode cX7_earns 45 = .ok (.aload_n 0, 1) := by decide +kernel
theorem dX7_earns_46 : decode cX7_earns 46 = .ok (.getfield 12, 3) := by decide +kernel
theorem dX7_earns_49 : decode cX7_earns 49 = .ok (.getfield 171, 3) := by decide +kernel
theorem dX7_earns_52 : decode cX7_earns 52 = .ok (.getfield 175, 3) := by decide +kernel
theorem dX7_earns_55 : decode cX7_earns 55 = .ok (.iload_n 2, 1) := by decide +kernel
theorem dX7_earns_56 : decode cX7_earns 56 = .ok (.iaload, 1) := by decide +kernel
theorem dX7_earns_57 : decode cX7_earns 57 = .ok (.iload_n 3, 1) := by decide +kernel
theorem dX7_earns_58 : decode cX7_earns 58 = .ok (.invokevirtual 200, 3) := by decide +kernel
theorem dX7_earns_61 : decode cX7_earns 61 = .ok (.ireturn, 1) := by decide +kernel
def vc_X7_earns (Q : Int32 → Mem → Prop) (ξ : Mem) (γ : Mem) (τ : Mem) (η : Mem) (σ : (Nat → Mem)) (ο : Mem) (x1 : Int32) (x2 : Int32) (x3 : Int32) : Prop :=
  vc_X1_hasPlayer (fun r1 => ((r1 = 0) → (Q (-1000001) τ)) ∧ ((¬ r1 = 0) → (vc_X1_hasContract (fun r3 => ((r3 = 0) → (Q (-1000001) τ)) ∧ ((¬ r3 = 0) → (vc_X1_hasTask (fun r5 => ((¬ r5 = 0) → (vc_X7_startTrial (fun τ8 => vp_in x2 6 ∧ (vc_X1_untilAffordable (fun r10 τ11 => Q r10 τ11) τ8 x1 (γ 19 x2.toNatClampNeg) x3)) ξ γ τ η σ ο)) ∧ ((r5 = 0) → (Q (-1000001) τ))) γ x3))) γ x2))) γ x1
set_option maxHeartbeats 8000000 in
set_option maxRecDepth 100000 in
theorem m_X7_earns (l : Launch) (G : GG) (x : Nat) (ξ : Mem) (γ : Mem) (τ : Mem) (η : Mem) (σ : (Nat → Mem)) (ο : Mem) (x1 : Int32) (x2 : Int32) (x3 : Int32) (Q : Int32 → Mem → Prop) (h : vc_X7_earns Q ξ γ τ η σ ο x1 x2 x3) : CtI l yX7_earns cX7_earns 4 (some .int) { frames := 5, cells := 0, slots := 0, locals := 123 } [.ref (x + 0), .int x1, .int x2, .int x3] G (fun H => rg G LX x ξ H ∧ rg G LG (x + 1) γ H ∧ rg G LG (x + 23) τ H ∧ rg G LH (x + 45) η H ∧ HG G (x + 46) σ H ∧ rg G LO (x + 135) ο H) (Q) (fun u H => rg G LG (x + 23) u H) (RA (x + 23) 22) := by
  unfold CtI
  refine met_start (y := yX7_earns) (maxL := 4) (av := [.ref (x + 0), .int x1, .int x2, .int x3]) (G := G) (P := fun H => rg G LX x ξ H ∧ rg G LG (x + 1) γ H ∧ rg G LG (x + 23) τ H ∧ rg G LH (x + 45) η H ∧ HG G (x + 46) σ H ∧ rg G LO (x + 135) ο H) (by decide) rfl (Nat.le_of_ble_eq_true rfl) (fun p e s m below meth c ls C hr hP hK hl => ?_)
  obtain ⟨hx, hb, hml, hown, hts, hlocks⟩ := id C
  obtain ⟨hX, hG, hT, hH, hZ, hO⟩ := hP
  have hS : va_S (RA (x + 23) 22) s.heap s.heap [] := va_S.rf
  have hl : lv_has ls 4 [(0, .ref (x + 0)), (1, .int x1), (2, .int x2), (3, .int x3)] := hl
  unfold vc_X7_earns at h
  refine lv_aload_n hx hb dX7_earns_0 rfl (lv_at hl 0 rfl) ?_
  refine g_getR (a := x) (k := 0) (o := 1) C hK hX fl_X7_12 rfl rfl dX7_earns_1 ?_
  refine lv_iload_n hx hb dX7_earns_4 rfl (lv_at hl 1 rfl) ?_
  refine g_vI C hK hl.1 (m_X1_hasPlayer l G (x + 1) γ x1 _ h) mw_X1_hasPlayer mi_X1_hasPlayer ml_X7_71 rfl ⟨rfl, rfl, Nat.le_of_ble_eq_true rfl, Nat.le_of_ble_eq_true rfl⟩ ⟨Nat.zero_le _, Nat.zero_le _⟩ (g_recv (a := (x + 1)) (k := 0) hK hG rfl rfl) hG hS (fun _ h => h.elim) rfl (Nat.le_of_ble_eq_true rfl) dX7_earns_5 (fun r1 u H locs h hu _ hq hS => ?_)
  have hX := hX.past hq (fun _ _ h => h)
  have hG := hG.past hq (fun _ _ h => h)
  have hT := hT.past hq (fun _ _ h => h)
  have hH := hH.past hq (fun _ _ h => h)
  have hZ := hZ.past hq (fun _ _ h => h)
  have hO := hO.past hq (fun _ _ h => h)
  refine lv_if_eq (tgt := 33) hx hb dX7_earns_8 (by decide) (fun c2 => ?_) (fun c2 => ?_)
  · replace h := h.1 c2
    refine g_ldc C kc_X7_79 dX7_earns_33 ?_
    exact g_iret (post := Q) (P' := fun u H => rg G LG (x + 23) u H) (r := (-1000001)) (u := τ) C hr hK hS h hT dX7_earns_35
  · replace h := h.2 c2
    refine lv_aload_n hx hb dX7_earns_11 rfl (lv_at hl 0 rfl) ?_
    refine g_getR (a := x) (k := 0) (o := 1) C hK hX fl_X7_12 rfl rfl dX7_earns_12 ?_
    refine lv_iload_n hx hb dX7_earns_15 rfl (lv_at hl 2 rfl) ?_
    refine g_vI C hK hl.1 (m_X1_hasContract l G (x + 1) γ x2 _ h) mw_X1_hasContract mi_X1_hasContract ml_X7_168 rfl ⟨rfl, rfl, Nat.le_of_ble_eq_true rfl, Nat.le_of_ble_eq_true rfl⟩ ⟨Nat.zero_le _, Nat.zero_le _⟩ (g_recv (a := (x + 1)) (k := 0) hK hG rfl rfl) hG hS (fun _ h => h.elim) rfl (Nat.le_of_ble_eq_true rfl) dX7_earns_16 (fun r3 u H locs h hu _ hq hS => ?_)
    have hX := hX.past hq (fun _ _ h => h)
    have hG := hG.past hq (fun _ _ h => h)
    have hT := hT.past hq (fun _ _ h => h)
    have hH := hH.past hq (fun _ _ h => h)
    have hZ := hZ.past hq (fun _ _ h => h)
    have hO := hO.past hq (fun _ _ h => h)
    refine lv_if_eq (tgt := 33) hx hb dX7_earns_19 (by decide) (fun c4 => ?_) (fun c4 => ?_)
    · replace h := h.1 c4
      refine g_ldc C kc_X7_79 dX7_earns_33 ?_
      exact g_iret (post := Q) (P' := fun u H => rg G LG (x + 23) u H) (r := (-1000001)) (u := τ) C hr hK hS h hT dX7_earns_35
    · replace h := h.2 c4
      refine lv_aload_n hx hb dX7_earns_22 rfl (lv_at hl 0 rfl) ?_
      refine g_getR (a := x) (k := 0) (o := 1) C hK hX fl_X7_12 rfl rfl dX7_earns_23 ?_
      refine lv_iload_n hx hb dX7_earns_26 rfl (lv_at hl 3 rfl) ?_
      refine g_vI C hK hl.1 (m_X1_hasTask l G (x + 1) γ x3 _ h) mw_X1_hasTask mi_X1_hasTask ml_X7_137 rfl ⟨rfl, rfl, Nat.le_of_ble_eq_true rfl, Nat.le_of_ble_eq_true rfl⟩ ⟨Nat.zero_le _, Nat.zero_le _⟩ (g_recv (a := (x + 1)) (k := 0) hK hG rfl rfl) hG hS (fun _ h => h.elim) rfl (Nat.le_of_ble_eq_true rfl) dX7_earns_27 (fun r5 u H locs h hu _ hq hS => ?_)
      have hX := hX.past hq (fun _ _ h => h)
      have hG := hG.past hq (fun _ _ h => h)
      have hT := hT.past hq (fun _ _ h => h)
      have hH := hH.past hq (fun _ _ h => h)
      have hZ := hZ.past hq (fun _ _ h => h)
      have hO := hO.past hq (fun _ _ h => h)
      refine lv_if_ne (tgt := 36) hx hb dX7_earns_30 (by decide) (fun c6 => ?_) (fun c6 => ?_)
      · replace h := h.1 c6
        refine lv_aload_n hx hb dX7_earns_36 rfl (lv_at hl 0 rfl) ?_
        refine g_vV C hK hl.1 (m_X7_startTrial l G x ξ γ τ η σ ο _ h) mw_X7_startTrial mi_X7_startTrial ml_X7_33 rfl ⟨rfl, rfl, Nat.le_of_ble_eq_true rfl, Nat.le_of_ble_eq_true rfl⟩ ⟨Nat.zero_le _, Nat.zero_le _⟩ (g_recv (a := x) (k := 0) hK hX rfl rfl) ⟨hX, hG, hT, hH, hZ, hO⟩ hS (fun _ h => h) rfl (Nat.le_of_ble_eq_true rfl) dX7_earns_37 (fun u H locs h hu _ hq hS => ?_)
        obtain ⟨τ8, rfl⟩ : ∃ z, z = u := ⟨_, rfl⟩
        have hT := hu
        have hX := hX.past hq (fun j hj h => by have hj : j < 1 := hj; simp only [RA] at h; omega)
        have hG := hG.past hq (fun j hj h => by have hj : j < 22 := hj; simp only [RA] at h; omega)
        have hH := hH.past hq (fun j hj h => by have hj : j < 1 := hj; simp only [RA] at h; omega)
        have hZ := hZ.past hq (fun j hj h => by have hj : j < 89 := hj; simp only [RA] at h; omega)
        have hO := hO.past hq (fun j hj h => by have hj : j < 3 := hj; simp only [RA] at h; omega)
        refine lv_aload_n hx hb dX7_earns_40 rfl (lv_at hl 0 rfl) ?_
        refine g_getR (a := x) (k := 0) (o := 23) C hK hX fl_X7_16 rfl rfl dX7_earns_41 ?_
        refine lv_iload_n hx hb dX7_earns_44 rfl (lv_at hl 1 rfl) ?_
        refine lv_aload_n hx hb dX7_earns_45 rfl (lv_at hl 0 rfl) ?_
        refine g_getR (a := x) (k := 0) (o := 1) C hK hX fl_X7_12 rfl rfl dX7_earns_46 ?_
        refine g_getR (a := (x + 1)) (k := 0) (o := 18) C hK hG fl_X7_171 rfl rfl dX7_earns_49 ?_
        refine g_getR (a := (x + 1)) (k := 18) (o := 19) C hK hG fl_X7_175 rfl rfl dX7_earns_52 ?_
        refine lv_iload_n hx hb dX7_earns_55 rfl (lv_at hl 2 rfl) ?_
        obtain ⟨b9, h⟩ := h
        refine g_ald (a := (x + 1)) (k := 19) (n := 6) C hK hG rfl b9 dX7_earns_56 ?_
        refine lv_iload_n hx hb dX7_earns_57 rfl (lv_at hl 3 rfl) ?_
        refine g_vI C hK hl.1 (m_X1_untilAffordable l G (x + 23) τ8 x1 (γ 19 x2.toNatClampNeg) x3 _ h) mw_X1_untilAffordable mi_X1_untilAffordable ml_X7_200 rfl ⟨rfl, rfl, Nat.le_of_ble_eq_true rfl, Nat.le_of_ble_eq_true rfl⟩ ⟨Nat.zero_le _, Nat.zero_le _⟩ (g_recv (a := (x + 23)) (k := 0) hK hT rfl rfl) hT hS (fun _ h => h) rfl (Nat.le_of_ble_eq_true rfl) dX7_earns_58 (fun r10 u H locs h hu _ hq hS => ?_)
        obtain ⟨τ11, rfl⟩ : ∃ z, z = u := ⟨_, rfl⟩
        have hT := hu
        have hX := hX.past hq (fun j hj h => by have hj : j < 1 := hj; simp only [RA] at h; omega)
        have hG := hG.past hq (fun j hj h => by have hj : j < 22 := hj; simp only [RA] at h; omega)
        have hH := hH.past hq (fun j hj h => by have hj : j < 1 := hj; simp only [RA] at h; omega)
        have hZ := hZ.past hq (fun j hj h => by have hj : j < 89 := hj; simp only [RA] at h; omega)
        have hO := hO.past hq (fun j hj h => by have hj : j < 3 := hj; simp only [RA] at h; omega)
        exact g_iret (post := Q) (P' := fun u H => rg G LG (x + 23) u H) (r := r10) (u := τ11) C hr hK hS h hT dX7_earns_61
      · replace h := h.2 c6
        refine g_ldc C kc_X7_79 dX7_earns_33 ?_
        exact g_iret (post := Q) (P' := fun u H => rg G LG (x + 23) u H) (r := (-1000001)) (u := τ) C hr hK hS h hT dX7_earns_35
theorem dX7_busy_0 : decode cX7_busy 0 = .ok (.aload_n 0, 1) := by decide +kernel
theorem dX7_busy_1 : decode cX7_busy 1 = .ok (.getfield 12, 3) := by decide +kernel
theorem dX7_busy_4 : decode cX7_busy 4 = .ok (.iload_n 1, 1) := by decide +kernel
theorem dX7_busy_5 : decode cX7_busy 5 = .ok (.iload_n 2, 1) := by decide +kernel
theorem dX7_busy_6 : decode cX7_busy 6 = .ok (.invokevirtual 111, 3) := by decide +kernel
theorem dX7_busy_9 : decode cX7_busy 9 = .ok (.ifCond .ne 6, 3) := by decide +kernel
theorem dX7_busy_12 : decode cX7_busy 12 = .ok (.ldc 79, 2) := by decide +kernel
theorem dX7_busy_14 : decode cX7_busy 14 = .ok (.ireturn, 1) := by decide +kernel
theorem dX7_busy_15 : decode cX7_busy 15 = .ok (.aload_n 0, 1) := by decide +kernel
theorem dX7_busy_16 : decode cX7_busy 16 = .ok (.getfield 12, 3) := by decide +kernel
theorem dX7_busy_19 : decode cX7_busy 19 = .ok (.getfield 203, 3) := by decide +kernel
theorem dX7_busy_22 : decode cX7_busy 22 = .ok (.istore_n 3, 1) := by decide +kernel
theorem dX7_busy_23 : decode cX7_busy 23 = .ok (.iload_n 3, 1) := by decide +kernel
theorem dX7_busy_24 : decode cX7_busy 24 = .ok (.ifCond .gt 6, 3) := by decide +kernel
theorem dX7_busy_27 : decode cX7_busy 27 = .ok (.ldc 124, 2) := by decide +kernel
theorem dX7_busy_29 : decode cX7_busy 29 = .ok (.ireturn, 1) := by decide +kernel
theorem dX7_busy_30 : decode cX7_busy 30 = .ok (.iload_n 3, 1) := by decide +kernel
theorem dX7_busy_31 : decode cX7_busy 31 = .ok (.aload_n 0, 1) := by decide +kernel
theorem dX7_busy_32 : decode cX7_busy 32 = .ok (.getfield 12, 3) := by decide +kernel
theorem dX7_busy_35 : decode cX7_busy 35 = .ok (.getfield 90, 3) := by decide +kernel
theorem dX7_busy_38 : decode cX7_busy 38 = .ok (.getfield 131, 3) := by decide +kernel
theorem dX7_busy_41 : decode cX7_busy 41 = .ok (.iload_n 1, 1) := by decide +kernel
theorem dX7_busy_42 : decode cX7_busy 42 = .ok (.iload_n 2, 1) := by decide +kernel
theorem dX7_busy_43 : decode cX7_busy 43 = .ok (.invokestatic 115, 3) := by decide +kernel
theorem dX7_busy_46 : decode cX7_busy 46 = .ok (.iaload, 1) := by decide +kernel
theorem dX7_busy_47 : decode cX7_busy 47 = .ok (.isub, 1) := by decide +kernel
theorem dX7_busy_48 : decode cX7_busy 48 = .ok (.istore 4, 2) := by decide +kernel
theorem dX7_busy_50 : decode cX7_busy 50 = .ok (.iload 4, 2) := by decide +kernel
theorem dX7_busy_52 : decode cX7_busy 52 = .ok (.i2f, 1) := by decide +kernel
theorem dX7_busy_53 : decode cX7_busy 53 = .ok (.iload_n 3, 1) := by decide +kernel
theorem dX7_busy_54 : decode cX7_busy 54 = .ok (.i2f, 1) := by decide +kernel
theorem dX7_busy_55 : decode cX7_busy 55 = .ok (.fdiv, 1) := by decide +kernel
theorem dX7_busy_56 : decode cX7_busy 56 = .ok (.invokestatic 207, 3) := by decide +kernel
theorem dX7_busy_59 : decode cX7_busy 59 = .ok (.ireturn, 1) := by decide +kernel
def vc_X7_busy (Q : Int32 → Prop) (ξ : Mem) (γ : Mem) (τ : Mem) (η : Mem) (σ : (Nat → Mem)) (ο : Mem) (x1 : Int32) (x2 : Int32) : Prop :=
  vc_X1_hasWorker (fun r1 => ((¬ r1 = 0) → (∀ v3 : Int32, v3 = (γ 0 0) → (((0 < v3) → (vc_X7_glassOf (fun r5 => vp_in r5 12 ∧ (∀ v7 : Int32, v7 = (v3 - (γ 10 r5.toNatClampNeg)) → (vf_n32 (FP.fdiv (FP.i2f v7) (FP.i2f v3)) ∧ (vc_X7_bitsOfShare (fun r9 => Q r9 ) (FP.fdiv (FP.i2f v7) (FP.i2f v3)))))) x1 x2)) ∧ ((¬ 0 < v3) → (Q (-1000004) ))))) ∧ ((r1 = 0) → (Q (-1000001) ))) γ x1 x2
set_option maxHeartbeats 8000000 in
set_option maxRecDepth 100000 in
theorem m_X7_busy (l : Launch) (G : GG) (x : Nat) (ξ : Mem) (γ : Mem) (τ : Mem) (η : Mem) (σ : (Nat → Mem)) (ο : Mem) (x1 : Int32) (x2 : Int32) (Q : Int32 → Prop) (h : vc_X7_busy Q ξ γ τ η σ ο x1 x2) : CtI l yX7_busy cX7_busy 5 (some .int) { frames := 3, cells := 0, slots := 0, locals := 65 } [.ref (x + 0), .int x1, .int x2] G (fun H => rg G LX x ξ H ∧ rg G LG (x + 1) γ H ∧ rg G LG (x + 23) τ H ∧ rg G LH (x + 45) η H ∧ HG G (x + 46) σ H ∧ rg G LO (x + 135) ο H) (fun r (_ : Unit) => Q r) (fun _ _ => True) (fun _ => False) := by
  unfold CtI
  refine met_start (y := yX7_busy) (maxL := 5) (av := [.ref (x + 0), .int x1, .int x2]) (G := G) (P := fun H => rg G LX x ξ H ∧ rg G LG (x + 1) γ H ∧ rg G LG (x + 23) τ H ∧ rg G LH (x + 45) η H ∧ HG G (x + 46) σ H ∧ rg G LO (x + 135) ο H) (by decide) rfl (Nat.le_of_ble_eq_true rfl) (fun p e s m below meth c ls C hr hP hK hl => ?_)
  obtain ⟨hx, hb, hml, hown, hts, hlocks⟩ := id C
  obtain ⟨hX, hG, hT, hH, hZ, hO⟩ := hP
  have hS : va_S (fun _ => False) s.heap s.heap [] := va_S.rf
  have hl : lv_has ls 5 [(0, .ref (x + 0)), (1, .int x1), (2, .int x2)] := hl
  unfold vc_X7_busy at h
  refine lv_aload_n hx hb dX7_busy_0 rfl (lv_at hl 0 rfl) ?_
  refine g_getR (a := x) (k := 0) (o := 1) C hK hX fl_X7_12 rfl rfl dX7_busy_1 ?_
  refine lv_iload_n hx hb dX7_busy_4 rfl (lv_at hl 1 rfl) ?_
  refine lv_iload_n hx hb dX7_busy_5 rfl (lv_at hl 2 rfl) ?_
  refine g_vI C hK hl.1 (m_X1_hasWorker l G (x + 1) γ x1 x2 _ h) mw_X1_hasWorker mi_X1_hasWorker ml_X7_111 rfl ⟨rfl, rfl, Nat.le_of_ble_eq_true rfl, Nat.le_of_ble_eq_true rfl⟩ ⟨Nat.zero_le _, Nat.zero_le _⟩ (g_recv (a := (x + 1)) (k := 0) hK hG rfl rfl) hG hS (fun _ h => h.elim) rfl (Nat.le_of_ble_eq_true rfl) dX7_busy_6 (fun r1 u H locs h hu _ hq hS => ?_)
  have hX := hX.past hq (fun _ _ h => h)
  have hG := hG.past hq (fun _ _ h => h)
  have hT := hT.past hq (fun _ _ h => h)
  have hH := hH.past hq (fun _ _ h => h)
  have hZ := hZ.past hq (fun _ _ h => h)
  have hO := hO.past hq (fun _ _ h => h)
  refine lv_if_ne (tgt := 15) hx hb dX7_busy_9 (by decide) (fun c2 => ?_) (fun c2 => ?_)
  · replace h := h.1 c2
    refine lv_aload_n hx hb dX7_busy_15 rfl (lv_at hl 0 rfl) ?_
    refine g_getR (a := x) (k := 0) (o := 1) C hK hX fl_X7_12 rfl rfl dX7_busy_16 ?_
    refine g_getI (a := (x + 1)) (k := 0) C hK hG fl_X7_203 rfl rfl dX7_busy_19 ?_
    refine lv_topi (fun v3 ev3 => ?_)
    specialize h v3 ev3
    refine lv_istore_n (lv' := [(3, .int v3), (0, .ref (x + 0)), (1, .int x1), (2, .int x2)]) hx hb dX7_busy_22 rfl hl (by decide) rfl (fun ls hl => ?_)
    refine lv_iload_n hx hb dX7_busy_23 rfl (lv_at hl 0 rfl) ?_
    refine lv_if_gt (tgt := 30) hx hb dX7_busy_24 (by decide) (fun c4 => ?_) (fun c4 => ?_)
    · replace h := h.1 c4
      refine lv_iload_n hx hb dX7_busy_30 rfl (lv_at hl 0 rfl) ?_
      refine lv_aload_n hx hb dX7_busy_31 rfl (lv_at hl 1 rfl) ?_
      refine g_getR (a := x) (k := 0) (o := 1) C hK hX fl_X7_12 rfl rfl dX7_busy_32 ?_
      refine g_getR (a := (x + 1)) (k := 0) (o := 4) C hK hG fl_X7_90 rfl rfl dX7_busy_35 ?_
      refine g_getR (a := (x + 1)) (k := 4) (o := 10) C hK hG fl_X7_131 rfl rfl dX7_busy_38 ?_
      refine lv_iload_n hx hb dX7_busy_41 rfl (lv_at hl 2 rfl) ?_
      refine lv_iload_n hx hb dX7_busy_42 rfl (lv_at hl 3 rfl) ?_
      refine g_sI C hK hl.1 (m_X7_glassOf l G x1 x2 _ h) mw_X7_glassOf ms_X7_glassOf ml_X7_115 rfl ⟨rfl, rfl, Nat.le_of_ble_eq_true rfl, Nat.le_of_ble_eq_true rfl⟩ ⟨Nat.zero_le _, Nat.zero_le _⟩ trivial hS (fun _ h => h.elim) rfl (Nat.le_of_ble_eq_true rfl) dX7_busy_43 (fun r5 u H locs h hu _ hq hS => ?_)
      have hX := hX.past hq (fun _ _ h => h)
      have hG := hG.past hq (fun _ _ h => h)
      have hT := hT.past hq (fun _ _ h => h)
      have hH := hH.past hq (fun _ _ h => h)
      have hZ := hZ.past hq (fun _ _ h => h)
      have hO := hO.past hq (fun _ _ h => h)
      obtain ⟨b6, h⟩ := h
      refine g_ald (a := (x + 1)) (k := 10) (n := 12) C hK hG rfl b6 dX7_busy_46 ?_
      refine lv_isub hx hb dX7_busy_47 ?_
      refine lv_topi (fun v7 ev7 => ?_)
      specialize h v7 ev7
      refine lv_istore (lv' := [(4, .int v7), (3, .int v3), (0, .ref (x + 0)), (1, .int x1), (2, .int x2)]) hx hb dX7_busy_48 hl (by decide) rfl (fun ls hl => ?_)
      refine lv_iload hx hb dX7_busy_50 (lv_at hl 0 rfl) ?_
      refine lv_i2f hx hb dX7_busy_52 ?_
      refine lv_iload_n hx hb dX7_busy_53 rfl (lv_at hl 1 rfl) ?_
      refine lv_i2f hx hb dX7_busy_54 ?_
      obtain ⟨n8, h⟩ := h
      refine lv_fdiv hx hb dX7_busy_55 n8 ?_
      refine g_sI C hK hl.1 (m_X7_bitsOfShare l G (FP.fdiv (FP.i2f v7) (FP.i2f v3)) _ h) mw_X7_bitsOfShare ms_X7_bitsOfShare ml_X7_207 rfl ⟨rfl, rfl, Nat.le_of_ble_eq_true rfl, Nat.le_of_ble_eq_true rfl⟩ ⟨Nat.zero_le _, Nat.zero_le _⟩ trivial hS (fun _ h => h.elim) rfl (Nat.le_of_ble_eq_true rfl) dX7_busy_56 (fun r9 u H locs h hu _ hq hS => ?_)
      have hX := hX.past hq (fun _ _ h => h)
      have hG := hG.past hq (fun _ _ h => h)
      have hT := hT.past hq (fun _ _ h => h)
      have hH := hH.past hq (fun _ _ h => h)
      have hZ := hZ.past hq (fun _ _ h => h)
      have hO := hO.past hq (fun _ _ h => h)
      exact g_iret (post := fun r (_ : Unit) => Q r) (P' := fun _ _ => True) (r := r9) (u := ()) C hr hK hS h trivial dX7_busy_59
    · replace h := h.2 c4
      refine g_ldc C kc_X7_124 dX7_busy_27 ?_
      exact g_iret (post := fun r (_ : Unit) => Q r) (P' := fun _ _ => True) (r := (-1000004)) (u := ()) C hr hK hS h trivial dX7_busy_29
  · replace h := h.2 c2
    refine g_ldc C kc_X7_79 dX7_busy_12 ?_
    exact g_iret (post := fun r (_ : Unit) => Q r) (P' := fun _ _ => True) (r := (-1000001)) (u := ()) C hr hK hS h trivial dX7_busy_14
theorem dX7_count_0 : decode cX7_count 0 = .ok (.iload_n 1, 1) := by decide +kernel
theorem dX7_count_1 : decode cX7_count 1 = .ok (.tableswitch 156 0 9 #[55, 66, 77, 88, 96, 107, 118, 129, 140, 148], 55) := by decide +kernel
theorem dX7_count_56 : decode cX7_count 56 = .ok (.aload_n 0, 1) := by decide +kernel
theorem dX7_count_57 : decode cX7_count 57 = .ok (.getfield 12, 3) := by decide +kernel
theorem dX7_count_60 : decode cX7_count 60 = .ok (.getfield 80, 3) := by decide +kernel
theorem dX7_count_63 : decode cX7_count 63 = .ok (.getfield 211, 3) := by decide +kernel
theorem dX7_count_66 : decode cX7_count 66 = .ok (.ireturn, 1) := by decide +kernel
theorem dX7_count_67 : decode cX7_count 67 = .ok (.aload_n 0, 1) := by decide +kernel
theorem dX7_count_68 : decode cX7_count 68 = .ok (.getfield 12, 3) := by decide +kernel
theorem dX7_count_71 : decode cX7_count 71 = .ok (.getfield 140, 3) := by decide +kernel
theorem dX7_count_74 : decode cX7_count 74 = .ok (.getfield 214, 3) := by decide +kernel
theorem dX7_count_77 : decode cX7_count 77 = .ok (.ireturn, 1) := by decide +kernel
theorem dX7_count_78 : decode cX7_count 78 = .ok (.aload_n 0, 1) := by decide +kernel
theorem dX7_count_79 : decode cX7_count 79 = .ok (.getfield 12, 3) := by decide +kernel
theorem dX7_count_82 : decode cX7_count 82 = .ok (.getfield 171, 3) := by decide +kernel
theorem dX7_count_85 : decode cX7_count 85 = .ok (.getfield 215, 3) := by decide +kernel
theorem dX7_count_88 : decode cX7_count 88 = .ok (.ireturn, 1) := by decide +kernel
theorem dX7_count_89 : decode cX7_count 89 = .ok (.aload_n 0, 1) := by decide +kernel
theorem dX7_count_90 : decode cX7_count 90 = .ok (.getfield 12, 3) := by decide +kernel
theorem dX7_count_93 : decode cX7_count 93 = .ok (.getfield 203, 3) := by decide +kernel
theorem dX7_count_96 : decode cX7_count 96 = .ok (.ireturn, 1) := by decide +kernel
theorem dX7_count_97 : decode cX7_count 97 = .ok (.aload_n 0, 1) := by decide +kernel
theorem dX7_count_98 : decode cX7_count 98 = .ok (.getfield 12, 3) := by decide +kernel
theorem dX7_count_101 : decode cX7_count 101 = .ok (.getfield 90, 3) := by decide +kernel
theorem dX7_count_104 : decode cX7_count 104 = .ok (.invokevirtual 216, 3) := by decide +kernel
theorem dX7_count_107 : decode cX7_count 107 = .ok (.ireturn, 1) := by decide +kernel
theorem dX7_count_108 : decode cX7_count 108 = .ok (.aload_n 0, 1) := by decide +kernel
theorem dX7_count_109 : decode cX7_count 109 = .ok (.getfield 12, 3) := by decide +kernel
theorem dX7_count_112 : decode cX7_count 112 = .ok (.getfield 90, 3) := by decide +kernel
theorem dX7_count_115 : decode cX7_count 115 = .ok (.invokevirtual 219, 3) := by decide +kernel
theorem dX7_count_118 : decode cX7_count 118 = .ok (.ireturn, 1) := by decide +kernel
theorem dX7_count_119 : decode cX7_count 119 = .ok (.aload_n 0, 1) := by decide +kernel
theorem dX7_count_120 : decode cX7_count 120 = .ok (.getfield 12, 3) := by decide +kernel
theorem dX7_count_123 : decode cX7_count 123 = .ok (.getfield 80, 3) := by decide +kernel
theorem dX7_count_126 : decode cX7_count 126 = .ok (.invokevirtual 222, 3) := by decide +kernel
theorem dX7_count_129 : decode cX7_count 129 = .ok (.ireturn, 1) := by decide +kernel
theorem dX7_count_130 : decode cX7_count 130 = .ok (.aload_n 0, 1) := by decide +kernel
theorem dX7_count_131 : decode cX7_count 131 = .ok (.getfield 12, 3) := by decide +kernel
theorem dX7_count_134 : decode cX7_count 134 = .ok (.getfield 80, 3) := by decide +kernel
theorem dX7_count_137 : decode cX7_count 137 = .ok (.getfield 225, 3) := by decide +kernel
theorem dX7_count_140 : decode cX7_count 140 = .ok (.ireturn, 1) := by decide +kernel
theorem dX7_count_141 : decode cX7_count 141 = .ok (.aload_n 0, 1) := by decide +kernel
theorem dX7_count_142 : decode cX7_count 142 = .ok (.getfield 22, 3) := by decide +kernel
theorem dX7_count_145 : decode cX7_count 145 = .ok (.getfield 228, 3) := by decide +kernel
theorem dX7_count_148 : decode cX7_count 148 = .ok (.ireturn, 1) := by decide +kernel
theorem dX7_count_149 : decode cX7_count 149 = .ok (.aload_n 0, 1) := by decide +kernel
theorem dX7_count_150 : decode cX7_count 150 = .ok (.getfield 29, 3) := by decide +kernel
theorem dX7_count_153 : decode cX7_count 153 = .ok (.getfield 229, 3) := by decide +kernel
theorem dX7_count_156 : decode cX7_count 156 = .ok (.ireturn, 1) := by decide +kernel
theorem dX7_count_157 : decode cX7_count 157 = .ok (.ldc 79, 2) := by decide +kernel
theorem dX7_count_159 : decode cX7_count 159 = .ok (.ireturn, 1) := by decide +kernel
def vc_X7_count (Q : Int32 → Prop) (ξ : Mem) (γ : Mem) (τ : Mem) (η : Mem) (σ : (Nat → Mem)) (ο : Mem) (x1 : Int32) : Prop :=
  ((x1 = 0) → (Q (γ 1 0) )) ∧ ((¬ x1 = 0) → (((x1 = 1) → (Q (γ 12 0) )) ∧ ((¬ x1 = 1) → (((x1 = 2) → (Q (γ 18 0) )) ∧ ((¬ x1 = 2) → (((x1 = 3) → (Q (γ 0 0) )) ∧ ((¬ x1 = 3) → (((x1 = 4) → (vc_X2_allWorks (fun r6 => Q r6 ) γ)) ∧ ((¬ x1 = 4) → (((x1 = 5) → (vc_X2_allFlips (fun r8 => Q r8 ) γ)) ∧ ((¬ x1 = 5) → (((x1 = 6) → (vc_X5_ahead (fun r10 => Q r10 ) γ)) ∧ ((¬ x1 = 6) → (((x1 = 7) → (Q (γ 1 1) )) ∧ ((¬ x1 = 7) → (((x1 = 8) → (Q (η 0 0) )) ∧ ((¬ x1 = 8) → (((x1 = 9) → (Q (ο 0 0) )) ∧ ((¬ x1 = 9) → (Q (-1000001) ))))))))))))))))))))
set_option maxHeartbeats 8000000 in
set_option maxRecDepth 100000 in
theorem m_X7_count (l : Launch) (G : GG) (x : Nat) (ξ : Mem) (γ : Mem) (τ : Mem) (η : Mem) (σ : (Nat → Mem)) (ο : Mem) (x1 : Int32) (Q : Int32 → Prop) (h : vc_X7_count Q ξ γ τ η σ ο x1) : CtI l yX7_count cX7_count 2 (some .int) { frames := 4, cells := 0, slots := 0, locals := 87 } [.ref (x + 0), .int x1] G (fun H => rg G LX x ξ H ∧ rg G LG (x + 1) γ H ∧ rg G LG (x + 23) τ H ∧ rg G LH (x + 45) η H ∧ HG G (x + 46) σ H ∧ rg G LO (x + 135) ο H) (fun r (_ : Unit) => Q r) (fun _ _ => True) (fun _ => False) := by
  unfold CtI
  refine met_start (y := yX7_count) (maxL := 2) (av := [.ref (x + 0), .int x1]) (G := G) (P := fun H => rg G LX x ξ H ∧ rg G LG (x + 1) γ H ∧ rg G LG (x + 23) τ H ∧ rg G LH (x + 45) η H ∧ HG G (x + 46) σ H ∧ rg G LO (x + 135) ο H) (by decide) rfl (Nat.le_of_ble_eq_true rfl) (fun p e s m below meth c ls C hr hP hK hl => ?_)
  obtain ⟨hx, hb, hml, hown, hts, hlocks⟩ := id C
  obtain ⟨hX, hG, hT, hH, hZ, hO⟩ := hP
  have hS : va_S (fun _ => False) s.heap s.heap [] := va_S.rf
  have hl : lv_has ls 2 [(0, .ref (x + 0)), (1, .int x1)] := hl
  unfold vc_X7_count at h
  refine lv_iload_n hx hb dX7_count_0 rfl (lv_at hl 1 rfl) ?_
  by_cases c1 : x1 = 0
  · replace h := h.1 c1
    refine lv_tableIn (off := 55) (tgt := 56) hx hb dX7_count_1 (by rw [c1]; decide) (by rw [c1]; decide) (by rw [c1]; rfl) (by decide) ?_
    refine lv_aload_n hx hb dX7_count_56 rfl (lv_at hl 0 rfl) ?_
    refine g_getR (a := x) (k := 0) (o := 1) C hK hX fl_X7_12 rfl rfl dX7_count_57 ?_
    refine g_getR (a := (x + 1)) (k := 0) (o := 1) C hK hG fl_X7_80 rfl rfl dX7_count_60 ?_
    refine g_getI (a := (x + 1)) (k := 1) C hK hG fl_X7_211 rfl rfl dX7_count_63 ?_
    exact g_iret (post := fun r (_ : Unit) => Q r) (P' := fun _ _ => True) (r := (γ 1 0)) (u := ()) C hr hK hS h trivial dX7_count_66
  · replace h := h.2 c1
    by_cases c2 : x1 = 1
    · replace h := h.1 c2
      refine lv_tableIn (off := 66) (tgt := 67) hx hb dX7_count_1 (by rw [c2]; decide) (by rw [c2]; decide) (by rw [c2]; rfl) (by decide) ?_
      refine lv_aload_n hx hb dX7_count_67 rfl (lv_at hl 0 rfl) ?_
      refine g_getR (a := x) (k := 0) (o := 1) C hK hX fl_X7_12 rfl rfl dX7_count_68 ?_
      refine g_getR (a := (x + 1)) (k := 0) (o := 12) C hK hG fl_X7_140 rfl rfl dX7_count_71 ?_
      refine g_getI (a := (x + 1)) (k := 12) C hK hG fl_X7_214 rfl rfl dX7_count_74 ?_
      exact g_iret (post := fun r (_ : Unit) => Q r) (P' := fun _ _ => True) (r := (γ 12 0)) (u := ()) C hr hK hS h trivial dX7_count_77
    · replace h := h.2 c2
      by_cases c3 : x1 = 2
      · replace h := h.1 c3
        refine lv_tableIn (off := 77) (tgt := 78) hx hb dX7_count_1 (by rw [c3]; decide) (by rw [c3]; decide) (by rw [c3]; rfl) (by decide) ?_
        refine lv_aload_n hx hb dX7_count_78 rfl (lv_at hl 0 rfl) ?_
        refine g_getR (a := x) (k := 0) (o := 1) C hK hX fl_X7_12 rfl rfl dX7_count_79 ?_
        refine g_getR (a := (x + 1)) (k := 0) (o := 18) C hK hG fl_X7_171 rfl rfl dX7_count_82 ?_
        refine g_getI (a := (x + 1)) (k := 18) C hK hG fl_X7_215 rfl rfl dX7_count_85 ?_
        exact g_iret (post := fun r (_ : Unit) => Q r) (P' := fun _ _ => True) (r := (γ 18 0)) (u := ()) C hr hK hS h trivial dX7_count_88
      · replace h := h.2 c3
        by_cases c4 : x1 = 3
        · replace h := h.1 c4
          refine lv_tableIn (off := 88) (tgt := 89) hx hb dX7_count_1 (by rw [c4]; decide) (by rw [c4]; decide) (by rw [c4]; rfl) (by decide) ?_
          refine lv_aload_n hx hb dX7_count_89 rfl (lv_at hl 0 rfl) ?_
          refine g_getR (a := x) (k := 0) (o := 1) C hK hX fl_X7_12 rfl rfl dX7_count_90 ?_
          refine g_getI (a := (x + 1)) (k := 0) C hK hG fl_X7_203 rfl rfl dX7_count_93 ?_
          exact g_iret (post := fun r (_ : Unit) => Q r) (P' := fun _ _ => True) (r := (γ 0 0)) (u := ()) C hr hK hS h trivial dX7_count_96
        · replace h := h.2 c4
          by_cases c5 : x1 = 4
          · replace h := h.1 c5
            refine lv_tableIn (off := 96) (tgt := 97) hx hb dX7_count_1 (by rw [c5]; decide) (by rw [c5]; decide) (by rw [c5]; rfl) (by decide) ?_
            refine lv_aload_n hx hb dX7_count_97 rfl (lv_at hl 0 rfl) ?_
            refine g_getR (a := x) (k := 0) (o := 1) C hK hX fl_X7_12 rfl rfl dX7_count_98 ?_
            refine g_getR (a := (x + 1)) (k := 0) (o := 4) C hK hG fl_X7_90 rfl rfl dX7_count_101 ?_
            refine g_vI C hK hl.1 (m_X2_allWorks l G (x + 1) γ _ h) mw_X2_allWorks mi_X2_allWorks ml_X7_216 rfl ⟨rfl, rfl, Nat.le_of_ble_eq_true rfl, Nat.le_of_ble_eq_true rfl⟩ ⟨Nat.zero_le _, Nat.zero_le _⟩ (g_recv (a := (x + 1)) (k := 4) hK hG rfl rfl) hG hS (fun _ h => h.elim) rfl (Nat.le_of_ble_eq_true rfl) dX7_count_104 (fun r6 u H locs h hu _ hq hS => ?_)
            have hX := hX.past hq (fun _ _ h => h)
            have hG := hG.past hq (fun _ _ h => h)
            have hT := hT.past hq (fun _ _ h => h)
            have hH := hH.past hq (fun _ _ h => h)
            have hZ := hZ.past hq (fun _ _ h => h)
            have hO := hO.past hq (fun _ _ h => h)
            exact g_iret (post := fun r (_ : Unit) => Q r) (P' := fun _ _ => True) (r := r6) (u := ()) C hr hK hS h trivial dX7_count_107
          · replace h := h.2 c5
            by_cases c7 : x1 = 5
            · replace h := h.1 c7
              refine lv_tableIn (off := 107) (tgt := 108) hx hb dX7_count_1 (by rw [c7]; decide) (by rw [c7]; decide) (by rw [c7]; rfl) (by decide) ?_
              refine lv_aload_n hx hb dX7_count_108 rfl (lv_at hl 0 rfl) ?_
              refine g_getR (a := x) (k := 0) (o := 1) C hK hX fl_X7_12 rfl rfl dX7_count_109 ?_
              refine g_getR (a := (x + 1)) (k := 0) (o := 4) C hK hG fl_X7_90 rfl rfl dX7_count_112 ?_
              refine g_vI C hK hl.1 (m_X2_allFlips l G (x + 1) γ _ h) mw_X2_allFlips mi_X2_allFlips ml_X7_219 rfl ⟨rfl, rfl, Nat.le_of_ble_eq_true rfl, Nat.le_of_ble_eq_true rfl⟩ ⟨Nat.zero_le _, Nat.zero_le _⟩ (g_recv (a := (x + 1)) (k := 4) hK hG rfl rfl) hG hS (fun _ h => h.elim) rfl (Nat.le_of_ble_eq_true rfl) dX7_count_115 (fun r8 u H locs h hu _ hq hS => ?_)
              have hX := hX.past hq (fun _ _ h => h)
              have hG := hG.past hq (fun _ _ h => h)
              have hT := hT.past hq (fun _ _ h => h)
              have hH := hH.past hq (fun _ _ h => h)
              have hZ := hZ.past hq (fun _ _ h => h)
              have hO := hO.past hq (fun _ _ h => h)
              exact g_iret (post := fun r (_ : Unit) => Q r) (P' := fun _ _ => True) (r := r8) (u := ()) C hr hK hS h trivial dX7_count_118
            · replace h := h.2 c7
              by_cases c9 : x1 = 6
              · replace h := h.1 c9
                refine lv_tableIn (off := 118) (tgt := 119) hx hb dX7_count_1 (by rw [c9]; decide) (by rw [c9]; decide) (by rw [c9]; rfl) (by decide) ?_
                refine lv_aload_n hx hb dX7_count_119 rfl (lv_at hl 0 rfl) ?_
                refine g_getR (a := x) (k := 0) (o := 1) C hK hX fl_X7_12 rfl rfl dX7_count_120 ?_
                refine g_getR (a := (x + 1)) (k := 0) (o := 1) C hK hG fl_X7_80 rfl rfl dX7_count_123 ?_
                refine g_vI C hK hl.1 (m_X5_ahead l G (x + 1) γ _ h) mw_X5_ahead mi_X5_ahead ml_X7_222 rfl ⟨rfl, rfl, Nat.le_of_ble_eq_true rfl, Nat.le_of_ble_eq_true rfl⟩ ⟨Nat.zero_le _, Nat.zero_le _⟩ (g_recv (a := (x + 1)) (k := 1) hK hG rfl rfl) hG hS (fun _ h => h.elim) rfl (Nat.le_of_ble_eq_true rfl) dX7_count_126 (fun r10 u H locs h hu _ hq hS => ?_)
                have hX := hX.past hq (fun _ _ h => h)
                have hG := hG.past hq (fun _ _ h => h)
                have hT := hT.past hq (fun _ _ h => h)
                have hH := hH.past hq (fun _ _ h => h)
                have hZ := hZ.past hq (fun _ _ h => h)
                have hO := hO.past hq (fun _ _ h => h)
                exact g_iret (post := fun r (_ : Unit) => Q r) (P' := fun _ _ => True) (r := r10) (u := ()) C hr hK hS h trivial dX7_count_129
              · replace h := h.2 c9
                by_cases c11 : x1 = 7
                · replace h := h.1 c11
                  refine lv_tableIn (off := 129) (tgt := 130) hx hb dX7_count_1 (by rw [c11]; decide) (by rw [c11]; decide) (by rw [c11]; rfl) (by decide) ?_
                  refine lv_aload_n hx hb dX7_count_130 rfl (lv_at hl 0 rfl) ?_
                  refine g_getR (a := x) (k := 0) (o := 1) C hK hX fl_X7_12 rfl rfl dX7_count_131 ?_
                  refine g_getR (a := (x + 1)) (k := 0) (o := 1) C hK hG fl_X7_80 rfl rfl dX7_count_134 ?_
                  refine g_getI (a := (x + 1)) (k := 1) C hK hG fl_X7_225 rfl rfl dX7_count_137 ?_
                  exact g_iret (post := fun r (_ : Unit) => Q r) (P' := fun _ _ => True) (r := (γ 1 1)) (u := ()) C hr hK hS h trivial dX7_count_140
                · replace h := h.2 c11
                  by_cases c12 : x1 = 8
                  · replace h := h.1 c12
                    refine lv_tableIn (off := 140) (tgt := 141) hx hb dX7_count_1 (by rw [c12]; decide) (by rw [c12]; decide) (by rw [c12]; rfl) (by decide) ?_
                    refine lv_aload_n hx hb dX7_count_141 rfl (lv_at hl 0 rfl) ?_
                    refine g_getR (a := x) (k := 0) (o := 45) C hK hX fl_X7_22 rfl rfl dX7_count_142 ?_
                    refine g_getI (a := (x + 45)) (k := 0) C hK hH fl_X7_228 rfl rfl dX7_count_145 ?_
                    exact g_iret (post := fun r (_ : Unit) => Q r) (P' := fun _ _ => True) (r := (η 0 0)) (u := ()) C hr hK hS h trivial dX7_count_148
                  · replace h := h.2 c12
                    by_cases c13 : x1 = 9
                    · replace h := h.1 c13
                      refine lv_tableIn (off := 148) (tgt := 149) hx hb dX7_count_1 (by rw [c13]; decide) (by rw [c13]; decide) (by rw [c13]; rfl) (by decide) ?_
                      refine lv_aload_n hx hb dX7_count_149 rfl (lv_at hl 0 rfl) ?_
                      refine g_getR (a := x) (k := 0) (o := 135) C hK hX fl_X7_29 rfl rfl dX7_count_150 ?_
                      refine g_getI (a := (x + 135)) (k := 0) C hK hO fl_X7_229 rfl rfl dX7_count_153 ?_
                      exact g_iret (post := fun r (_ : Unit) => Q r) (P' := fun _ _ => True) (r := (ο 0 0)) (u := ()) C hr hK hS h trivial dX7_count_156
                    · replace h := h.2 c13
                      have hne := And.intro trivial (And.intro trivial trivial)
                      have c1i := lv_neT c1 (by rfl : (0 : Int32).toInt = 0)
                      have c2i := lv_neT c2 (by rfl : (1 : Int32).toInt = 1)
                      have c3i := lv_neT c3 (by rfl : (2 : Int32).toInt = 2)
                      have c4i := lv_neT c4 (by rfl : (3 : Int32).toInt = 3)
                      have c5i := lv_neT c5 (by rfl : (4 : Int32).toInt = 4)
                      have c7i := lv_neT c7 (by rfl : (5 : Int32).toInt = 5)
                      have c9i := lv_neT c9 (by rfl : (6 : Int32).toInt = 6)
                      have c11i := lv_neT c11 (by rfl : (7 : Int32).toInt = 7)
                      have c12i := lv_neT c12 (by rfl : (8 : Int32).toInt = 8)
                      have c13i := lv_neT c13 (by rfl : (9 : Int32).toInt = 9)
                      refine lv_tableOut (tgt := 157) hx hb dX7_count_1 (by omega) (by decide) ?_
                      refine g_ldc C kc_X7_79 dX7_count_157 ?_
                      exact g_iret (post := fun r (_ : Unit) => Q r) (P' := fun _ _ => True) (r := (-1000001)) (u := ()) C hr hK hS h trivial dX7_count_159
