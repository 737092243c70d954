theorem dX8_put_0 : decode cX8_put 0 = .ok (.aload_n 0, 1) := by decide +kernel
theorem dX8_put_1 : decode cX8_put 1 = .ok (.iload_n 1, 1) := by decide +kernel
theorem dX8_put_2 : decode cX8_put 2 = .ok (.iload_n 2, 1) := by decide +kernel
theorem dX8_put_3 : decode cX8_put 3 = .ok (.invokevirtual 55, 3) := by decide +kernel
theorem dX8_put_6 : decode cX8_put 6 = .ok (.ifCond .eq 11, 3) := by decide +kernel
theorem dX8_put_9 : decode cX8_put 9 = .ok (.aload_n 0, 1) := by decide +kernel
theorem dX8_put_10 : decode cX8_put 10 = .ok (.iload_n 3, 1) := by decide +kernel
theorem dX8_put_11 : decode cX8_put 11 = .ok (.invokevirtual 82, 3) := by decide +kernel
theorem dX8_put_14 : decode cX8_put 14 = .ok (.ifCond .ne 6, 3) := by decide +kernel
theorem dX8_put_17 : decode cX8_put 17 = .ok (.ldc 59, 2) := by decide +kernel
theorem dX8_put_19 : decode cX8_put 19 = .ok (.ireturn, 1) := by decide +kernel
theorem dX8_put_20 : decode cX8_put 20 = .ok (.aload_n 0, 1) := by decide +kernel
theorem dX8_put_21 : decode cX8_put 21 = .ok (.iconst 3, 1) := by decide +kernel
theorem dX8_put_22 : decode cX8_put 22 = .ok (.iload_n 1, 1) := by decide +kernel
theorem dX8_put_23 : decode cX8_put 23 = .ok (.imul, 1) := by decide +kernel
theorem dX8_put_24 : decode cX8_put 24 = .ok (.iload_n 2, 1) := by decide +kernel
theorem dX8_put_25 : decode cX8_put 25 = .ok (.iadd, 1) := by decide +kernel
theorem dX8_put_26 : decode cX8_put 26 = .ok (.iload_n 3, 1) := by decide +kernel
theorem dX8_put_27 : decode cX8_put 27 = .ok (.invokevirtual 85, 3) := by decide +kernel
theorem dX8_put_30 : decode cX8_put 30 = .ok (.ifCond .ne 6, 3) := by decide +kernel
theorem dX8_put_33 : decode cX8_put 33 = .ok (.ldc 63, 2) := by decide +kernel
theorem dX8_put_35 : decode cX8_put 35 = .ok (.ireturn, 1) := by decide +kernel
theorem dX8_put_36 : decode cX8_put 36 = .ok (.aload_n 0, 1) := by decide +kernel
theorem dX8_put_37 : decode cX8_put 37 = .ok (.invokevirtual 52, 3) := by decide +kernel
theorem dX8_put_40 : decode cX8_put 40 = .ok (.aload_n 0, 1) := by decide +kernel
theorem dX8_put_41 : decode cX8_put 41 = .ok (.iconst 3, 1) := by decide +kernel
theorem dX8_put_42 : decode cX8_put 42 = .ok (.iload_n 1, 1) := by decide +kernel
theorem dX8_put_43 : decode cX8_put 43 = .ok (.imul, 1) := by decide +kernel
theorem dX8_put_44 : decode cX8_put 44 = .ok (.iload_n 2, 1) := by decide +kernel
theorem dX8_put_45 : decode cX8_put 45 = .ok (.iadd, 1) := by decide +kernel
theorem dX8_put_46 : decode cX8_put 46 = .ok (.iload_n 3, 1) := by decide +kernel
theorem dX8_put_47 : decode cX8_put 47 = .ok (.invokevirtual 88, 3) := by decide +kernel
theorem dX8_put_50 : decode cX8_put 50 = .ok (.aload_n 0, 1) := by decide +kernel
theorem dX8_put_51 : decode cX8_put 51 = .ok (.iload_n 3, 1) := by decide +kernel
theorem dX8_put_52 : decode cX8_put 52 = .ok (.invokevirtual 71, 3) := by decide +kernel
theorem dX8_put_55 : decode cX8_put 55 = .ok (.ireturn, 1) := by decide +kernel
def vc_X8_put (Q : Int32 → Mem → Prop) (ρ : Mem) (x1 : Int32) (x2 : Int32) (x3 : Int32) : Prop :=
  vc_X8_isWorker (fun r1 => ((r1 = 0) → (Q (-1000001) ρ)) ∧ ((¬ r1 = 0) → (vc_X8_isTask (fun r3 => ((¬ r3 = 0) → (vc_X8_canPut (fun r5 => ((¬ r5 = 0) → (vc_X8_changes (fun ρ8 => vc_X8_puts (fun ρ10 => vc_X8_left (fun r11 => Q r11 ρ10) ρ10 x3) ρ8 ((3 * x1) + x2) x3) ρ)) ∧ ((r5 = 0) → (Q (-1000002) ρ))) ρ ((3 * x1) + x2) x3)) ∧ ((r3 = 0) → (Q (-1000001) ρ))) ρ x3))) ρ x1 x2
set_option maxHeartbeats 8000000 in
set_option maxRecDepth 100000 in
theorem m_X8_put (l : Launch) (G : GG) (aM : Nat) (ρ : Mem) (x1 : Int32) (x2 : Int32) (x3 : Int32) (Q : Int32 → Mem → Prop) (h : vc_X8_put Q ρ x1 x2 x3) : CtI l yX8_put cX8_put 4 (some .int) { frames := 3, cells := 0, slots := 0, locals := 67 } [.ref (aM + 0), .int x1, .int x2, .int x3] G (fun H => rg G LM aM ρ H) (Q) (fun u H => rg G LM aM u H) (RA aM 8) := by
  unfold CtI
  refine met_start (y := yX8_put) (maxL := 4) (av := [.ref (aM + 0), .int x1, .int x2, .int x3]) (G := G) (P := fun H => rg G LM aM ρ H) (by decide) rfl (Nat.le_of_ble_eq_true rfl) (fun p e s m below meth c ls C hr hP hK hl => ?_)
  obtain ⟨hx, hb, hml, hown, hts, hlocks⟩ := id C
  have hM : rg G LM aM ρ s.heap := hP
  have hS : va_S (RA aM 8) s.heap s.heap [] := va_S.rf
  have hl : lv_has ls 4 [(0, .ref (aM + 0)), (1, .int x1), (2, .int x2), (3, .int x3)] := hl
  unfold vc_X8_put at h
  refine lv_aload_n hx hb dX8_put_0 rfl (lv_at hl 0 rfl) ?_
  refine lv_iload_n hx hb dX8_put_1 rfl (lv_at hl 1 rfl) ?_
  refine lv_iload_n hx hb dX8_put_2 rfl (lv_at hl 2 rfl) ?_
  refine g_vI C hK hl.1 (m_X8_isWorker l G aM ρ x1 x2 _ h) mw_X8_isWorker mi_X8_isWorker ml_X8_55 rfl ⟨rfl, rfl, Nat.le_of_ble_eq_true rfl, Nat.le_of_ble_eq_true rfl⟩ ⟨Nat.zero_le _, Nat.zero_le _⟩ (g_recv (a := aM) (k := 0) hK hM rfl rfl) hM hS (fun _ h => h.elim) rfl (Nat.le_of_ble_eq_true rfl) dX8_put_3 (fun r1 u H locs h hu _ hq hS => ?_)
  have hM := hM.past hq (fun _ _ h => h)
  refine lv_if_eq (tgt := 17) hx hb dX8_put_6 (by decide) (fun c2 => ?_) (fun c2 => ?_)
  · replace h := h.1 c2
    refine g_ldc C kc_X8_59 dX8_put_17 ?_
    exact g_iret (post := Q) (P' := fun u H => rg G LM aM u H) (r := (-1000001)) (u := ρ) C hr hK hS h hM dX8_put_19
  · replace h := h.2 c2
    refine lv_aload_n hx hb dX8_put_9 rfl (lv_at hl 0 rfl) ?_
    refine lv_iload_n hx hb dX8_put_10 rfl (lv_at hl 3 rfl) ?_
    refine g_vI C hK hl.1 (m_X8_isTask l G aM ρ x3 _ h) mw_X8_isTask mi_X8_isTask ml_X8_82 rfl ⟨rfl, rfl, Nat.le_of_ble_eq_true rfl, Nat.le_of_ble_eq_true rfl⟩ ⟨Nat.zero_le _, Nat.zero_le _⟩ (g_recv (a := aM) (k := 0) hK hM rfl rfl) hM hS (fun _ h => h.elim) rfl (Nat.le_of_ble_eq_true rfl) dX8_put_11 (fun r3 u H locs h hu _ hq hS => ?_)
    have hM := hM.past hq (fun _ _ h => h)
    refine lv_if_ne (tgt := 20) hx hb dX8_put_14 (by decide) (fun c4 => ?_) (fun c4 => ?_)
    · replace h := h.1 c4
      refine lv_aload_n hx hb dX8_put_20 rfl (lv_at hl 0 rfl) ?_
      refine lv_iconst (v := 3) hx hb dX8_put_21 (by decide) ?_
      refine lv_iload_n hx hb dX8_put_22 rfl (lv_at hl 1 rfl) ?_
      refine lv_imul hx hb dX8_put_23 ?_
      refine lv_iload_n hx hb dX8_put_24 rfl (lv_at hl 2 rfl) ?_
      refine lv_iadd hx hb dX8_put_25 ?_
      refine lv_iload_n hx hb dX8_put_26 rfl (lv_at hl 3 rfl) ?_
      refine g_vI C hK hl.1 (m_X8_canPut l G aM ρ ((3 * x1) + x2) x3 _ h) mw_X8_canPut mi_X8_canPut ml_X8_85 rfl ⟨rfl, rfl, Nat.le_of_ble_eq_true rfl, Nat.le_of_ble_eq_true rfl⟩ ⟨Nat.zero_le _, Nat.zero_le _⟩ (g_recv (a := aM) (k := 0) hK hM rfl rfl) hM hS (fun _ h => h.elim) rfl (Nat.le_of_ble_eq_true rfl) dX8_put_27 (fun r5 u H locs h hu _ hq hS => ?_)
      have hM := hM.past hq (fun _ _ h => h)
      refine lv_if_ne (tgt := 36) hx hb dX8_put_30 (by decide) (fun c6 => ?_) (fun c6 => ?_)
      · replace h := h.1 c6
        refine lv_aload_n hx hb dX8_put_36 rfl (lv_at hl 0 rfl) ?_
        refine g_vV C hK hl.1 (m_X8_changes l G aM ρ _ h) mw_X8_changes mi_X8_changes ml_X8_52 rfl ⟨rfl, rfl, Nat.le_of_ble_eq_true rfl, Nat.le_of_ble_eq_true rfl⟩ ⟨Nat.zero_le _, Nat.zero_le _⟩ (g_recv (a := aM) (k := 0) hK hM rfl rfl) hM hS (fun _ h => h) rfl (Nat.le_of_ble_eq_true rfl) dX8_put_37 (fun u H locs h hu _ hq hS => ?_)
        obtain ⟨ρ8, rfl⟩ : ∃ z, z = u := ⟨_, rfl⟩
        have hM := hu
        refine lv_aload_n hx hb dX8_put_40 rfl (lv_at hl 0 rfl) ?_
        refine lv_iconst (v := 3) hx hb dX8_put_41 (by decide) ?_
        refine lv_iload_n hx hb dX8_put_42 rfl (lv_at hl 1 rfl) ?_
        refine lv_imul hx hb dX8_put_43 ?_
        refine lv_iload_n hx hb dX8_put_44 rfl (lv_at hl 2 rfl) ?_
        refine lv_iadd hx hb dX8_put_45 ?_
        refine lv_iload_n hx hb dX8_put_46 rfl (lv_at hl 3 rfl) ?_
        refine g_vV C hK hl.1 (m_X8_puts l G aM ρ8 ((3 * x1) + x2) x3 _ h) mw_X8_puts mi_X8_puts ml_X8_88 rfl ⟨rfl, rfl, Nat.le_of_ble_eq_true rfl, Nat.le_of_ble_eq_true rfl⟩ ⟨Nat.zero_le _, Nat.zero_le _⟩ (g_recv (a := aM) (k := 0) hK hM rfl rfl) hM hS (fun _ h => h) rfl (Nat.le_of_ble_eq_true rfl) dX8_put_47 (fun u H locs h hu _ hq hS => ?_)
        obtain ⟨ρ10, rfl⟩ : ∃ z, z = u := ⟨_, rfl⟩
        have hM := hu
        refine lv_aload_n hx hb dX8_put_50 rfl (lv_at hl 0 rfl) ?_
        refine lv_iload_n hx hb dX8_put_51 rfl (lv_at hl 3 rfl) ?_
        refine g_vI C hK hl.1 (m_X8_left l G aM ρ10 x3 _ h) mw_X8_left mi_X8_left ml_X8_71 rfl ⟨rfl, rfl, Nat.le_of_ble_eq_true rfl, Nat.le_of_ble_eq_true rfl⟩ ⟨Nat.zero_le _, Nat.zero_le _⟩ (g_recv (a := aM) (k := 0) hK hM rfl rfl) hM hS (fun _ h => h.elim) rfl (Nat.le_of_ble_eq_true rfl) dX8_put_52 (fun r11 u H locs h hu _ hq hS => ?_)
        have hM := hM.past hq (fun _ _ h => h)
        exact g_iret (post := Q) (P' := fun u H => rg G LM aM u H) (r := r11) (u := ρ10) C hr hK hS h hM dX8_put_55
      · replace h := h.2 c6
        refine g_ldc C kc_X8_63 dX8_put_33 ?_
        exact g_iret (post := Q) (P' := fun u H => rg G LM aM u H) (r := (-1000002)) (u := ρ) C hr hK hS h hM dX8_put_35
    · replace h := h.2 c4
      refine g_ldc C kc_X8_59 dX8_put_17 ?_
      exact g_iret (post := Q) (P' := fun u H => rg G LM aM u H) (r := (-1000001)) (u := ρ) C hr hK hS h hM dX8_put_19
theorem dX8_home_0 : decode cX8_home 0 = .ok (.aload_n 0, 1) := by decide +kernel
theorem dX8_home_1 : decode cX8_home 1 = .ok (.iload_n 1, 1) := by decide +kernel
theorem dX8_home_2 : decode cX8_home 2 = .ok (.iload_n 2, 1) := by decide +kernel
theorem dX8_home_3 : decode cX8_home 3 = .ok (.invokevirtual 55, 3) := by decide +kernel
theorem dX8_home_6 : decode cX8_home 6 = .ok (.ifCond .ne 6, 3) := by decide +kernel
theorem dX8_home_9 : decode cX8_home 9 = .ok (.ldc 59, 2) := by decide +kernel
theorem dX8_home_11 : decode cX8_home 11 = .ok (.ireturn, 1) := by decide +kernel
theorem dX8_home_12 : decode cX8_home 12 = .ok (.iconst 3, 1) := by decide +kernel
theorem dX8_home_13 : decode cX8_home 13 = .ok (.iload_n 1, 1) := by decide +kernel
theorem dX8_home_14 : decode cX8_home 14 = .ok (.imul, 1) := by decide +kernel
theorem dX8_home_15 : decode cX8_home 15 = .ok (.iload_n 2, 1) := by decide +kernel
theorem dX8_home_16 : decode cX8_home 16 = .ok (.iadd, 1) := by decide +kernel
theorem dX8_home_17 : decode cX8_home 17 = .ok (.istore_n 3, 1) := by decide +kernel
theorem dX8_home_18 : decode cX8_home 18 = .ok (.aload_n 0, 1) := by decide +kernel
theorem dX8_home_19 : decode cX8_home 19 = .ok (.iload_n 3, 1) := by decide +kernel
theorem dX8_home_20 : decode cX8_home 20 = .ok (.iconst 1, 1) := by decide +kernel
theorem dX8_home_21 : decode cX8_home 21 = .ok (.invokevirtual 60, 3) := by decide +kernel
theorem dX8_home_24 : decode cX8_home 24 = .ok (.istore 4, 2) := by decide +kernel
theorem dX8_home_26 : decode cX8_home 26 = .ok (.aload_n 0, 1) := by decide +kernel
theorem dX8_home_27 : decode cX8_home 27 = .ok (.iload_n 3, 1) := by decide +kernel
theorem dX8_home_28 : decode cX8_home 28 = .ok (.iconst 2, 1) := by decide +kernel
theorem dX8_home_29 : decode cX8_home 29 = .ok (.invokevirtual 60, 3) := by decide +kernel
theorem dX8_home_32 : decode cX8_home 32 = .ok (.ifCond .gt 8, 3) := by decide +kernel
theorem dX8_home_35 : decode cX8_home 35 = .ok (.iload 4, 2) := by decide +kernel
theorem dX8_home_37 : decode cX8_home 37 = .ok (.ifCond .ge 6, 3) := by decide +kernel
theorem dX8_home_40 : decode cX8_home 40 = .ok (.ldc 63, 2) := by decide +kernel
theorem dX8_home_42 : decode cX8_home 42 = .ok (.ireturn, 1) := by decide +kernel
theorem dX8_home_43 : decode cX8_home 43 = .ok (.aload_n 0, 1) := by decide +kernel
theorem dX8_home_44 : decode cX8_home 44 = .ok (.invokevirtual 52, 3) := by decide +kernel
theorem dX8_home_47 : decode cX8_home 47 = .ok (.aload_n 0, 1) := by decide +kernel
theorem dX8_home_48 : decode cX8_home 48 = .ok (.getfield 7, 3) := by decide +kernel
theorem dX8_home_51 : decode cX8_home 51 = .ok (.bipush 28, 2) := by decide +kernel
theorem dX8_home_53 : decode cX8_home 53 = .ok (.bipush 7, 2) := by decide +kernel
theorem dX8_home_55 : decode cX8_home 55 = .ok (.iload_n 3, 1) := by decide +kernel
theorem dX8_home_56 : decode cX8_home 56 = .ok (.imul, 1) := by decide +kernel
theorem dX8_home_57 : decode cX8_home 57 = .ok (.iadd, 1) := by decide +kernel
theorem dX8_home_58 : decode cX8_home 58 = .ok (.iconst 1, 1) := by decide +kernel
theorem dX8_home_59 : decode cX8_home 59 = .ok (.iadd, 1) := by decide +kernel
theorem dX8_home_60 : decode cX8_home 60 = .ok (.iconst (-1), 1) := by decide +kernel
theorem dX8_home_61 : decode cX8_home 61 = .ok (.iastore, 1) := by decide +kernel
theorem dX8_home_62 : decode cX8_home 62 = .ok (.iload 4, 2) := by decide +kernel
theorem dX8_home_64 : decode cX8_home 64 = .ok (.ireturn, 1) := by decide +kernel
def vc_X8_home (Q : Int32 → Mem → Prop) (ρ : Mem) (x1 : Int32) (x2 : Int32) : Prop :=
  vc_X8_isWorker (fun r1 => ((¬ r1 = 0) → (∀ v3 : Int32, v3 = ((3 * x1) + x2) → (vc_X8_of (fun r4 => vc_X8_of (fun r5 => ((0 < r5) → (Q (-1000002) ρ)) ∧ ((¬ 0 < r5) → (((0 ≤ r4) → (vc_X8_changes (fun ρ9 => vp_in ((28 + (7 * v3)) + 1) 164 ∧ (∀ ρ11 : Mem, ρ11 = up ρ9 1 ((28 + (7 * v3)) + 1).toNatClampNeg (-1) → (Q r4 ρ11))) ρ)) ∧ ((¬ 0 ≤ r4) → (Q (-1000002) ρ))))) ρ v3 2) ρ v3 1))) ∧ ((r1 = 0) → (Q (-1000001) ρ))) ρ x1 x2
set_option maxHeartbeats 8000000 in
set_option maxRecDepth 100000 in
theorem m_X8_home (l : Launch) (G : GG) (aM : Nat) (ρ : Mem) (x1 : Int32) (x2 : Int32) (Q : Int32 → Mem → Prop) (h : vc_X8_home Q ρ x1 x2) : CtI l yX8_home cX8_home 5 (some .int) { frames := 2, cells := 0, slots := 0, locals := 44 } [.ref (aM + 0), .int x1, .int x2] G (fun H => rg G LM aM ρ H) (Q) (fun u H => rg G LM aM u H) (RA aM 8) := by
  unfold CtI
  refine met_start (y := yX8_home) (maxL := 5) (av := [.ref (aM + 0), .int x1, .int x2]) (G := G) (P := fun H => rg G LM aM ρ H) (by decide) rfl (Nat.le_of_ble_eq_true rfl) (fun p e s m below meth c ls C hr hP hK hl => ?_)
  obtain ⟨hx, hb, hml, hown, hts, hlocks⟩ := id C
  have hM : rg G LM aM ρ s.heap := hP
  have hS : va_S (RA aM 8) s.heap s.heap [] := va_S.rf
  have hl : lv_has ls 5 [(0, .ref (aM + 0)), (1, .int x1), (2, .int x2)] := hl
  unfold vc_X8_home at h
  refine lv_aload_n hx hb dX8_home_0 rfl (lv_at hl 0 rfl) ?_
  refine lv_iload_n hx hb dX8_home_1 rfl (lv_at hl 1 rfl) ?_
  refine lv_iload_n hx hb dX8_home_2 rfl (lv_at hl 2 rfl) ?_
  refine g_vI C hK hl.1 (m_X8_isWorker l G aM ρ x1 x2 _ h) mw_X8_isWorker mi_X8_isWorker ml_X8_55 rfl ⟨rfl, rfl, Nat.le_of_ble_eq_true rfl, Nat.le_of_ble_eq_true rfl⟩ ⟨Nat.zero_le _, Nat.zero_le _⟩ (g_recv (a := aM) (k := 0) hK hM rfl rfl) hM hS (fun _ h => h.elim) rfl (Nat.le_of_ble_eq_true rfl) dX8_home_3 (fun r1 u H locs h hu _ hq hS => ?_)
  have hM := hM.past hq (fun _ _ h => h)
  refine lv_if_ne (tgt := 12) hx hb dX8_home_6 (by decide) (fun c2 => ?_) (fun c2 => ?_)
  · replace h := h.1 c2
    refine lv_iconst (v := 3) hx hb dX8_home_12 (by decide) ?_
    refine lv_iload_n hx hb dX8_home_13 rfl (lv_at hl 1 rfl) ?_
    refine lv_imul hx hb dX8_home_14 ?_
    refine lv_iload_n hx hb dX8_home_15 rfl (lv_at hl 2 rfl) ?_
    refine lv_iadd hx hb dX8_home_16 ?_
    refine lv_topi (fun v3 ev3 => ?_)
    specialize h v3 ev3
    refine lv_istore_n (lv' := [(3, .int v3), (0, .ref (aM + 0)), (1, .int x1), (2, .int x2)]) hx hb dX8_home_17 rfl hl (by decide) rfl (fun ls hl => ?_)
    refine lv_aload_n hx hb dX8_home_18 rfl (lv_at hl 1 rfl) ?_
    refine lv_iload_n hx hb dX8_home_19 rfl (lv_at hl 0 rfl) ?_
    refine lv_iconst (v := 1) hx hb dX8_home_20 (by decide) ?_
    refine g_vI C hK hl.1 (m_X8_of l G aM ρ v3 1 _ h) mw_X8_of mi_X8_of ml_X8_60 rfl ⟨rfl, rfl, Nat.le_of_ble_eq_true rfl, Nat.le_of_ble_eq_true rfl⟩ ⟨Nat.zero_le _, Nat.zero_le _⟩ (g_recv (a := aM) (k := 0) hK hM rfl rfl) hM hS (fun _ h => h.elim) rfl (Nat.le_of_ble_eq_true rfl) dX8_home_21 (fun r4 u H locs h hu _ hq hS => ?_)
    have hM := hM.past hq (fun _ _ h => h)
    refine lv_istore (lv' := [(4, .int r4), (3, .int v3), (0, .ref (aM + 0)), (1, .int x1), (2, .int x2)]) hx hb dX8_home_24 hl (by decide) rfl (fun ls hl => ?_)
    refine lv_aload_n hx hb dX8_home_26 rfl (lv_at hl 2 rfl) ?_
    refine lv_iload_n hx hb dX8_home_27 rfl (lv_at hl 1 rfl) ?_
    refine lv_iconst (v := 2) hx hb dX8_home_28 (by decide) ?_
    refine g_vI C hK hl.1 (m_X8_of l G aM ρ v3 2 _ h) mw_X8_of mi_X8_of ml_X8_60 rfl ⟨rfl, rfl, Nat.le_of_ble_eq_true rfl, Nat.le_of_ble_eq_true rfl⟩ ⟨Nat.zero_le _, Nat.zero_le _⟩ (g_recv (a := aM) (k := 0) hK hM rfl rfl) hM hS (fun _ h => h.elim) rfl (Nat.le_of_ble_eq_true rfl) dX8_home_29 (fun r5 u H locs h hu _ hq hS => ?_)
    have hM := hM.past hq (fun _ _ h => h)
    refine lv_if_gt (tgt := 40) hx hb dX8_home_32 (by decide) (fun c6 => ?_) (fun c6 => ?_)
    · replace h := h.1 c6
      refine g_ldc C kc_X8_63 dX8_home_40 ?_
      exact g_iret (post := Q) (P' := fun u H => rg G LM aM u H) (r := (-1000002)) (u := ρ) C hr hK hS h hM dX8_home_42
    · replace h := h.2 c6
      refine lv_iload hx hb dX8_home_35 (lv_at hl 0 rfl) ?_
      refine lv_if_ge (tgt := 43) hx hb dX8_home_37 (by decide) (fun c7 => ?_) (fun c7 => ?_)
      · replace h := h.1 c7
        refine lv_aload_n hx hb dX8_home_43 rfl (lv_at hl 2 rfl) ?_
        refine g_vV C hK hl.1 (m_X8_changes l G aM ρ _ h) mw_X8_changes mi_X8_changes ml_X8_52 rfl ⟨rfl, rfl, Nat.le_of_ble_eq_true rfl, Nat.le_of_ble_eq_true rfl⟩ ⟨Nat.zero_le _, Nat.zero_le _⟩ (g_recv (a := aM) (k := 0) hK hM rfl rfl) hM hS (fun _ h => h) rfl (Nat.le_of_ble_eq_true rfl) dX8_home_44 (fun u H locs h hu _ hq hS => ?_)
        obtain ⟨ρ9, rfl⟩ : ∃ z, z = u := ⟨_, rfl⟩
        have hM := hu
        refine lv_aload_n hx hb dX8_home_47 rfl (lv_at hl 2 rfl) ?_
        refine g_getR (a := aM) (k := 0) (o := 1) C hK hM fl_X8_7 rfl rfl dX8_home_48 ?_
        refine lv_bipush (v := 28) hx hb dX8_home_51 (by decide) ?_
        refine lv_bipush (v := 7) hx hb dX8_home_53 (by decide) ?_
        refine lv_iload_n hx hb dX8_home_55 rfl (lv_at hl 1 rfl) ?_
        refine lv_imul hx hb dX8_home_56 ?_
        refine lv_iadd hx hb dX8_home_57 ?_
        refine lv_iconst (v := 1) hx hb dX8_home_58 (by decide) ?_
        refine lv_iadd hx hb dX8_home_59 ?_
        refine lv_iconst (v := (-1)) hx hb dX8_home_60 (by decide) ?_
        obtain ⟨b10, h⟩ := h
        refine g_ast (a := aM) (k := 1) (n := 164) C hK hM hS rfl b10 (RA_in (by decide)) dX8_home_61 (fun ρ11 H locs eρ11 hM hS hq => ?_)
        specialize h ρ11 eρ11
        refine lv_iload hx hb dX8_home_62 (lv_at hl 0 rfl) ?_
        exact g_iret (post := Q) (P' := fun u H => rg G LM aM u H) (r := r4) (u := ρ11) C hr hK hS h hM dX8_home_64
      · replace h := h.2 c7
        refine g_ldc C kc_X8_63 dX8_home_40 ?_
        exact g_iret (post := Q) (P' := fun u H => rg G LM aM u H) (r := (-1000002)) (u := ρ) C hr hK hS h hM dX8_home_42
  · replace h := h.2 c2
    refine g_ldc C kc_X8_59 dX8_home_9 ?_
    exact g_iret (post := Q) (P' := fun u H => rg G LM aM u H) (r := (-1000001)) (u := ρ) C hr hK hS h hM dX8_home_11
theorem dX8_flips_0 : decode cX8_flips 0 = .ok (.aload_n 0, 1) := by decide +kernel
theorem dX8_flips_1 : decode cX8_flips 1 = .ok (.getfield 7, 3) := by decide +kernel
theorem dX8_flips_4 : decode cX8_flips 4 = .ok (.bipush 28, 2) := by decide +kernel
theorem dX8_flips_6 : decode cX8_flips 6 = .ok (.bipush 7, 2) := by decide +kernel
theorem dX8_flips_8 : decode cX8_flips 8 = .ok (.iload_n 1, 1) := by decide +kernel
theorem dX8_flips_9 : decode cX8_flips 9 = .ok (.imul, 1) := by decide +kernel
theorem dX8_flips_10 : decode cX8_flips 10 = .ok (.iadd, 1) := by decide +kernel
theorem dX8_flips_11 : decode cX8_flips 11 = .ok (.iconst 2, 1) := by decide +kernel
theorem dX8_flips_12 : decode cX8_flips 12 = .ok (.iadd, 1) := by decide +kernel
theorem dX8_flips_13 : decode cX8_flips 13 = .ok (.aload_n 0, 1) := by decide +kernel
theorem dX8_flips_14 : decode cX8_flips 14 = .ok (.iload_n 1, 1) := by decide +kernel
theorem dX8_flips_15 : decode cX8_flips 15 = .ok (.iconst 0, 1) := by decide +kernel
theorem dX8_flips_16 : decode cX8_flips 16 = .ok (.invokevirtual 60, 3) := by decide +kernel
theorem dX8_flips_19 : decode cX8_flips 19 = .ok (.aload_n 0, 1) := by decide +kernel
theorem dX8_flips_20 : decode cX8_flips 20 = .ok (.iload_n 1, 1) := by decide +kernel
theorem dX8_flips_21 : decode cX8_flips 21 = .ok (.iconst 2, 1) := by decide +kernel
theorem dX8_flips_22 : decode cX8_flips 22 = .ok (.invokevirtual 60, 3) := by decide +kernel
theorem dX8_flips_25 : decode cX8_flips 25 = .ok (.isub, 1) := by decide +kernel
theorem dX8_flips_26 : decode cX8_flips 26 = .ok (.iastore, 1) := by decide +kernel
theorem dX8_flips_27 : decode cX8_flips 27 = .ok (.aload_n 0, 1) := by decide +kernel
theorem dX8_flips_28 : decode cX8_flips 28 = .ok (.getfield 7, 3) := by decide +kernel
theorem dX8_flips_31 : decode cX8_flips 31 = .ok (.bipush 28, 2) := by decide +kernel
theorem dX8_flips_33 : decode cX8_flips 33 = .ok (.bipush 7, 2) := by decide +kernel
theorem dX8_flips_35 : decode cX8_flips 35 = .ok (.iload_n 1, 1) := by decide +kernel
theorem dX8_flips_36 : decode cX8_flips 36 = .ok (.imul, 1) := by decide +kernel
theorem dX8_flips_37 : decode cX8_flips 37 = .ok (.iadd, 1) := by decide +kernel
theorem dX8_flips_38 : decode cX8_flips 38 = .ok (.iconst 5, 1) := by decide +kernel
theorem dX8_flips_39 : decode cX8_flips 39 = .ok (.iadd, 1) := by decide +kernel
theorem dX8_flips_40 : decode cX8_flips 40 = .ok (.dup2, 1) := by decide +kernel
theorem dX8_flips_41 : decode cX8_flips 41 = .ok (.iaload, 1) := by decide +kernel
theorem dX8_flips_42 : decode cX8_flips 42 = .ok (.iconst 1, 1) := by decide +kernel
theorem dX8_flips_43 : decode cX8_flips 43 = .ok (.iadd, 1) := by decide +kernel
theorem dX8_flips_44 : decode cX8_flips 44 = .ok (.iastore, 1) := by decide +kernel
theorem dX8_flips_45 : decode cX8_flips 45 = .ok (.aload_n 0, 1) := by decide +kernel
theorem dX8_flips_46 : decode cX8_flips 46 = .ok (.getfield 7, 3) := by decide +kernel
theorem dX8_flips_49 : decode cX8_flips 49 = .ok (.iconst 5, 1) := by decide +kernel
theorem dX8_flips_50 : decode cX8_flips 50 = .ok (.dup2, 1) := by decide +kernel
theorem dX8_flips_51 : decode cX8_flips 51 = .ok (.iaload, 1) := by decide +kernel
theorem dX8_flips_52 : decode cX8_flips 52 = .ok (.iconst 1, 1) := by decide +kernel
theorem dX8_flips_53 : decode cX8_flips 53 = .ok (.iadd, 1) := by decide +kernel
theorem dX8_flips_54 : decode cX8_flips 54 = .ok (.iastore, 1) := by decide +kernel
theorem dX8_flips_55 : decode cX8_flips 55 = .ok (.aload_n 0, 1) := by decide +kernel
theorem dX8_flips_56 : decode cX8_flips 56 = .ok (.iload_n 1, 1) := by decide +kernel
theorem dX8_flips_57 : decode cX8_flips 57 = .ok (.iconst 2, 1) := by decide +kernel
theorem dX8_flips_58 : decode cX8_flips 58 = .ok (.invokevirtual 60, 3) := by decide +kernel
theorem dX8_flips_61 : decode cX8_flips 61 = .ok (.ifCond .ne 23, 3) := by decide +kernel
theorem dX8_flips_64 : decode cX8_flips 64 = .ok (.aload_n 0, 1) := by decide +kernel
theorem dX8_flips_65 : decode cX8_flips 65 = .ok (.getfield 25, 3) := by decide +kernel
theorem dX8_flips_68 : decode cX8_flips 68 = .ok (.aload_n 0, 1) := by decide +kernel
theorem dX8_flips_69 : decode cX8_flips 69 = .ok (.getfield 91, 3) := by decide +kernel
theorem dX8_flips_72 : decode cX8_flips 72 = .ok (.iload_n 1, 1) := by decide +kernel
theorem dX8_flips_73 : decode cX8_flips 73 = .ok (.iastore, 1) := by decide +kernel
theorem dX8_flips_74 : decode cX8_flips 74 = .ok (.aload_n 0, 1) := by decide +kernel
theorem dX8_flips_75 : decode cX8_flips 75 = .ok (.dup, 1) := by decide +kernel
theorem dX8_flips_76 : decode cX8_flips 76 = .ok (.getfield 91, 3) := by decide +kernel
theorem dX8_flips_79 : decode cX8_flips 79 = .ok (.iconst 1, 1) := by decide +kernel
theorem dX8_flips_80 : decode cX8_flips 80 = .ok (.iadd, 1) := by decide +kernel
theorem dX8_flips_81 : decode cX8_flips 81 = .ok (.putfield 91, 3) := by decide +kernel
theorem dX8_flips_84 : decode cX8_flips 84 = .ok (.return_, 1) := by decide +kernel
def vc_X8_flips (Q : Mem → Prop) (ρ : Mem) (x1 : Int32) : Prop :=
  vc_X8_of (fun r1 => vc_X8_of (fun r2 => vp_in ((28 + (7 * x1)) + 2) 164 ∧ (∀ ρ4 : Mem, ρ4 = up ρ 1 ((28 + (7 * x1)) + 2).toNatClampNeg (r1 - r2) → (vp_in ((28 + (7 * x1)) + 5) 164 ∧ ((∀ ρ6 : Mem, ρ6 = up ρ4 1 ((28 + (7 * x1)) + 5).toNatClampNeg ((ρ4 1 ((28 + (7 * x1)) + 5).toNatClampNeg) + 1) → (((∀ ρ7 : Mem, ρ7 = up ρ6 1 (5 : Int32).toNatClampNeg ((ρ6 1 (5 : Int32).toNatClampNeg) + 1) → (vc_X8_of (fun r8 => ((¬ r8 = 0) → (Q ρ7)) ∧ ((r8 = 0) → (vp_in (ρ7 0 9) 12 ∧ (∀ ρ11 : Mem, ρ11 = up ρ7 6 (ρ7 0 9).toNatClampNeg x1 → (∀ ρ12 : Mem, ρ12 = up ρ11 0 9 ((ρ11 0 9) + 1) → (Q ρ12)))))) ρ7 x1 2))))))))) ρ x1 2) ρ x1 0
set_option maxHeartbeats 8000000 in
set_option maxRecDepth 100000 in
theorem m_X8_flips (l : Launch) (G : GG) (aM : Nat) (ρ : Mem) (x1 : Int32) (Q : Mem → Prop) (h : vc_X8_flips Q ρ x1) : CtV l yX8_flips cX8_flips 2 { frames := 1, cells := 0, slots := 0, locals := 22 } [.ref (aM + 0), .int x1] G (fun H => rg G LM aM ρ H) (Q) (fun u H => rg G LM aM u H) (RA aM 8) := by
  unfold CtV
  refine met_start (y := yX8_flips) (maxL := 2) (av := [.ref (aM + 0), .int x1]) (G := G) (P := fun H => rg G LM aM ρ H) (by decide) rfl (Nat.le_of_ble_eq_true rfl) (fun p e s m below meth c ls C hr hP hK hl => ?_)
  obtain ⟨hx, hb, hml, hown, hts, hlocks⟩ := id C
  have hM : rg G LM aM ρ s.heap := hP
  have hS : va_S (RA aM 8) s.heap s.heap [] := va_S.rf
  have hl : lv_has ls 2 [(0, .ref (aM + 0)), (1, .int x1)] := hl
  unfold vc_X8_flips at h
  refine lv_aload_n hx hb dX8_flips_0 rfl (lv_at hl 0 rfl) ?_
  refine g_getR (a := aM) (k := 0) (o := 1) C hK hM fl_X8_7 rfl rfl dX8_flips_1 ?_
  refine lv_bipush (v := 28) hx hb dX8_flips_4 (by decide) ?_
  refine lv_bipush (v := 7) hx hb dX8_flips_6 (by decide) ?_
  refine lv_iload_n hx hb dX8_flips_8 rfl (lv_at hl 1 rfl) ?_
  refine lv_imul hx hb dX8_flips_9 ?_
  refine lv_iadd hx hb dX8_flips_10 ?_
  refine lv_iconst (v := 2) hx hb dX8_flips_11 (by decide) ?_
  refine lv_iadd hx hb dX8_flips_12 ?_
  refine lv_aload_n hx hb dX8_flips_13 rfl (lv_at hl 0 rfl) ?_
  refine lv_iload_n hx hb dX8_flips_14 rfl (lv_at hl 1 rfl) ?_
  refine lv_iconst (v := 0) hx hb dX8_flips_15 (by decide) ?_
  refine g_vI C hK hl.1 (m_X8_of l G aM ρ x1 0 _ h) mw_X8_of mi_X8_of ml_X8_60 rfl ⟨rfl, rfl, Nat.le_of_ble_eq_true rfl, Nat.le_of_ble_eq_true rfl⟩ ⟨Nat.zero_le _, Nat.zero_le _⟩ (g_recv (a := aM) (k := 0) hK hM rfl rfl) hM hS (fun _ h => h.elim) rfl (Nat.le_of_ble_eq_true rfl) dX8_flips_16 (fun r1 u H locs h hu _ hq hS => ?_)
  have hM := hM.past hq (fun _ _ h => h)
  refine lv_aload_n hx hb dX8_flips_19 rfl (lv_at hl 0 rfl) ?_
  refine lv_iload_n hx hb dX8_flips_20 rfl (lv_at hl 1 rfl) ?_
  refine lv_iconst (v := 2) hx hb dX8_flips_21 (by decide) ?_
  refine g_vI C hK hl.1 (m_X8_of l G aM ρ x1 2 _ h) mw_X8_of mi_X8_of ml_X8_60 rfl ⟨rfl, rfl, Nat.le_of_ble_eq_true rfl, Nat.le_of_ble_eq_true rfl⟩ ⟨Nat.zero_le _, Nat.zero_le _⟩ (g_recv (a := aM) (k := 0) hK hM rfl rfl) hM hS (fun _ h => h.elim) rfl (Nat.le_of_ble_eq_true rfl) dX8_flips_22 (fun r2 u H locs h hu _ hq hS => ?_)
  have hM := hM.past hq (fun _ _ h => h)
  refine lv_isub hx hb dX8_flips_25 ?_
  obtain ⟨b3, h⟩ := h
  refine g_ast (a := aM) (k := 1) (n := 164) C hK hM hS rfl b3 (RA_in (by decide)) dX8_flips_26 (fun ρ4 H locs eρ4 hM hS hq => ?_)
  specialize h ρ4 eρ4
  refine lv_aload_n hx hb dX8_flips_27 rfl (lv_at hl 0 rfl) ?_
  refine g_getR (a := aM) (k := 0) (o := 1) C hK hM fl_X8_7 rfl rfl dX8_flips_28 ?_
  refine lv_bipush (v := 28) hx hb dX8_flips_31 (by decide) ?_
  refine lv_bipush (v := 7) hx hb dX8_flips_33 (by decide) ?_
  refine lv_iload_n hx hb dX8_flips_35 rfl (lv_at hl 1 rfl) ?_
  refine lv_imul hx hb dX8_flips_36 ?_
  refine lv_iadd hx hb dX8_flips_37 ?_
  refine lv_iconst (v := 5) hx hb dX8_flips_38 (by decide) ?_
  refine lv_iadd hx hb dX8_flips_39 ?_
  refine lv_dup2_11 hx hb dX8_flips_40 rfl rfl ?_
  obtain ⟨b5, h⟩ := h
  refine g_ald (a := aM) (k := 1) (n := 164) C hK hM rfl b5 dX8_flips_41 ?_
  refine lv_iconst (v := 1) hx hb dX8_flips_42 (by decide) ?_
  refine lv_iadd hx hb dX8_flips_43 ?_
  refine g_ast (a := aM) (k := 1) (n := 164) C hK hM hS rfl b5 (RA_in (by decide)) dX8_flips_44 (fun ρ6 H locs eρ6 hM hS hq => ?_)
  specialize h ρ6 eρ6
  refine lv_aload_n hx hb dX8_flips_45 rfl (lv_at hl 0 rfl) ?_
  refine g_getR (a := aM) (k := 0) (o := 1) C hK hM fl_X8_7 rfl rfl dX8_flips_46 ?_
  refine lv_iconst (v := 5) hx hb dX8_flips_49 (by decide) ?_
  refine lv_dup2_11 hx hb dX8_flips_50 rfl rfl ?_
  refine g_ald (a := aM) (k := 1) (n := 164) C hK hM rfl (vp_dec (by decide)) dX8_flips_51 ?_
  refine lv_iconst (v := 1) hx hb dX8_flips_52 (by decide) ?_
  refine lv_iadd hx hb dX8_flips_53 ?_
  refine g_ast (a := aM) (k := 1) (n := 164) C hK hM hS rfl (vp_dec (by decide)) (RA_in (by decide)) dX8_flips_54 (fun ρ7 H locs eρ7 hM hS hq => ?_)
  specialize h ρ7 eρ7
  refine lv_aload_n hx hb dX8_flips_55 rfl (lv_at hl 0 rfl) ?_
  refine lv_iload_n hx hb dX8_flips_56 rfl (lv_at hl 1 rfl) ?_
  refine lv_iconst (v := 2) hx hb dX8_flips_57 (by decide) ?_
  refine g_vI C hK hl.1 (m_X8_of l G aM ρ7 x1 2 _ h) mw_X8_of mi_X8_of ml_X8_60 rfl ⟨rfl, rfl, Nat.le_of_ble_eq_true rfl, Nat.le_of_ble_eq_true rfl⟩ ⟨Nat.zero_le _, Nat.zero_le _⟩ (g_recv (a := aM) (k := 0) hK hM rfl rfl) hM hS (fun _ h => h.elim) rfl (Nat.le_of_ble_eq_true rfl) dX8_flips_58 (fun r8 u H locs h hu _ hq hS => ?_)
  have hM := hM.past hq (fun _ _ h => h)
  refine lv_if_ne (tgt := 84) hx hb dX8_flips_61 (by decide) (fun c9 => ?_) (fun c9 => ?_)
  · replace h := h.1 c9
    exact g_vret (post := Q) (P' := fun u H => rg G LM aM u H) (u := ρ7) C hr hK hS h hM dX8_flips_84
  · replace h := h.2 c9
    refine lv_aload_n hx hb dX8_flips_64 rfl (lv_at hl 0 rfl) ?_
    refine g_getR (a := aM) (k := 0) (o := 6) C hK hM fl_X8_25 rfl rfl dX8_flips_65 ?_
    refine lv_aload_n hx hb dX8_flips_68 rfl (lv_at hl 0 rfl) ?_
    refine g_getI (a := aM) (k := 0) C hK hM fl_X8_91 rfl rfl dX8_flips_69 ?_
    refine lv_iload_n hx hb dX8_flips_72 rfl (lv_at hl 1 rfl) ?_
    obtain ⟨b10, h⟩ := h
    refine g_ast (a := aM) (k := 6) (n := 12) C hK hM hS rfl b10 (RA_in (by decide)) dX8_flips_73 (fun ρ11 H locs eρ11 hM hS hq => ?_)
    specialize h ρ11 eρ11
    refine lv_aload_n hx hb dX8_flips_74 rfl (lv_at hl 0 rfl) ?_
    refine lv_dup hx hb dX8_flips_75 rfl ?_
    refine g_getI (a := aM) (k := 0) C hK hM fl_X8_91 rfl rfl dX8_flips_76 ?_
    refine lv_iconst (v := 1) hx hb dX8_flips_79 (by decide) ?_
    refine lv_iadd hx hb dX8_flips_80 ?_
    refine g_put (a := aM) (k := 0) C hK hM hS fl_X8_91 fp_X8_9 rfl rfl (by rfl) (by rfl) (RA_in (by decide)) dX8_flips_81 (fun ρ12 H locs eρ12 hM hS hq => ?_)
    specialize h ρ12 eρ12
    exact g_vret (post := Q) (P' := fun u H => rg G LM aM u H) (u := ρ12) C hr hK hS h hM dX8_flips_84
theorem dX8_gains_0 : decode cX8_gains 0 = .ok (.iconst 0, 1) := by decide +kernel
theorem dX8_gains_1 : decode cX8_gains 1 = .ok (.istore_n 3, 1) := by decide +kernel
theorem dX8_gains_2 : decode cX8_gains 2 = .ok (.iload_n 3, 1) := by decide +kernel
theorem dX8_gains_3 : decode cX8_gains 3 = .ok (.iconst 3, 1) := by decide +kernel
theorem dX8_gains_4 : decode cX8_gains 4 = .ok (.if_icmp .ge 83, 3) := by decide +kernel
theorem dX8_gains_7 : decode cX8_gains 7 = .ok (.aload_n 0, 1) := by decide +kernel
theorem dX8_gains_8 : decode cX8_gains 8 = .ok (.getfield 7, 3) := by decide +kernel
theorem dX8_gains_11 : decode cX8_gains 11 = .ok (.bipush 8, 2) := by decide +kernel
theorem dX8_gains_13 : decode cX8_gains 13 = .ok (.iconst 5, 1) := by decide +kernel
theorem dX8_gains_14 : decode cX8_gains 14 = .ok (.iload_n 1, 1) := by decide +kernel
theorem dX8_gains_15 : decode cX8_gains 15 = .ok (.imul, 1) := by decide +kernel
theorem dX8_gains_16 : decode cX8_gains 16 = .ok (.iadd, 1) := by decide +kernel
theorem dX8_gains_17 : decode cX8_gains 17 = .ok (.iload_n 3, 1) := by decide +kernel
theorem dX8_gains_18 : decode cX8_gains 18 = .ok (.iadd, 1) := by decide +kernel
theorem dX8_gains_19 : decode cX8_gains 19 = .ok (.iaload, 1) := by decide +kernel
theorem dX8_gains_20 : decode cX8_gains 20 = .ok (.iload_n 2, 1) := by decide +kernel
theorem dX8_gains_21 : decode cX8_gains 21 = .ok (.iload_n 3, 1) := by decide +kernel
theorem dX8_gains_22 : decode cX8_gains 22 = .ok (.invokestatic 47, 3) := by decide +kernel
theorem dX8_gains_25 : decode cX8_gains 25 = .ok (.iadd, 1) := by decide +kernel
theorem dX8_gains_26 : decode cX8_gains 26 = .ok (.istore 4, 2) := by decide +kernel
theorem dX8_gains_28 : decode cX8_gains 28 = .ok (.aload_n 0, 1) := by decide +kernel
theorem dX8_gains_29 : decode cX8_gains 29 = .ok (.getfield 7, 3) := by decide +kernel
theorem dX8_gains_32 : decode cX8_gains 32 = .ok (.bipush 6, 2) := by decide +kernel
theorem dX8_gains_34 : decode cX8_gains 34 = .ok (.dup2, 1) := by decide +kernel
theorem dX8_gains_35 : decode cX8_gains 35 = .ok (.iaload, 1) := by decide +kernel
theorem dX8_gains_36 : decode cX8_gains 36 = .ok (.iload 4, 2) := by decide +kernel
theorem dX8_gains_38 : decode cX8_gains 38 = .ok (.bipush 99, 2) := by decide +kernel
theorem dX8_gains_40 : decode cX8_gains 40 = .ok (.if_icmp .le 11, 3) := by decide +kernel
theorem dX8_gains_43 : decode cX8_gains 43 = .ok (.iload 4, 2) := by decide +kernel
theorem dX8_gains_45 : decode cX8_gains 45 = .ok (.bipush 99, 2) := by decide +kernel
theorem dX8_gains_47 : decode cX8_gains 47 = .ok (.isub, 1) := by decide +kernel
theorem dX8_gains_48 : decode cX8_gains 48 = .ok (.goto 4, 3) := by decide +kernel
theorem dX8_gains_51 : decode cX8_gains 51 = .ok (.iconst 0, 1) := by decide +kernel
theorem dX8_gains_52 : decode cX8_gains 52 = .ok (.iadd, 1) := by decide +kernel
theorem dX8_gains_53 : decode cX8_gains 53 = .ok (.iastore, 1) := by decide +kernel
theorem dX8_gains_54 : decode cX8_gains 54 = .ok (.aload_n 0, 1) := by decide +kernel
theorem dX8_gains_55 : decode cX8_gains 55 = .ok (.getfield 7, 3) := by decide +kernel
theorem dX8_gains_58 : decode cX8_gains 58 = .ok (.bipush 8, 2) := by decide +kernel
theorem dX8_gains_60 : decode cX8_gains 60 = .ok (.iconst 5, 1) := by decide +kernel
theorem dX8_gains_61 : decode cX8_gains 61 = .ok (.iload_n 1, 1) := by decide +kernel
theorem dX8_gains_62 : decode cX8_gains 62 = .ok (.imul, 1) := by decide +kernel
theorem dX8_gains_63 : decode cX8_gains 63 = .ok (.iadd, 1) := by decide +kernel
theorem dX8_gains_64 : decode cX8_gains 64 = .ok (.iload_n 3, 1) := by decide +kernel
theorem dX8_gains_65 : decode cX8_gains 65 = .ok (.iadd, 1) := by decide +kernel
theorem dX8_gains_66 : decode cX8_gains 66 = .ok (.iload 4, 2) := by decide +kernel
theorem dX8_gains_68 : decode cX8_gains 68 = .ok (.bipush 99, 2) := by decide +kernel
theorem dX8_gains_70 : decode cX8_gains 70 = .ok (.if_icmp .le 8, 3) := by decide +kernel
theorem dX8_gains_73 : decode cX8_gains 73 = .ok (.bipush 99, 2) := by decide +kernel
theorem dX8_gains_75 : decode cX8_gains 75 = .ok (.goto 5, 3) := by decide +kernel
theorem dX8_gains_78 : decode cX8_gains 78 = .ok (.iload 4, 2) := by decide +kernel
theorem dX8_gains_80 : decode cX8_gains 80 = .ok (.iastore, 1) := by decide +kernel
theorem dX8_gains_81 : decode cX8_gains 81 = .ok (.iinc 3 1, 3) := by decide +kernel
theorem dX8_gains_84 : decode cX8_gains 84 = .ok (.goto (-82), 3) := by decide +kernel
theorem dX8_gains_87 : decode cX8_gains 87 = .ok (.return_, 1) := by decide +kernel
def vb_X8_gains_2 (Q : Mem → Prop) (rec : Nat → Mem → Int32 → Int32 → Int32 → Int32 → Int32 → Int32 → Int32 → Prop) (ρ : Mem) (w1 : Int32) (w2 : Int32) (w3 : Int32) : Prop :=
  ((3 ≤ w3) → (Q ρ)) ∧ ((¬ 3 ≤ w3) → (vp_in ((8 + (5 * w1)) + w3) 164 ∧ (vc_X8_amount (fun r3 => ∀ v4 : Int32, v4 = ((ρ 1 ((8 + (5 * w1)) + w3).toNatClampNeg) + r3) → ((((v4 ≤ 99) → (rec 1 ρ w1 w2 w3 v4 6 (ρ 1 (6 : Int32).toNatClampNeg) 0)) ∧ ((¬ v4 ≤ 99) → (rec 1 ρ w1 w2 w3 v4 6 (ρ 1 (6 : Int32).toNatClampNeg) (v4 - 99)))))) w2 w3)))
def vb_X8_gains_52 (Q : Mem → Prop) (rec : Nat → Mem → Int32 → Int32 → Int32 → Int32 → Int32 → Int32 → Int32 → Prop) (ρ : Mem) (w1 : Int32) (w2 : Int32) (w3 : Int32) (w4 : Int32) (z1 : Int32) (z2 : Int32) (z3 : Int32) : Prop :=
  vp_in z1 164 ∧ (∀ ρ7 : Mem, ρ7 = up ρ 1 z1.toNatClampNeg (z2 + z3) → (((w4 ≤ 99) → (vp_in ((8 + (5 * w1)) + w3) 164 ∧ (∀ ρ10 : Mem, ρ10 = up ρ7 1 ((8 + (5 * w1)) + w3).toNatClampNeg w4 → (∀ v11 : Int32, v11 = w3 + 1 → (rec 0 ρ10 w1 w2 v11 0 0 0 0))))) ∧ ((¬ w4 ≤ 99) → (vp_in ((8 + (5 * w1)) + w3) 164 ∧ (∀ ρ13 : Mem, ρ13 = up ρ7 1 ((8 + (5 * w1)) + w3).toNatClampNeg 99 → (∀ v14 : Int32, v14 = w3 + 1 → (rec 0 ρ13 w1 w2 v14 0 0 0 0)))))))
def vl_X8_gains (Q : Mem → Prop) : Nat → Nat → Mem → Int32 → Int32 → Int32 → Int32 → Int32 → Int32 → Int32 → Prop
  | 0, _, _, _, _, _, _, _, _, _ => False
  | n + 1, 0, ρ, w1, w2, w3, _, _, _, _ => vb_X8_gains_2 Q (vl_X8_gains Q n) ρ w1 w2 w3
  | n + 1, 1, ρ, w1, w2, w3, w4, z1, z2, z3 => vb_X8_gains_52 Q (vl_X8_gains Q n) ρ w1 w2 w3 w4 z1 z2 z3
  | _ + 1, _, _, _, _, _, _, _, _, _ => False
def vc_X8_gains (Q : Mem → Prop) (ρ : Mem) (x1 : Int32) (x2 : Int32) : Prop :=
  ∃ n : Nat, vl_X8_gains Q n 0 ρ x1 x2 0 0 0 0 0
set_option maxHeartbeats 8000000 in
set_option maxRecDepth 100000 in
theorem m_X8_gains (l : Launch) (G : GG) (aM : Nat) (ρ : Mem) (x1 : Int32) (x2 : Int32) (Q : Mem → Prop) (h : vc_X8_gains Q ρ x1 x2) : CtV l yX8_gains cX8_gains 5 { frames := 1, cells := 0, slots := 0, locals := 21 } [.ref (aM + 0), .int x1, .int x2] G (fun H => rg G LM aM ρ H) (Q) (fun u H => rg G LM aM u H) (RA aM 8) := by
  unfold CtV
  refine met_start (y := yX8_gains) (maxL := 5) (av := [.ref (aM + 0), .int x1, .int x2]) (G := G) (P := fun H => rg G LM aM ρ H) (by decide) rfl (Nat.le_of_ble_eq_true rfl) (fun p e s m below meth c ls C hr hP hK hl => ?_)
  obtain ⟨hx, hb, hml, hown, hts, hlocks⟩ := id C
  have hM : rg G LM aM ρ s.heap := hP
  have hS : va_S (RA aM 8) s.heap s.heap [] := va_S.rf
  have hl : lv_has ls 5 [(0, .ref (aM + 0)), (1, .int x1), (2, .int x2)] := hl
  have K : ∀ n : Nat, (∀ (ρ : Mem) (w1 : Int32) (w2 : Int32) (w3 : Int32) (H : Heap) (locs : List Loc) (ls : Array Slot), rg G LM aM ρ H → va_S (RA aM 8) s.heap H locs → lv_has ls 5 [(0, .ref (aM + 0)), (1, .int w1), (2, .int w2), (3, .int w3)] → vl_X8_gains Q n 0 ρ w1 w2 w3 0 0 0 0 → W p l e { frames := 1, cells := 0, slots := 0, locals := 21 } s m [.ref (aM + 0), .int x1, .int x2].toArray below meth c H locs 0 0 (MQ below (va_Qv (Q) (fun u t => (fun u H => rg G LM aM u H) u t.heap ∧ KK G t) (RA aM 8)) [.ref (aM + 0), .int x1, .int x2].toArray s 0 0 (RA aM 8)) (F0 m 2 ls [])) ∧ (∀ (ρ : Mem) (w1 : Int32) (w2 : Int32) (w3 : Int32) (w4 : Int32) (z1 : Int32) (z2 : Int32) (z3 : Int32) (H : Heap) (locs : List Loc) (ls : Array Slot), rg G LM aM ρ H → va_S (RA aM 8) s.heap H locs → lv_has ls 5 [(0, .ref (aM + 0)), (1, .int w1), (2, .int w2), (3, .int w3), (4, .int w4)] → vl_X8_gains Q n 1 ρ w1 w2 w3 w4 z1 z2 z3 → W p l e { frames := 1, cells := 0, slots := 0, locals := 21 } s m [.ref (aM + 0), .int x1, .int x2].toArray below meth c H locs 0 0 (MQ below (va_Qv (Q) (fun u t => (fun u H => rg G LM aM u H) u t.heap ∧ KK G t) (RA aM 8)) [.ref (aM + 0), .int x1, .int x2].toArray s 0 0 (RA aM 8)) (F0 m 52 ls [.int z3, .int z2, .int z1, .ref (aM + 1)])) := by
    intro n
    induction n with
    | zero => exact ⟨fun _ _ _ _ _ _ _ _ _ _ h => h.elim, fun _ _ _ _ _ _ _ _ _ _ _ _ _ _ h => h.elim⟩
    | succ n ih =>
      refine ⟨?_, ?_⟩
      · intro ρ w1 w2 w3 H locs ls hM hS hl h
        replace h : vb_X8_gains_2 Q (vl_X8_gains Q n) ρ w1 w2 w3 := h
        unfold vb_X8_gains_2 at h
        refine lv_iload_n hx hb dX8_gains_2 rfl (lv_at hl 3 rfl) ?_
        refine lv_iconst (v := 3) hx hb dX8_gains_3 (by decide) ?_
        refine lv_icmp_ge (tgt := 87) hx hb dX8_gains_4 (by decide) (fun c1 => ?_) (fun c1 => ?_)
        · replace h := h.1 c1
          exact g_vret (post := Q) (P' := fun u H => rg G LM aM u H) (u := ρ) C hr hK hS h hM dX8_gains_87
        · replace h := h.2 c1
          refine lv_aload_n hx hb dX8_gains_7 rfl (lv_at hl 0 rfl) ?_
          refine g_getR (a := aM) (k := 0) (o := 1) C hK hM fl_X8_7 rfl rfl dX8_gains_8 ?_
          refine lv_bipush (v := 8) hx hb dX8_gains_11 (by decide) ?_
          refine lv_iconst (v := 5) hx hb dX8_gains_13 (by decide) ?_
          refine lv_iload_n hx hb dX8_gains_14 rfl (lv_at hl 1 rfl) ?_
          refine lv_imul hx hb dX8_gains_15 ?_
          refine lv_iadd hx hb dX8_gains_16 ?_
          refine lv_iload_n hx hb dX8_gains_17 rfl (lv_at hl 3 rfl) ?_
          refine lv_iadd hx hb dX8_gains_18 ?_
          obtain ⟨b2, h⟩ := h
          refine g_ald (a := aM) (k := 1) (n := 164) C hK hM rfl b2 dX8_gains_19 ?_
          refine lv_iload_n hx hb dX8_gains_20 rfl (lv_at hl 2 rfl) ?_
          refine lv_iload_n hx hb dX8_gains_21 rfl (lv_at hl 3 rfl) ?_
          refine g_sI C hK hl.1 (m_X8_amount l G w2 w3 _ h) mw_X8_amount ms_X8_amount ml_X8_47 rfl ⟨rfl, rfl, Nat.le_of_ble_eq_true rfl, Nat.le_of_ble_eq_true rfl⟩ ⟨Nat.zero_le _, Nat.zero_le _⟩ trivial hS (fun _ h => h.elim) rfl (Nat.le_of_ble_eq_true rfl) dX8_gains_22 (fun r3 u H locs h hu _ hq hS => ?_)
          have hM := hM.past hq (fun _ _ h => h)
          refine lv_iadd hx hb dX8_gains_25 ?_
          refine lv_topi (fun v4 ev4 => ?_)
          specialize h v4 ev4
          refine lv_istore (lv' := [(4, .int v4), (0, .ref (aM + 0)), (1, .int w1), (2, .int w2), (3, .int w3)]) hx hb dX8_gains_26 hl (by decide) rfl (fun ls hl => ?_)
          refine lv_aload_n hx hb dX8_gains_28 rfl (lv_at hl 1 rfl) ?_
          refine g_getR (a := aM) (k := 0) (o := 1) C hK hM fl_X8_7 rfl rfl dX8_gains_29 ?_
          refine lv_bipush (v := 6) hx hb dX8_gains_32 (by decide) ?_
          refine lv_dup2_11 hx hb dX8_gains_34 rfl rfl ?_
          refine g_ald (a := aM) (k := 1) (n := 164) C hK hM rfl (vp_dec (by decide)) dX8_gains_35 ?_
          refine lv_iload hx hb dX8_gains_36 (lv_at hl 0 rfl) ?_
          refine lv_bipush (v := 99) hx hb dX8_gains_38 (by decide) ?_
          refine lv_icmp_le (tgt := 51) hx hb dX8_gains_40 (by decide) (fun c5 => ?_) (fun c5 => ?_)
          · replace h := h.1 c5
            refine lv_iconst (v := 0) hx hb dX8_gains_51 (by decide) ?_
            exact (ih.2) ρ w1 w2 w3 v4 6 (ρ 1 (6 : Int32).toNatClampNeg) 0 _ _ _ hM hS (lv_sub hl [1, 2, 3, 4, 0] rfl) h
          · replace h := h.2 c5
            refine lv_iload hx hb dX8_gains_43 (lv_at hl 0 rfl) ?_
            refine lv_bipush (v := 99) hx hb dX8_gains_45 (by decide) ?_
            refine lv_isub hx hb dX8_gains_47 ?_
            refine lv_goto (tgt := 52) hx hb dX8_gains_48 (by decide) ?_
            exact (ih.2) ρ w1 w2 w3 v4 6 (ρ 1 (6 : Int32).toNatClampNeg) (v4 - 99) _ _ _ hM hS (lv_sub hl [1, 2, 3, 4, 0] rfl) h
      · intro ρ w1 w2 w3 w4 z1 z2 z3 H locs ls hM hS hl h
        replace h : vb_X8_gains_52 Q (vl_X8_gains Q n) ρ w1 w2 w3 w4 z1 z2 z3 := h
        unfold vb_X8_gains_52 at h
        refine lv_iadd hx hb dX8_gains_52 ?_
        obtain ⟨b6, h⟩ := h
        refine g_ast (a := aM) (k := 1) (n := 164) C hK hM hS rfl b6 (RA_in (by decide)) dX8_gains_53 (fun ρ7 H locs eρ7 hM hS hq => ?_)
        specialize h ρ7 eρ7
        refine lv_aload_n hx hb dX8_gains_54 rfl (lv_at hl 0 rfl) ?_
        refine g_getR (a := aM) (k := 0) (o := 1) C hK hM fl_X8_7 rfl rfl dX8_gains_55 ?_
        refine lv_bipush (v := 8) hx hb dX8_gains_58 (by decide) ?_
        refine lv_iconst (v := 5) hx hb dX8_gains_60 (by decide) ?_
        refine lv_iload_n hx hb dX8_gains_61 rfl (lv_at hl 1 rfl) ?_
        refine lv_imul hx hb dX8_gains_62 ?_
        refine lv_iadd hx hb dX8_gains_63 ?_
        refine lv_iload_n hx hb dX8_gains_64 rfl (lv_at hl 3 rfl) ?_
        refine lv_iadd hx hb dX8_gains_65 ?_
        refine lv_iload hx hb dX8_gains_66 (lv_at hl 4 rfl) ?_
        refine lv_bipush (v := 99) hx hb dX8_gains_68 (by decide) ?_
        refine lv_icmp_le (tgt := 78) hx hb dX8_gains_70 (by decide) (fun c8 => ?_) (fun c8 => ?_)
        · replace h := h.1 c8
          refine lv_iload hx hb dX8_gains_78 (lv_at hl 4 rfl) ?_
          obtain ⟨b9, h⟩ := h
          refine g_ast (a := aM) (k := 1) (n := 164) C hK hM hS rfl b9 (RA_in (by decide)) dX8_gains_80 (fun ρ10 H locs eρ10 hM hS hq => ?_)
          specialize h ρ10 eρ10
          obtain ⟨v11, ev11⟩ : ∃ y : Int32, y = w3 + 1 := ⟨_, rfl⟩
          specialize h v11 ev11
          refine lv_iinc (v := v11) (lv' := [(3, .int v11), (0, .ref (aM + 0)), (1, .int w1), (2, .int w2), (4, .int w4)]) hx hb dX8_gains_81 hl (k := 3) rfl (by rw [ev11]; rfl) (by decide) rfl (fun ls hl => ?_)
          refine lv_goto (tgt := 2) hx hb dX8_gains_84 (by decide) ?_
          exact (ih.1) ρ10 w1 w2 v11 _ _ _ hM hS (lv_sub hl [1, 2, 3, 0] rfl) h
        · replace h := h.2 c8
          refine lv_bipush (v := 99) hx hb dX8_gains_73 (by decide) ?_
          refine lv_goto (tgt := 80) hx hb dX8_gains_75 (by decide) ?_
          obtain ⟨b12, h⟩ := h
          refine g_ast (a := aM) (k := 1) (n := 164) C hK hM hS rfl b12 (RA_in (by decide)) dX8_gains_80 (fun ρ13 H locs eρ13 hM hS hq => ?_)
          specialize h ρ13 eρ13
          obtain ⟨v14, ev14⟩ : ∃ y : Int32, y = w3 + 1 := ⟨_, rfl⟩
          specialize h v14 ev14
          refine lv_iinc (v := v14) (lv' := [(3, .int v14), (0, .ref (aM + 0)), (1, .int w1), (2, .int w2), (4, .int w4)]) hx hb dX8_gains_81 hl (k := 3) rfl (by rw [ev14]; rfl) (by decide) rfl (fun ls hl => ?_)
          refine lv_goto (tgt := 2) hx hb dX8_gains_84 (by decide) ?_
          exact (ih.1) ρ13 w1 w2 v14 _ _ _ hM hS (lv_sub hl [1, 2, 3, 0] rfl) h
  unfold vc_X8_gains at h
  obtain ⟨n, h⟩ := h
  refine lv_iconst (v := 0) hx hb dX8_gains_0 (by decide) ?_
  refine lv_istore_n (lv' := [(3, .int 0), (0, .ref (aM + 0)), (1, .int x1), (2, .int x2)]) hx hb dX8_gains_1 rfl hl (by decide) rfl (fun ls hl => ?_)
  exact ((K n).1) ρ x1 x2 0 _ _ _ hM hS (lv_sub hl [1, 2, 3, 0] rfl) h
theorem dX8_works_0 : decode cX8_works 0 = .ok (.iconst 0, 1) := by decide +kernel
theorem dX8_works_1 : decode cX8_works 1 = .ok (.istore_n 1, 1) := by decide +kernel
theorem dX8_works_2 : decode cX8_works 2 = .ok (.iload_n 1, 1) := by decide +kernel
theorem dX8_works_3 : decode cX8_works 3 = .ok (.aload_n 0, 1) := by decide +kernel
theorem dX8_works_4 : decode cX8_works 4 = .ok (.getfield 91, 3) := by decide +kernel
theorem dX8_works_7 : decode cX8_works 7 = .ok (.if_icmp .ge 177, 3) := by decide +kernel
theorem dX8_works_10 : decode cX8_works 10 = .ok (.aload_n 0, 1) := by decide +kernel
theorem dX8_works_11 : decode cX8_works 11 = .ok (.getfield 25, 3) := by decide +kernel
theorem dX8_works_14 : decode cX8_works 14 = .ok (.iload_n 1, 1) := by decide +kernel
theorem dX8_works_15 : decode cX8_works 15 = .ok (.iaload, 1) := by decide +kernel
theorem dX8_works_16 : decode cX8_works 16 = .ok (.istore_n 2, 1) := by decide +kernel
theorem dX8_works_17 : decode cX8_works 17 = .ok (.aload_n 0, 1) := by decide +kernel
theorem dX8_works_18 : decode cX8_works 18 = .ok (.iload_n 2, 1) := by decide +kernel
theorem dX8_works_19 : decode cX8_works 19 = .ok (.iconst 1, 1) := by decide +kernel
theorem dX8_works_20 : decode cX8_works 20 = .ok (.invokevirtual 60, 3) := by decide +kernel
theorem dX8_works_23 : decode cX8_works 23 = .ok (.istore_n 3, 1) := by decide +kernel
theorem dX8_works_24 : decode cX8_works 24 = .ok (.aload_n 0, 1) := by decide +kernel
theorem dX8_works_25 : decode cX8_works 25 = .ok (.getfield 7, 3) := by decide +kernel
theorem dX8_works_28 : decode cX8_works 28 = .ok (.bipush 28, 2) := by decide +kernel
theorem dX8_works_30 : decode cX8_works 30 = .ok (.bipush 7, 2) := by decide +kernel
theorem dX8_works_32 : decode cX8_works 32 = .ok (.iload_n 2, 1) := by decide +kernel
theorem dX8_works_33 : decode cX8_works 33 = .ok (.imul, 1) := by decide +kernel
theorem dX8_works_34 : decode cX8_works 34 = .ok (.iadd, 1) := by decide +kernel
theorem dX8_works_35 : decode cX8_works 35 = .ok (.iconst 3, 1) := by decide +kernel
theorem dX8_works_36 : decode cX8_works 36 = .ok (.iadd, 1) := by decide +kernel
theorem dX8_works_37 : decode cX8_works 37 = .ok (.dup2, 1) := by decide +kernel
theorem dX8_works_38 : decode cX8_works 38 = .ok (.iaload, 1) := by decide +kernel
theorem dX8_works_39 : decode cX8_works 39 = .ok (.iconst 1, 1) := by decide +kernel
theorem dX8_works_40 : decode cX8_works 40 = .ok (.iadd, 1) := by decide +kernel
theorem dX8_works_41 : decode cX8_works 41 = .ok (.iastore, 1) := by decide +kernel
theorem dX8_works_42 : decode cX8_works 42 = .ok (.aload_n 0, 1) := by decide +kernel
theorem dX8_works_43 : decode cX8_works 43 = .ok (.getfield 7, 3) := by decide +kernel
theorem dX8_works_46 : decode cX8_works 46 = .ok (.bipush 8, 2) := by decide +kernel
theorem dX8_works_48 : decode cX8_works 48 = .ok (.iconst 5, 1) := by decide +kernel
theorem dX8_works_49 : decode cX8_works 49 = .ok (.iload_n 2, 1) := by decide +kernel
theorem dX8_works_50 : decode cX8_works 50 = .ok (.iconst 3, 1) := by decide +kernel
theorem dX8_works_51 : decode cX8_works 51 = .ok (.idiv, 1) := by decide +kernel
theorem dX8_works_52 : decode cX8_works 52 = .ok (.imul, 1) := by decide +kernel
theorem dX8_works_53 : decode cX8_works 53 = .ok (.iadd, 1) := by decide +kernel
theorem dX8_works_54 : decode cX8_works 54 = .ok (.iconst 4, 1) := by decide +kernel
theorem dX8_works_55 : decode cX8_works 55 = .ok (.iadd, 1) := by decide +kernel
theorem dX8_works_56 : decode cX8_works 56 = .ok (.dup2, 1) := by decide +kernel
theorem dX8_works_57 : decode cX8_works 57 = .ok (.iaload, 1) := by decide +kernel
theorem dX8_works_58 : decode cX8_works 58 = .ok (.iconst 1, 1) := by decide +kernel
theorem dX8_works_59 : decode cX8_works 59 = .ok (.iadd, 1) := by decide +kernel
theorem dX8_works_60 : decode cX8_works 60 = .ok (.iastore, 1) := by decide +kernel
theorem dX8_works_61 : decode cX8_works 61 = .ok (.aload_n 0, 1) := by decide +kernel
theorem dX8_works_62 : decode cX8_works 62 = .ok (.getfield 7, 3) := by decide +kernel
theorem dX8_works_65 : decode cX8_works 65 = .ok (.bipush 112, 2) := by decide +kernel
theorem dX8_works_67 : decode cX8_works 67 = .ok (.iconst 5, 1) := by decide +kernel
theorem dX8_works_68 : decode cX8_works 68 = .ok (.iload_n 3, 1) := by decide +kernel
theorem dX8_works_69 : decode cX8_works 69 = .ok (.imul, 1) := by decide +kernel
theorem dX8_works_70 : decode cX8_works 70 = .ok (.iadd, 1) := by decide +kernel
theorem dX8_works_71 : decode cX8_works 71 = .ok (.iconst 4, 1) := by decide +kernel
theorem dX8_works_72 : decode cX8_works 72 = .ok (.iadd, 1) := by decide +kernel
theorem dX8_works_73 : decode cX8_works 73 = .ok (.dup2, 1) := by decide +kernel
theorem dX8_works_74 : decode cX8_works 74 = .ok (.iaload, 1) := by decide +kernel
theorem dX8_works_75 : decode cX8_works 75 = .ok (.iconst 1, 1) := by decide +kernel
theorem dX8_works_76 : decode cX8_works 76 = .ok (.iadd, 1) := by decide +kernel
theorem dX8_works_77 : decode cX8_works 77 = .ok (.iastore, 1) := by decide +kernel
theorem dX8_works_78 : decode cX8_works 78 = .ok (.aload_n 0, 1) := by decide +kernel
theorem dX8_works_79 : decode cX8_works 79 = .ok (.getfield 7, 3) := by decide +kernel
theorem dX8_works_82 : decode cX8_works 82 = .ok (.iconst 4, 1) := by decide +kernel
theorem dX8_works_83 : decode cX8_works 83 = .ok (.dup2, 1) := by decide +kernel
theorem dX8_works_84 : decode cX8_works 84 = .ok (.iaload, 1) := by decide +kernel
theorem dX8_works_85 : decode cX8_works 85 = .ok (.iconst 1, 1) := by decide +kernel
theorem dX8_works_86 : decode cX8_works 86 = .ok (.iadd, 1) := by decide +kernel
theorem dX8_works_87 : decode cX8_works 87 = .ok (.iastore, 1) := by decide +kernel
theorem dX8_works_88 : decode cX8_works 88 = .ok (.aload_n 0, 1) := by decide +kernel
theorem dX8_works_89 : decode cX8_works 89 = .ok (.iload_n 2, 1) := by decide +kernel
theorem dX8_works_90 : decode cX8_works 90 = .ok (.iconst 3, 1) := by decide +kernel
theorem dX8_works_91 : decode cX8_works 91 = .ok (.idiv, 1) := by decide +kernel
theorem dX8_works_92 : decode cX8_works 92 = .ok (.aload_n 0, 1) := by decide +kernel
theorem dX8_works_93 : decode cX8_works 93 = .ok (.iload_n 3, 1) := by decide +kernel
theorem dX8_works_94 : decode cX8_works 94 = .ok (.iconst 2, 1) := by decide +kernel
theorem dX8_works_95 : decode cX8_works 95 = .ok (.invokevirtual 64, 3) := by decide +kernel
theorem dX8_works_98 : decode cX8_works 98 = .ok (.invokevirtual 94, 3) := by decide +kernel
theorem dX8_works_101 : decode cX8_works 101 = .ok (.aload_n 0, 1) := by decide +kernel
theorem dX8_works_102 : decode cX8_works 102 = .ok (.getfield 7, 3) := by decide +kernel
theorem dX8_works_105 : decode cX8_works 105 = .ok (.bipush 8, 2) := by decide +kernel
theorem dX8_works_107 : decode cX8_works 107 = .ok (.iconst 5, 1) := by decide +kernel
theorem dX8_works_108 : decode cX8_works 108 = .ok (.iload_n 2, 1) := by decide +kernel
theorem dX8_works_109 : decode cX8_works 109 = .ok (.iconst 3, 1) := by decide +kernel
theorem dX8_works_110 : decode cX8_works 110 = .ok (.idiv, 1) := by decide +kernel
theorem dX8_works_111 : decode cX8_works 111 = .ok (.imul, 1) := by decide +kernel
theorem dX8_works_112 : decode cX8_works 112 = .ok (.iadd, 1) := by decide +kernel
theorem dX8_works_113 : decode cX8_works 113 = .ok (.iconst 3, 1) := by decide +kernel
theorem dX8_works_114 : decode cX8_works 114 = .ok (.iadd, 1) := by decide +kernel
theorem dX8_works_115 : decode cX8_works 115 = .ok (.dup2, 1) := by decide +kernel
theorem dX8_works_116 : decode cX8_works 116 = .ok (.iaload, 1) := by decide +kernel
theorem dX8_works_117 : decode cX8_works 117 = .ok (.aload_n 0, 1) := by decide +kernel
theorem dX8_works_118 : decode cX8_works 118 = .ok (.iload_n 3, 1) := by decide +kernel
theorem dX8_works_119 : decode cX8_works 119 = .ok (.iconst 3, 1) := by decide +kernel
theorem dX8_works_120 : decode cX8_works 120 = .ok (.invokevirtual 64, 3) := by decide +kernel
theorem dX8_works_123 : decode cX8_works 123 = .ok (.iconst 2, 1) := by decide +kernel
theorem dX8_works_124 : decode cX8_works 124 = .ok (.if_icmp .ne 7, 3) := by decide +kernel
theorem dX8_works_127 : decode cX8_works 127 = .ok (.iconst 1, 1) := by decide +kernel
theorem dX8_works_128 : decode cX8_works 128 = .ok (.goto 4, 3) := by decide +kernel
theorem dX8_works_131 : decode cX8_works 131 = .ok (.iconst 0, 1) := by decide +kernel
theorem dX8_works_132 : decode cX8_works 132 = .ok (.iadd, 1) := by decide +kernel
theorem dX8_works_133 : decode cX8_works 133 = .ok (.iastore, 1) := by decide +kernel
theorem dX8_works_134 : decode cX8_works 134 = .ok (.iconst 0, 1) := by decide +kernel
theorem dX8_works_135 : decode cX8_works 135 = .ok (.istore 4, 2) := by decide +kernel
theorem dX8_works_137 : decode cX8_works 137 = .ok (.iload 4, 2) := by decide +kernel
theorem dX8_works_139 : decode cX8_works 139 = .ok (.aload_n 0, 1) := by decide +kernel
theorem dX8_works_140 : decode cX8_works 140 = .ok (.invokevirtual 67, 3) := by decide +kernel
theorem dX8_works_143 : decode cX8_works 143 = .ok (.if_icmp .ge 35, 3) := by decide +kernel
theorem dX8_works_146 : decode cX8_works 146 = .ok (.aload_n 0, 1) := by decide +kernel
theorem dX8_works_147 : decode cX8_works 147 = .ok (.iload_n 3, 1) := by decide +kernel
theorem dX8_works_148 : decode cX8_works 148 = .ok (.iconst 3, 1) := by decide +kernel
theorem dX8_works_149 : decode cX8_works 149 = .ok (.invokevirtual 64, 3) := by decide +kernel
theorem dX8_works_152 : decode cX8_works 152 = .ok (.iconst 1, 1) := by decide +kernel
theorem dX8_works_153 : decode cX8_works 153 = .ok (.if_icmp .ne 25, 3) := by decide +kernel
theorem dX8_works_156 : decode cX8_works 156 = .ok (.aload_n 0, 1) := by decide +kernel
theorem dX8_works_157 : decode cX8_works 157 = .ok (.iload 4, 2) := by decide +kernel
theorem dX8_works_159 : decode cX8_works 159 = .ok (.iconst 2, 1) := by decide +kernel
theorem dX8_works_160 : decode cX8_works 160 = .ok (.invokevirtual 60, 3) := by decide +kernel
theorem dX8_works_163 : decode cX8_works 163 = .ok (.ifCond .le 9, 3) := by decide +kernel
theorem dX8_works_166 : decode cX8_works 166 = .ok (.aload_n 0, 1) := by decide +kernel
theorem dX8_works_167 : decode cX8_works 167 = .ok (.iload 4, 2) := by decide +kernel
theorem dX8_works_169 : decode cX8_works 169 = .ok (.invokevirtual 97, 3) := by decide +kernel
theorem dX8_works_172 : decode cX8_works 172 = .ok (.iinc 4 1, 3) := by decide +kernel
theorem dX8_works_175 : decode cX8_works 175 = .ok (.goto (-38), 3) := by decide +kernel
theorem dX8_works_178 : decode cX8_works 178 = .ok (.iinc 1 1, 3) := by decide +kernel
theorem dX8_works_181 : decode cX8_works 181 = .ok (.goto (-179), 3) := by decide +kernel
theorem dX8_works_184 : decode cX8_works 184 = .ok (.return_, 1) := by decide +kernel
def vb_X8_works_2 (Q : Mem → Prop) (rec : Nat → Mem → Int32 → Int32 → Int32 → Prop) (ρ : Mem) (w1 : Int32) : Prop :=
  (((ρ 0 9) ≤ w1) → (Q ρ)) ∧ ((¬ (ρ 0 9) ≤ w1) → (vp_in w1 12 ∧ (∀ v3 : Int32, v3 = (ρ 6 w1.toNatClampNeg) → (vc_X8_of (fun r4 => vp_in ((28 + (7 * v3)) + 3) 164 ∧ ((∀ ρ6 : Mem, ρ6 = up ρ 1 ((28 + (7 * v3)) + 3).toNatClampNeg ((ρ 1 ((28 + (7 * v3)) + 3).toNatClampNeg) + 1) → (vp_in ((8 + (5 * (v3 / 3))) + 4) 164 ∧ ((∀ ρ8 : Mem, ρ8 = up ρ6 1 ((8 + (5 * (v3 / 3))) + 4).toNatClampNeg ((ρ6 1 ((8 + (5 * (v3 / 3))) + 4).toNatClampNeg) + 1) → (vp_in ((112 + (5 * r4)) + 4) 164 ∧ ((∀ ρ10 : Mem, ρ10 = up ρ8 1 ((112 + (5 * r4)) + 4).toNatClampNeg ((ρ8 1 ((112 + (5 * r4)) + 4).toNatClampNeg) + 1) → (((∀ ρ11 : Mem, ρ11 = up ρ10 1 (4 : Int32).toNatClampNeg ((ρ10 1 (4 : Int32).toNatClampNeg) + 1) → (vc_X8_ofTask (fun r12 => vc_X8_gains (fun ρ14 => vp_in ((8 + (5 * (v3 / 3))) + 3) 164 ∧ (vc_X8_ofTask (fun r16 => ((¬ r16 = 2) → ((∀ ρ18 : Mem, ρ18 = up ρ14 1 ((8 + (5 * (v3 / 3))) + 3).toNatClampNeg ((ρ14 1 ((8 + (5 * (v3 / 3))) + 3).toNatClampNeg) + 0) → (rec 1 ρ18 w1 r4 0)))) ∧ ((r16 = 2) → ((∀ ρ19 : Mem, ρ19 = up ρ14 1 ((8 + (5 * (v3 / 3))) + 3).toNatClampNeg ((ρ14 1 ((8 + (5 * (v3 / 3))) + 3).toNatClampNeg) + 1) → (rec 1 ρ19 w1 r4 0))))) ρ14 r4 3)) ρ11 (v3 / 3) r12) ρ11 r4 2))))))))))))) ρ v3 1))))
def vb_X8_works_137 (Q : Mem → Prop) (rec : Nat → Mem → Int32 → Int32 → Int32 → Prop) (ρ : Mem) (w1 : Int32) (w3 : Int32) (w4 : Int32) : Prop :=
  vc_X8_workers (fun r20 => ((r20 ≤ w4) → (∀ v22 : Int32, v22 = w1 + 1 → (rec 0 ρ v22 0 0))) ∧ ((¬ r20 ≤ w4) → (vc_X8_ofTask (fun r23 => ((¬ r23 = 1) → (∀ v25 : Int32, v25 = w1 + 1 → (rec 0 ρ v25 0 0))) ∧ ((r23 = 1) → (vc_X8_of (fun r26 => ((r26 ≤ 0) → (∀ v28 : Int32, v28 = w4 + 1 → (rec 1 ρ w1 w3 v28))) ∧ ((¬ r26 ≤ 0) → (vc_X8_flips (fun ρ30 => ∀ v31 : Int32, v31 = w4 + 1 → (rec 1 ρ30 w1 w3 v31)) ρ w4))) ρ w4 2))) ρ w3 3))) ρ
def vl_X8_works (Q : Mem → Prop) : Nat → Nat → Mem → Int32 → Int32 → Int32 → Prop
  | 0, _, _, _, _, _ => False
  | n + 1, 0, ρ, w1, _, _ => vb_X8_works_2 Q (vl_X8_works Q n) ρ w1
  | n + 1, 1, ρ, w1, w3, w4 => vb_X8_works_137 Q (vl_X8_works Q n) ρ w1 w3 w4
  | _ + 1, _, _, _, _, _ => False
def vc_X8_works (Q : Mem → Prop) (ρ : Mem) : Prop :=
  ∃ n : Nat, vl_X8_works Q n 0 ρ 0 0 0
set_option maxHeartbeats 8000000 in
set_option maxRecDepth 100000 in
theorem m_X8_works (l : Launch) (G : GG) (aM : Nat) (ρ : Mem) (Q : Mem → Prop) (h : vc_X8_works Q ρ) : CtV l yX8_works cX8_works 5 { frames := 2, cells := 0, slots := 0, locals := 45 } [.ref (aM + 0)] G (fun H => rg G LM aM ρ H) (Q) (fun u H => rg G LM aM u H) (RA aM 8) := by
  unfold CtV
  refine met_start (y := yX8_works) (maxL := 5) (av := [.ref (aM + 0)]) (G := G) (P := fun H => rg G LM aM ρ H) (by decide) rfl (Nat.le_of_ble_eq_true rfl) (fun p e s m below meth c ls C hr hP hK hl => ?_)
  obtain ⟨hx, hb, hml, hown, hts, hlocks⟩ := id C
  have hM : rg G LM aM ρ s.heap := hP
  have hS : va_S (RA aM 8) s.heap s.heap [] := va_S.rf
  have hl : lv_has ls 5 [(0, .ref (aM + 0))] := hl
  have K : ∀ n : Nat, (∀ (ρ : Mem) (w1 : Int32) (H : Heap) (locs : List Loc) (ls : Array Slot), rg G LM aM ρ H → va_S (RA aM 8) s.heap H locs → lv_has ls 5 [(0, .ref (aM + 0)), (1, .int w1)] → vl_X8_works Q n 0 ρ w1 0 0 → W p l e { frames := 2, cells := 0, slots := 0, locals := 45 } s m [.ref (aM + 0)].toArray below meth c H locs 0 0 (MQ below (va_Qv (Q) (fun u t => (fun u H => rg G LM aM u H) u t.heap ∧ KK G t) (RA aM 8)) [.ref (aM + 0)].toArray s 0 0 (RA aM 8)) (F0 m 2 ls [])) ∧ (∀ (ρ : Mem) (w1 : Int32) (w3 : Int32) (w4 : Int32) (H : Heap) (locs : List Loc) (ls : Array Slot), rg G LM aM ρ H → va_S (RA aM 8) s.heap H locs → lv_has ls 5 [(0, .ref (aM + 0)), (1, .int w1), (3, .int w3), (4, .int w4)] → vl_X8_works Q n 1 ρ w1 w3 w4 → W p l e { frames := 2, cells := 0, slots := 0, locals := 45 } s m [.ref (aM + 0)].toArray below meth c H locs 0 0 (MQ below (va_Qv (Q) (fun u t => (fun u H => rg G LM aM u H) u t.heap ∧ KK G t) (RA aM 8)) [.ref (aM + 0)].toArray s 0 0 (RA aM 8)) (F0 m 137 ls [])) := by
    intro n
    induction n with
    | zero => exact ⟨fun _ _ _ _ _ _ _ _ h => h.elim, fun _ _ _ _ _ _ _ _ _ _ h => h.elim⟩
    | succ n ih =>
      refine ⟨?_, ?_⟩
      · intro ρ w1 H locs ls hM hS hl h
        replace h : vb_X8_works_2 Q (vl_X8_works Q n) ρ w1 := h
        unfold vb_X8_works_2 at h
        refine lv_iload_n hx hb dX8_works_2 rfl (lv_at hl 1 rfl) ?_
        refine lv_aload_n hx hb dX8_works_3 rfl (lv_at hl 0 rfl) ?_
        refine g_getI (a := aM) (k := 0) C hK hM fl_X8_91 rfl rfl dX8_works_4 ?_
        refine lv_icmp_ge (tgt := 184) hx hb dX8_works_7 (by decide) (fun c1 => ?_) (fun c1 => ?_)
        · replace h := h.1 c1
          exact g_vret (post := Q) (P' := fun u H => rg G LM aM u H) (u := ρ) C hr hK hS h hM dX8_works_184
        · replace h := h.2 c1
          refine lv_aload_n hx hb dX8_works_10 rfl (lv_at hl 0 rfl) ?_
          refine g_getR (a := aM) (k := 0) (o := 6) C hK hM fl_X8_25 rfl rfl dX8_works_11 ?_
          refine lv_iload_n hx hb dX8_works_14 rfl (lv_at hl 1 rfl) ?_
          obtain ⟨b2, h⟩ := h
          refine g_ald (a := aM) (k := 6) (n := 12) C hK hM rfl b2 dX8_works_15 ?_
          refine lv_topi (fun v3 ev3 => ?_)
          specialize h v3 ev3
          refine lv_istore_n (lv' := [(2, .int v3), (0, .ref (aM + 0)), (1, .int w1)]) hx hb dX8_works_16 rfl hl (by decide) rfl (fun ls hl => ?_)
          refine lv_aload_n hx hb dX8_works_17 rfl (lv_at hl 1 rfl) ?_
          refine lv_iload_n hx hb dX8_works_18 rfl (lv_at hl 0 rfl) ?_
          refine lv_iconst (v := 1) hx hb dX8_works_19 (by decide) ?_
          refine g_vI C hK hl.1 (m_X8_of l G aM ρ v3 1 _ h) mw_X8_of mi_X8_of ml_X8_60 rfl ⟨rfl, rfl, Nat.le_of_ble_eq_true rfl, Nat.le_of_ble_eq_true rfl⟩ ⟨Nat.zero_le _, Nat.zero_le _⟩ (g_recv (a := aM) (k := 0) hK hM rfl rfl) hM hS (fun _ h => h.elim) rfl (Nat.le_of_ble_eq_true rfl) dX8_works_20 (fun r4 u H locs h hu _ hq hS => ?_)
          have hM := hM.past hq (fun _ _ h => h)
          refine lv_istore_n (lv' := [(3, .int r4), (2, .int v3), (0, .ref (aM + 0)), (1, .int w1)]) hx hb dX8_works_23 rfl hl (by decide) rfl (fun ls hl => ?_)
          refine lv_aload_n hx hb dX8_works_24 rfl (lv_at hl 2 rfl) ?_
          refine g_getR (a := aM) (k := 0) (o := 1) C hK hM fl_X8_7 rfl rfl dX8_works_25 ?_
          refine lv_bipush (v := 28) hx hb dX8_works_28 (by decide) ?_
          refine lv_bipush (v := 7) hx hb dX8_works_30 (by decide) ?_
          refine lv_iload_n hx hb dX8_works_32 rfl (lv_at hl 1 rfl) ?_
          refine lv_imul hx hb dX8_works_33 ?_
          refine lv_iadd hx hb dX8_works_34 ?_
          refine lv_iconst (v := 3) hx hb dX8_works_35 (by decide) ?_
          refine lv_iadd hx hb dX8_works_36 ?_
          refine lv_dup2_11 hx hb dX8_works_37 rfl rfl ?_
          obtain ⟨b5, h⟩ := h
          refine g_ald (a := aM) (k := 1) (n := 164) C hK hM rfl b5 dX8_works_38 ?_
          refine lv_iconst (v := 1) hx hb dX8_works_39 (by decide) ?_
          refine lv_iadd hx hb dX8_works_40 ?_
          refine g_ast (a := aM) (k := 1) (n := 164) C hK hM hS rfl b5 (RA_in (by decide)) dX8_works_41 (fun ρ6 H locs eρ6 hM hS hq => ?_)
          specialize h ρ6 eρ6
          refine lv_aload_n hx hb dX8_works_42 rfl (lv_at hl 2 rfl) ?_
          refine g_getR (a := aM) (k := 0) (o := 1) C hK hM fl_X8_7 rfl rfl dX8_works_43 ?_
          refine lv_bipush (v := 8) hx hb dX8_works_46 (by decide) ?_
          refine lv_iconst (v := 5) hx hb dX8_works_48 (by decide) ?_
          refine lv_iload_n hx hb dX8_works_49 rfl (lv_at hl 1 rfl) ?_
          refine lv_iconst (v := 3) hx hb dX8_works_50 (by decide) ?_
          refine lv_idiv hx hb dX8_works_51 (by decide) ?_
          refine lv_imul hx hb dX8_works_52 ?_
          refine lv_iadd hx hb dX8_works_53 ?_
          refine lv_iconst (v := 4) hx hb dX8_works_54 (by decide) ?_
          refine lv_iadd hx hb dX8_works_55 ?_
          refine lv_dup2_11 hx hb dX8_works_56 rfl rfl ?_
          obtain ⟨b7, h⟩ := h
          refine g_ald (a := aM) (k := 1) (n := 164) C hK hM rfl b7 dX8_works_57 ?_
          refine lv_iconst (v := 1) hx hb dX8_works_58 (by decide) ?_
          refine lv_iadd hx hb dX8_works_59 ?_
          refine g_ast (a := aM) (k := 1) (n := 164) C hK hM hS rfl b7 (RA_in (by decide)) dX8_works_60 (fun ρ8 H locs eρ8 hM hS hq => ?_)
          specialize h ρ8 eρ8
          refine lv_aload_n hx hb dX8_works_61 rfl (lv_at hl 2 rfl) ?_
          refine g_getR (a := aM) (k := 0) (o := 1) C hK hM fl_X8_7 rfl rfl dX8_works_62 ?_
          refine lv_bipush (v := 112) hx hb dX8_works_65 (by decide) ?_
          refine lv_iconst (v := 5) hx hb dX8_works_67 (by decide) ?_
          refine lv_iload_n hx hb dX8_works_68 rfl (lv_at hl 0 rfl) ?_
          refine lv_imul hx hb dX8_works_69 ?_
          refine lv_iadd hx hb dX8_works_70 ?_
          refine lv_iconst (v := 4) hx hb dX8_works_71 (by decide) ?_
          refine lv_iadd hx hb dX8_works_72 ?_
          refine lv_dup2_11 hx hb dX8_works_73 rfl rfl ?_
          obtain ⟨b9, h⟩ := h
          refine g_ald (a := aM) (k := 1) (n := 164) C hK hM rfl b9 dX8_works_74 ?_
          refine lv_iconst (v := 1) hx hb dX8_works_75 (by decide) ?_
          refine lv_iadd hx hb dX8_works_76 ?_
          refine g_ast (a := aM) (k := 1) (n := 164) C hK hM hS rfl b9 (RA_in (by decide)) dX8_works_77 (fun ρ10 H locs eρ10 hM hS hq => ?_)
          specialize h ρ10 eρ10
          refine lv_aload_n hx hb dX8_works_78 rfl (lv_at hl 2 rfl) ?_
          refine g_getR (a := aM) (k := 0) (o := 1) C hK hM fl_X8_7 rfl rfl dX8_works_79 ?_
          refine lv_iconst (v := 4) hx hb dX8_works_82 (by decide) ?_
          refine lv_dup2_11 hx hb dX8_works_83 rfl rfl ?_
          refine g_ald (a := aM) (k := 1) (n := 164) C hK hM rfl (vp_dec (by decide)) dX8_works_84 ?_
          refine lv_iconst (v := 1) hx hb dX8_works_85 (by decide) ?_
          refine lv_iadd hx hb dX8_works_86 ?_
          refine g_ast (a := aM) (k := 1) (n := 164) C hK hM hS rfl (vp_dec (by decide)) (RA_in (by decide)) dX8_works_87 (fun ρ11 H locs eρ11 hM hS hq => ?_)
          specialize h ρ11 eρ11
          refine lv_aload_n hx hb dX8_works_88 rfl (lv_at hl 2 rfl) ?_
          refine lv_iload_n hx hb dX8_works_89 rfl (lv_at hl 1 rfl) ?_
          refine lv_iconst (v := 3) hx hb dX8_works_90 (by decide) ?_
          refine lv_idiv hx hb dX8_works_91 (by decide) ?_
          refine lv_aload_n hx hb dX8_works_92 rfl (lv_at hl 2 rfl) ?_
          refine lv_iload_n hx hb dX8_works_93 rfl (lv_at hl 0 rfl) ?_
          refine lv_iconst (v := 2) hx hb dX8_works_94 (by decide) ?_
          refine g_vI C hK hl.1 (m_X8_ofTask l G aM ρ11 r4 2 _ h) mw_X8_ofTask mi_X8_ofTask ml_X8_64 rfl ⟨rfl, rfl, Nat.le_of_ble_eq_true rfl, Nat.le_of_ble_eq_true rfl⟩ ⟨Nat.zero_le _, Nat.zero_le _⟩ (g_recv (a := aM) (k := 0) hK hM rfl rfl) hM hS (fun _ h => h.elim) rfl (Nat.le_of_ble_eq_true rfl) dX8_works_95 (fun r12 u H locs h hu _ hq hS => ?_)
          have hM := hM.past hq (fun _ _ h => h)
          refine g_vV C hK hl.1 (m_X8_gains l G aM ρ11 (v3 / 3) r12 _ h) mw_X8_gains mi_X8_gains ml_X8_94 rfl ⟨rfl, rfl, Nat.le_of_ble_eq_true rfl, Nat.le_of_ble_eq_true rfl⟩ ⟨Nat.zero_le _, Nat.zero_le _⟩ (g_recv (a := aM) (k := 0) hK hM rfl rfl) hM hS (fun _ h => h) rfl (Nat.le_of_ble_eq_true rfl) dX8_works_98 (fun u H locs h hu _ hq hS => ?_)
          obtain ⟨ρ14, rfl⟩ : ∃ z, z = u := ⟨_, rfl⟩
          have hM := hu
          refine lv_aload_n hx hb dX8_works_101 rfl (lv_at hl 2 rfl) ?_
          refine g_getR (a := aM) (k := 0) (o := 1) C hK hM fl_X8_7 rfl rfl dX8_works_102 ?_
          refine lv_bipush (v := 8) hx hb dX8_works_105 (by decide) ?_
          refine lv_iconst (v := 5) hx hb dX8_works_107 (by decide) ?_
          refine lv_iload_n hx hb dX8_works_108 rfl (lv_at hl 1 rfl) ?_
          refine lv_iconst (v := 3) hx hb dX8_works_109 (by decide) ?_
          refine lv_idiv hx hb dX8_works_110 (by decide) ?_
          refine lv_imul hx hb dX8_works_111 ?_
          refine lv_iadd hx hb dX8_works_112 ?_
          refine lv_iconst (v := 3) hx hb dX8_works_113 (by decide) ?_
          refine lv_iadd hx hb dX8_works_114 ?_
          refine lv_dup2_11 hx hb dX8_works_115 rfl rfl ?_
          obtain ⟨b15, h⟩ := h
          refine g_ald (a := aM) (k := 1) (n := 164) C hK hM rfl b15 dX8_works_116 ?_
          refine lv_aload_n hx hb dX8_works_117 rfl (lv_at hl 2 rfl) ?_
          refine lv_iload_n hx hb dX8_works_118 rfl (lv_at hl 0 rfl) ?_
          refine lv_iconst (v := 3) hx hb dX8_works_119 (by decide) ?_
          refine g_vI C hK hl.1 (m_X8_ofTask l G aM ρ14 r4 3 _ h) mw_X8_ofTask mi_X8_ofTask ml_X8_64 rfl ⟨rfl, rfl, Nat.le_of_ble_eq_true rfl, Nat.le_of_ble_eq_true rfl⟩ ⟨Nat.zero_le _, Nat.zero_le _⟩ (g_recv (a := aM) (k := 0) hK hM rfl rfl) hM hS (fun _ h => h.elim) rfl (Nat.le_of_ble_eq_true rfl) dX8_works_120 (fun r16 u H locs h hu _ hq hS => ?_)
          have hM := hM.past hq (fun _ _ h => h)
          refine lv_iconst (v := 2) hx hb dX8_works_123 (by decide) ?_
          refine lv_icmp_ne (tgt := 131) hx hb dX8_works_124 (by decide) (fun c17 => ?_) (fun c17 => ?_)
          · replace h := h.1 c17
            refine lv_iconst (v := 0) hx hb dX8_works_131 (by decide) ?_
            refine lv_iadd hx hb dX8_works_132 ?_
            refine g_ast (a := aM) (k := 1) (n := 164) C hK hM hS rfl b15 (RA_in (by decide)) dX8_works_133 (fun ρ18 H locs eρ18 hM hS hq => ?_)
            specialize h ρ18 eρ18
            refine lv_iconst (v := 0) hx hb dX8_works_134 (by decide) ?_
            refine lv_istore (lv' := [(4, .int 0), (3, .int r4), (2, .int v3), (0, .ref (aM + 0)), (1, .int w1)]) hx hb dX8_works_135 hl (by decide) rfl (fun ls hl => ?_)
            exact (ih.2) ρ18 w1 r4 0 _ _ _ hM hS (lv_sub hl [3, 4, 1, 0] rfl) h
          · replace h := h.2 c17
            refine lv_iconst (v := 1) hx hb dX8_works_127 (by decide) ?_
            refine lv_goto (tgt := 132) hx hb dX8_works_128 (by decide) ?_
            refine lv_iadd hx hb dX8_works_132 ?_
            refine g_ast (a := aM) (k := 1) (n := 164) C hK hM hS rfl b15 (RA_in (by decide)) dX8_works_133 (fun ρ19 H locs eρ19 hM hS hq => ?_)
            specialize h ρ19 eρ19
            refine lv_iconst (v := 0) hx hb dX8_works_134 (by decide) ?_
            refine lv_istore (lv' := [(4, .int 0), (3, .int r4), (2, .int v3), (0, .ref (aM + 0)), (1, .int w1)]) hx hb dX8_works_135 hl (by decide) rfl (fun ls hl => ?_)
            exact (ih.2) ρ19 w1 r4 0 _ _ _ hM hS (lv_sub hl [3, 4, 1, 0] rfl) h
      · intro ρ w1 w3 w4 H locs ls hM hS hl h
        replace h : vb_X8_works_137 Q (vl_X8_works Q n) ρ w1 w3 w4 := h
        unfold vb_X8_works_137 at h
        refine lv_iload hx hb dX8_works_137 (lv_at hl 3 rfl) ?_
        refine lv_aload_n hx hb dX8_works_139 rfl (lv_at hl 0 rfl) ?_
        refine g_vI C hK hl.1 (m_X8_workers l G aM ρ _ h) mw_X8_workers mi_X8_workers ml_X8_67 rfl ⟨rfl, rfl, Nat.le_of_ble_eq_true rfl, Nat.le_of_ble_eq_true rfl⟩ ⟨Nat.zero_le _, Nat.zero_le _⟩ (g_recv (a := aM) (k := 0) hK hM rfl rfl) hM hS (fun _ h => h.elim) rfl (Nat.le_of_ble_eq_true rfl) dX8_works_140 (fun r20 u H locs h hu _ hq hS => ?_)
        have hM := hM.past hq (fun _ _ h => h)
        refine lv_icmp_ge (tgt := 178) hx hb dX8_works_143 (by decide) (fun c21 => ?_) (fun c21 => ?_)
        · replace h := h.1 c21
          obtain ⟨v22, ev22⟩ : ∃ y : Int32, y = w1 + 1 := ⟨_, rfl⟩
          specialize h v22 ev22
          refine lv_iinc (v := v22) (lv' := [(1, .int v22), (0, .ref (aM + 0)), (3, .int w3), (4, .int w4)]) hx hb dX8_works_178 hl (k := 1) rfl (by rw [ev22]; rfl) (by decide) rfl (fun ls hl => ?_)
          refine lv_goto (tgt := 2) hx hb dX8_works_181 (by decide) ?_
          exact (ih.1) ρ v22 _ _ _ hM hS (lv_sub hl [1, 0] rfl) h
        · replace h := h.2 c21
          refine lv_aload_n hx hb dX8_works_146 rfl (lv_at hl 0 rfl) ?_
          refine lv_iload_n hx hb dX8_works_147 rfl (lv_at hl 2 rfl) ?_
          refine lv_iconst (v := 3) hx hb dX8_works_148 (by decide) ?_
          refine g_vI C hK hl.1 (m_X8_ofTask l G aM ρ w3 3 _ h) mw_X8_ofTask mi_X8_ofTask ml_X8_64 rfl ⟨rfl, rfl, Nat.le_of_ble_eq_true rfl, Nat.le_of_ble_eq_true rfl⟩ ⟨Nat.zero_le _, Nat.zero_le _⟩ (g_recv (a := aM) (k := 0) hK hM rfl rfl) hM hS (fun _ h => h.elim) rfl (Nat.le_of_ble_eq_true rfl) dX8_works_149 (fun r23 u H locs h hu _ hq hS => ?_)
          have hM := hM.past hq (fun _ _ h => h)
          refine lv_iconst (v := 1) hx hb dX8_works_152 (by decide) ?_
          refine lv_icmp_ne (tgt := 178) hx hb dX8_works_153 (by decide) (fun c24 => ?_) (fun c24 => ?_)
          · replace h := h.1 c24
            obtain ⟨v25, ev25⟩ : ∃ y : Int32, y = w1 + 1 := ⟨_, rfl⟩
            specialize h v25 ev25
            refine lv_iinc (v := v25) (lv' := [(1, .int v25), (0, .ref (aM + 0)), (3, .int w3), (4, .int w4)]) hx hb dX8_works_178 hl (k := 1) rfl (by rw [ev25]; rfl) (by decide) rfl (fun ls hl => ?_)
            refine lv_goto (tgt := 2) hx hb dX8_works_181 (by decide) ?_
            exact (ih.1) ρ v25 _ _ _ hM hS (lv_sub hl [1, 0] rfl) h
          · replace h := h.2 c24
            refine lv_aload_n hx hb dX8_works_156 rfl (lv_at hl 0 rfl) ?_
            refine lv_iload hx hb dX8_works_157 (lv_at hl 3 rfl) ?_
            refine lv_iconst (v := 2) hx hb dX8_works_159 (by decide) ?_
            refine g_vI C hK hl.1 (m_X8_of l G aM ρ w4 2 _ h) mw_X8_of mi_X8_of ml_X8_60 rfl ⟨rfl, rfl, Nat.le_of_ble_eq_true rfl, Nat.le_of_ble_eq_true rfl⟩ ⟨Nat.zero_le _, Nat.zero_le _⟩ (g_recv (a := aM) (k := 0) hK hM rfl rfl) hM hS (fun _ h => h.elim) rfl (Nat.le_of_ble_eq_true rfl) dX8_works_160 (fun r26 u H locs h hu _ hq hS => ?_)
            have hM := hM.past hq (fun _ _ h => h)
            refine lv_if_le (tgt := 172) hx hb dX8_works_163 (by decide) (fun c27 => ?_) (fun c27 => ?_)
            · replace h := h.1 c27
              obtain ⟨v28, ev28⟩ : ∃ y : Int32, y = w4 + 1 := ⟨_, rfl⟩
              specialize h v28 ev28
              refine lv_iinc (v := v28) (lv' := [(4, .int v28), (0, .ref (aM + 0)), (1, .int w1), (3, .int w3)]) hx hb dX8_works_172 hl (k := 3) rfl (by rw [ev28]; rfl) (by decide) rfl (fun ls hl => ?_)
              refine lv_goto (tgt := 137) hx hb dX8_works_175 (by decide) ?_
              exact (ih.2) ρ w1 w3 v28 _ _ _ hM hS (lv_sub hl [1, 2, 3, 0] rfl) h
            · replace h := h.2 c27
              refine lv_aload_n hx hb dX8_works_166 rfl (lv_at hl 0 rfl) ?_
              refine lv_iload hx hb dX8_works_167 (lv_at hl 3 rfl) ?_
              refine g_vV C hK hl.1 (m_X8_flips l G aM ρ w4 _ h) mw_X8_flips mi_X8_flips ml_X8_97 rfl ⟨rfl, rfl, Nat.le_of_ble_eq_true rfl, Nat.le_of_ble_eq_true rfl⟩ ⟨Nat.zero_le _, Nat.zero_le _⟩ (g_recv (a := aM) (k := 0) hK hM rfl rfl) hM hS (fun _ h => h) rfl (Nat.le_of_ble_eq_true rfl) dX8_works_169 (fun u H locs h hu _ hq hS => ?_)
              obtain ⟨ρ30, rfl⟩ : ∃ z, z = u := ⟨_, rfl⟩
              have hM := hu
              obtain ⟨v31, ev31⟩ : ∃ y : Int32, y = w4 + 1 := ⟨_, rfl⟩
              specialize h v31 ev31
              refine lv_iinc (v := v31) (lv' := [(4, .int v31), (0, .ref (aM + 0)), (1, .int w1), (3, .int w3)]) hx hb dX8_works_172 hl (k := 3) rfl (by rw [ev31]; rfl) (by decide) rfl (fun ls hl => ?_)
              refine lv_goto (tgt := 137) hx hb dX8_works_175 (by decide) ?_
              exact (ih.2) ρ30 w1 w3 v31 _ _ _ hM hS (lv_sub hl [1, 2, 3, 0] rfl) h
  unfold vc_X8_works at h
  obtain ⟨n, h⟩ := h
  refine lv_iconst (v := 0) hx hb dX8_works_0 (by decide) ?_
  refine lv_istore_n (lv' := [(1, .int 0), (0, .ref (aM + 0))]) hx hb dX8_works_1 rfl hl (by decide) rfl (fun ls hl => ?_)
  exact ((K n).1) ρ 0 _ _ _ hM hS (lv_sub hl [1, 0] rfl) h
