theorem dX8_flip_0 : decode cX8_flip 0 = .ok (.aload_n 0, 1) := by decide +kernel
theorem dX8_flip_1 : decode cX8_flip 1 = .ok (.iload_n 1, 1) := by decide +kernel
theorem dX8_flip_2 : decode cX8_flip 2 = .ok (.iload_n 2, 1) := by decide +kernel
theorem dX8_flip_3 : decode cX8_flip 3 = .ok (.invokevirtual 55, 3) := by decide +kernel
theorem dX8_flip_6 : decode cX8_flip 6 = .ok (.ifCond .ne 6, 3) := by decide +kernel
theorem dX8_flip_9 : decode cX8_flip 9 = .ok (.ldc 59, 2) := by decide +kernel
theorem dX8_flip_11 : decode cX8_flip 11 = .ok (.ireturn, 1) := by decide +kernel
theorem dX8_flip_12 : decode cX8_flip 12 = .ok (.iconst 3, 1) := by decide +kernel
theorem dX8_flip_13 : decode cX8_flip 13 = .ok (.iload_n 1, 1) := by decide +kernel
theorem dX8_flip_14 : decode cX8_flip 14 = .ok (.imul, 1) := by decide +kernel
theorem dX8_flip_15 : decode cX8_flip 15 = .ok (.iload_n 2, 1) := by decide +kernel
theorem dX8_flip_16 : decode cX8_flip 16 = .ok (.iadd, 1) := by decide +kernel
theorem dX8_flip_17 : decode cX8_flip 17 = .ok (.istore_n 3, 1) := by decide +kernel
theorem dX8_flip_18 : decode cX8_flip 18 = .ok (.aload_n 0, 1) := by decide +kernel
theorem dX8_flip_19 : decode cX8_flip 19 = .ok (.iload_n 3, 1) := by decide +kernel
theorem dX8_flip_20 : decode cX8_flip 20 = .ok (.iconst 2, 1) := by decide +kernel
theorem dX8_flip_21 : decode cX8_flip 21 = .ok (.invokevirtual 60, 3) := by decide +kernel
theorem dX8_flip_24 : decode cX8_flip 24 = .ok (.ifCond .ne 6, 3) := by decide +kernel
theorem dX8_flip_27 : decode cX8_flip 27 = .ok (.ldc 63, 2) := by decide +kernel
theorem dX8_flip_29 : decode cX8_flip 29 = .ok (.ireturn, 1) := by decide +kernel
theorem dX8_flip_30 : decode cX8_flip 30 = .ok (.aload_n 0, 1) := by decide +kernel
theorem dX8_flip_31 : decode cX8_flip 31 = .ok (.invokevirtual 52, 3) := by decide +kernel
theorem dX8_flip_34 : decode cX8_flip 34 = .ok (.aload_n 0, 1) := by decide +kernel
theorem dX8_flip_35 : decode cX8_flip 35 = .ok (.iconst 0, 1) := by decide +kernel
theorem dX8_flip_36 : decode cX8_flip 36 = .ok (.putfield 91, 3) := by decide +kernel
theorem dX8_flip_39 : decode cX8_flip 39 = .ok (.aload_n 0, 1) := by decide +kernel
theorem dX8_flip_40 : decode cX8_flip 40 = .ok (.iload_n 3, 1) := by decide +kernel
theorem dX8_flip_41 : decode cX8_flip 41 = .ok (.invokevirtual 97, 3) := by decide +kernel
theorem dX8_flip_44 : decode cX8_flip 44 = .ok (.aload_n 0, 1) := by decide +kernel
theorem dX8_flip_45 : decode cX8_flip 45 = .ok (.iload_n 3, 1) := by decide +kernel
theorem dX8_flip_46 : decode cX8_flip 46 = .ok (.iconst 2, 1) := by decide +kernel
theorem dX8_flip_47 : decode cX8_flip 47 = .ok (.invokevirtual 60, 3) := by decide +kernel
theorem dX8_flip_50 : decode cX8_flip 50 = .ok (.istore 4, 2) := by decide +kernel
theorem dX8_flip_52 : decode cX8_flip 52 = .ok (.aload_n 0, 1) := by decide +kernel
theorem dX8_flip_53 : decode cX8_flip 53 = .ok (.invokevirtual 101, 3) := by decide +kernel
theorem dX8_flip_56 : decode cX8_flip 56 = .ok (.iload 4, 2) := by decide +kernel
theorem dX8_flip_58 : decode cX8_flip 58 = .ok (.ireturn, 1) := by decide +kernel
def vc_X8_flip (Q : Int32 → Mem → Prop) (ρ : Mem) (x1 : Int32) (x2 : Int32) : Prop :=
  vc_X8_isWorker (fun r1 => ((¬ r1 = 0) → (∀ v3 : Int32, v3 = ((3 * x1) + x2) → (vc_X8_of (fun r4 => ((¬ r4 = 0) → (vc_X8_changes (fun ρ7 => ∀ ρ8 : Mem, ρ8 = up ρ7 0 9 0 → (vc_X8_flips (fun ρ10 => vc_X8_of (fun r11 => vc_X8_works (fun ρ13 => Q r11 ρ13) ρ10) ρ10 v3 2) ρ8 v3)) ρ)) ∧ ((r4 = 0) → (Q (-1000002) ρ))) ρ v3 2))) ∧ ((r1 = 0) → (Q (-1000001) ρ))) ρ x1 x2
set_option maxHeartbeats 8000000 in
set_option maxRecDepth 100000 in
theorem m_X8_flip (l : Launch) (G : GG) (aM : Nat) (ρ : Mem) (x1 : Int32) (x2 : Int32) (Q : Int32 → Mem → Prop) (h : vc_X8_flip Q ρ x1 x2) : CtI l yX8_flip cX8_flip 5 (some .int) { frames := 3, cells := 0, slots := 0, locals := 69 } [.ref (aM + 0), .int x1, .int x2] G (fun H => rg G LM aM ρ H) (Q) (fun u H => rg G LM aM u H) (RA aM 8) := by
  unfold CtI
  refine met_start (y := yX8_flip) (maxL := 5) (av := [.ref (aM + 0), .int x1, .int x2]) (G := G) (P := fun H => rg G LM aM ρ H) (by decide) rfl (Nat.le_of_ble_eq_true rfl) (fun p e s m below meth c ls C hr hP hK hl => ?_)
  obtain ⟨hx, hb, hml, hown, hts, hlocks⟩ := id C
  have hM : rg G LM aM ρ s.heap := hP
  have hS : va_S (RA aM 8) s.heap s.heap [] := va_S.rf
  have hl : lv_has ls 5 [(0, .ref (aM + 0)), (1, .int x1), (2, .int x2)] := hl
  unfold vc_X8_flip at h
  refine lv_aload_n hx hb dX8_flip_0 rfl (lv_at hl 0 rfl) ?_
  refine lv_iload_n hx hb dX8_flip_1 rfl (lv_at hl 1 rfl) ?_
  refine lv_iload_n hx hb dX8_flip_2 rfl (lv_at hl 2 rfl) ?_
  refine g_vI C hK hl.1 (m_X8_isWorker l G aM ρ x1 x2 _ h) mw_X8_isWorker mi_X8_isWorker ml_X8_55 rfl ⟨rfl, rfl, Nat.le_of_ble_eq_true rfl, Nat.le_of_ble_eq_true rfl⟩ ⟨Nat.zero_le _, Nat.zero_le _⟩ (g_recv (a := aM) (k := 0) hK hM rfl rfl) hM hS (fun _ h => h.elim) rfl (Nat.le_of_ble_eq_true rfl) dX8_flip_3 (fun r1 u H locs h hu _ hq hS => ?_)
  have hM := hM.past hq (fun _ _ h => h)
  refine lv_if_ne (tgt := 12) hx hb dX8_flip_6 (by decide) (fun c2 => ?_) (fun c2 => ?_)
  · replace h := h.1 c2
    refine lv_iconst (v := 3) hx hb dX8_flip_12 (by decide) ?_
    refine lv_iload_n hx hb dX8_flip_13 rfl (lv_at hl 1 rfl) ?_
    refine lv_imul hx hb dX8_flip_14 ?_
    refine lv_iload_n hx hb dX8_flip_15 rfl (lv_at hl 2 rfl) ?_
    refine lv_iadd hx hb dX8_flip_16 ?_
    refine lv_topi (fun v3 ev3 => ?_)
    specialize h v3 ev3
    refine lv_istore_n (lv' := [(3, .int v3), (0, .ref (aM + 0)), (1, .int x1), (2, .int x2)]) hx hb dX8_flip_17 rfl hl (by decide) rfl (fun ls hl => ?_)
    refine lv_aload_n hx hb dX8_flip_18 rfl (lv_at hl 1 rfl) ?_
    refine lv_iload_n hx hb dX8_flip_19 rfl (lv_at hl 0 rfl) ?_
    refine lv_iconst (v := 2) hx hb dX8_flip_20 (by decide) ?_
    refine g_vI C hK hl.1 (m_X8_of l G aM ρ v3 2 _ h) mw_X8_of mi_X8_of ml_X8_60 rfl ⟨rfl, rfl, Nat.le_of_ble_eq_true rfl, Nat.le_of_ble_eq_true rfl⟩ ⟨Nat.zero_le _, Nat.zero_le _⟩ (g_recv (a := aM) (k := 0) hK hM rfl rfl) hM hS (fun _ h => h.elim) rfl (Nat.le_of_ble_eq_true rfl) dX8_flip_21 (fun r4 u H locs h hu _ hq hS => ?_)
    have hM := hM.past hq (fun _ _ h => h)
    refine lv_if_ne (tgt := 30) hx hb dX8_flip_24 (by decide) (fun c5 => ?_) (fun c5 => ?_)
    · replace h := h.1 c5
      refine lv_aload_n hx hb dX8_flip_30 rfl (lv_at hl 1 rfl) ?_
      refine g_vV C hK hl.1 (m_X8_changes l G aM ρ _ h) mw_X8_changes mi_X8_changes ml_X8_52 rfl ⟨rfl, rfl, Nat.le_of_ble_eq_true rfl, Nat.le_of_ble_eq_true rfl⟩ ⟨Nat.zero_le _, Nat.zero_le _⟩ (g_recv (a := aM) (k := 0) hK hM rfl rfl) hM hS (fun _ h => h) rfl (Nat.le_of_ble_eq_true rfl) dX8_flip_31 (fun u H locs h hu _ hq hS => ?_)
      obtain ⟨ρ7, rfl⟩ : ∃ z, z = u := ⟨_, rfl⟩
      have hM := hu
      refine lv_aload_n hx hb dX8_flip_34 rfl (lv_at hl 1 rfl) ?_
      refine lv_iconst (v := 0) hx hb dX8_flip_35 (by decide) ?_
      refine g_put (a := aM) (k := 0) C hK hM hS fl_X8_91 fp_X8_9 rfl rfl (by rfl) (by rfl) (RA_in (by decide)) dX8_flip_36 (fun ρ8 H locs eρ8 hM hS hq => ?_)
      specialize h ρ8 eρ8
      refine lv_aload_n hx hb dX8_flip_39 rfl (lv_at hl 1 rfl) ?_
      refine lv_iload_n hx hb dX8_flip_40 rfl (lv_at hl 0 rfl) ?_
      refine g_vV C hK hl.1 (m_X8_flips l G aM ρ8 v3 _ h) mw_X8_flips mi_X8_flips ml_X8_97 rfl ⟨rfl, rfl, Nat.le_of_ble_eq_true rfl, Nat.le_of_ble_eq_true rfl⟩ ⟨Nat.zero_le _, Nat.zero_le _⟩ (g_recv (a := aM) (k := 0) hK hM rfl rfl) hM hS (fun _ h => h) rfl (Nat.le_of_ble_eq_true rfl) dX8_flip_41 (fun u H locs h hu _ hq hS => ?_)
      obtain ⟨ρ10, rfl⟩ : ∃ z, z = u := ⟨_, rfl⟩
      have hM := hu
      refine lv_aload_n hx hb dX8_flip_44 rfl (lv_at hl 1 rfl) ?_
      refine lv_iload_n hx hb dX8_flip_45 rfl (lv_at hl 0 rfl) ?_
      refine lv_iconst (v := 2) hx hb dX8_flip_46 (by decide) ?_
      refine g_vI C hK hl.1 (m_X8_of l G aM ρ10 v3 2 _ h) mw_X8_of mi_X8_of ml_X8_60 rfl ⟨rfl, rfl, Nat.le_of_ble_eq_true rfl, Nat.le_of_ble_eq_true rfl⟩ ⟨Nat.zero_le _, Nat.zero_le _⟩ (g_recv (a := aM) (k := 0) hK hM rfl rfl) hM hS (fun _ h => h.elim) rfl (Nat.le_of_ble_eq_true rfl) dX8_flip_47 (fun r11 u H locs h hu _ hq hS => ?_)
      have hM := hM.past hq (fun _ _ h => h)
      refine lv_istore (lv' := [(4, .int r11), (3, .int v3), (0, .ref (aM + 0)), (1, .int x1), (2, .int x2)]) hx hb dX8_flip_50 hl (by decide) rfl (fun ls hl => ?_)
      refine lv_aload_n hx hb dX8_flip_52 rfl (lv_at hl 2 rfl) ?_
      refine g_vV C hK hl.1 (m_X8_works l G aM ρ10 _ h) mw_X8_works mi_X8_works ml_X8_101 rfl ⟨rfl, rfl, Nat.le_of_ble_eq_true rfl, Nat.le_of_ble_eq_true rfl⟩ ⟨Nat.zero_le _, Nat.zero_le _⟩ (g_recv (a := aM) (k := 0) hK hM rfl rfl) hM hS (fun _ h => h) rfl (Nat.le_of_ble_eq_true rfl) dX8_flip_53 (fun u H locs h hu _ hq hS => ?_)
      obtain ⟨ρ13, rfl⟩ : ∃ z, z = u := ⟨_, rfl⟩
      have hM := hu
      refine lv_iload hx hb dX8_flip_56 (lv_at hl 0 rfl) ?_
      exact g_iret (post := Q) (P' := fun u H => rg G LM aM u H) (r := r11) (u := ρ13) C hr hK hS h hM dX8_flip_58
    · replace h := h.2 c5
      refine g_ldc C kc_X8_63 dX8_flip_27 ?_
      exact g_iret (post := Q) (P' := fun u H => rg G LM aM u H) (r := (-1000002)) (u := ρ) C hr hK hS h hM dX8_flip_29
  · replace h := h.2 c2
    refine g_ldc C kc_X8_59 dX8_flip_9 ?_
    exact g_iret (post := Q) (P' := fun u H => rg G LM aM u H) (r := (-1000001)) (u := ρ) C hr hK hS h hM dX8_flip_11
theorem dX8_buy_0 : decode cX8_buy 0 = .ok (.aload_n 0, 1) := by decide +kernel
theorem dX8_buy_1 : decode cX8_buy 1 = .ok (.iload_n 1, 1) := by decide +kernel
theorem dX8_buy_2 : decode cX8_buy 2 = .ok (.invokevirtual 39, 3) := by decide +kernel
theorem dX8_buy_5 : decode cX8_buy 5 = .ok (.ifCond .eq 11, 3) := by decide +kernel
theorem dX8_buy_8 : decode cX8_buy 8 = .ok (.aload_n 0, 1) := by decide +kernel
theorem dX8_buy_9 : decode cX8_buy 9 = .ok (.iload_n 2, 1) := by decide +kernel
theorem dX8_buy_10 : decode cX8_buy 10 = .ok (.invokevirtual 104, 3) := by decide +kernel
theorem dX8_buy_13 : decode cX8_buy 13 = .ok (.ifCond .ne 6, 3) := by decide +kernel
theorem dX8_buy_16 : decode cX8_buy 16 = .ok (.ldc 59, 2) := by decide +kernel
theorem dX8_buy_18 : decode cX8_buy 18 = .ok (.ireturn, 1) := by decide +kernel
theorem dX8_buy_19 : decode cX8_buy 19 = .ok (.aload_n 0, 1) := by decide +kernel
theorem dX8_buy_20 : decode cX8_buy 20 = .ok (.getfield 7, 3) := by decide +kernel
theorem dX8_buy_23 : decode cX8_buy 23 = .ok (.sipush 152, 3) := by decide +kernel
theorem dX8_buy_26 : decode cX8_buy 26 = .ok (.iconst 2, 1) := by decide +kernel
theorem dX8_buy_27 : decode cX8_buy 27 = .ok (.iload_n 2, 1) := by decide +kernel
theorem dX8_buy_28 : decode cX8_buy 28 = .ok (.imul, 1) := by decide +kernel
theorem dX8_buy_29 : decode cX8_buy 29 = .ok (.iadd, 1) := by decide +kernel
theorem dX8_buy_30 : decode cX8_buy 30 = .ok (.iaload, 1) := by decide +kernel
theorem dX8_buy_31 : decode cX8_buy 31 = .ok (.istore_n 3, 1) := by decide +kernel
theorem dX8_buy_32 : decode cX8_buy 32 = .ok (.aload_n 0, 1) := by decide +kernel
theorem dX8_buy_33 : decode cX8_buy 33 = .ok (.iload_n 1, 1) := by decide +kernel
theorem dX8_buy_34 : decode cX8_buy 34 = .ok (.iload_n 3, 1) := by decide +kernel
theorem dX8_buy_35 : decode cX8_buy 35 = .ok (.invokevirtual 75, 3) := by decide +kernel
theorem dX8_buy_38 : decode cX8_buy 38 = .ok (.ifCond .ne 6, 3) := by decide +kernel
theorem dX8_buy_41 : decode cX8_buy 41 = .ok (.ldc 63, 2) := by decide +kernel
theorem dX8_buy_43 : decode cX8_buy 43 = .ok (.ireturn, 1) := by decide +kernel
theorem dX8_buy_44 : decode cX8_buy 44 = .ok (.aload_n 0, 1) := by decide +kernel
theorem dX8_buy_45 : decode cX8_buy 45 = .ok (.invokevirtual 52, 3) := by decide +kernel
theorem dX8_buy_48 : decode cX8_buy 48 = .ok (.aload_n 0, 1) := by decide +kernel
theorem dX8_buy_49 : decode cX8_buy 49 = .ok (.iload_n 1, 1) := by decide +kernel
theorem dX8_buy_50 : decode cX8_buy 50 = .ok (.iload_n 3, 1) := by decide +kernel
theorem dX8_buy_51 : decode cX8_buy 51 = .ok (.invokevirtual 78, 3) := by decide +kernel
theorem dX8_buy_54 : decode cX8_buy 54 = .ok (.aload_n 0, 1) := by decide +kernel
theorem dX8_buy_55 : decode cX8_buy 55 = .ok (.getfield 7, 3) := by decide +kernel
theorem dX8_buy_58 : decode cX8_buy 58 = .ok (.bipush 8, 2) := by decide +kernel
theorem dX8_buy_60 : decode cX8_buy 60 = .ok (.iconst 5, 1) := by decide +kernel
theorem dX8_buy_61 : decode cX8_buy 61 = .ok (.iload_n 1, 1) := by decide +kernel
theorem dX8_buy_62 : decode cX8_buy 62 = .ok (.imul, 1) := by decide +kernel
theorem dX8_buy_63 : decode cX8_buy 63 = .ok (.iadd, 1) := by decide +kernel
theorem dX8_buy_64 : decode cX8_buy 64 = .ok (.iconst 3, 1) := by decide +kernel
theorem dX8_buy_65 : decode cX8_buy 65 = .ok (.iadd, 1) := by decide +kernel
theorem dX8_buy_66 : decode cX8_buy 66 = .ok (.dup2, 1) := by decide +kernel
theorem dX8_buy_67 : decode cX8_buy 67 = .ok (.iaload, 1) := by decide +kernel
theorem dX8_buy_68 : decode cX8_buy 68 = .ok (.aload_n 0, 1) := by decide +kernel
theorem dX8_buy_69 : decode cX8_buy 69 = .ok (.getfield 7, 3) := by decide +kernel
theorem dX8_buy_72 : decode cX8_buy 72 = .ok (.sipush 152, 3) := by decide +kernel
theorem dX8_buy_75 : decode cX8_buy 75 = .ok (.iconst 2, 1) := by decide +kernel
theorem dX8_buy_76 : decode cX8_buy 76 = .ok (.iload_n 2, 1) := by decide +kernel
theorem dX8_buy_77 : decode cX8_buy 77 = .ok (.imul, 1) := by decide +kernel
theorem dX8_buy_78 : decode cX8_buy 78 = .ok (.iadd, 1) := by decide +kernel
theorem dX8_buy_79 : decode cX8_buy 79 = .ok (.iconst 1, 1) := by decide +kernel
theorem dX8_buy_80 : decode cX8_buy 80 = .ok (.iadd, 1) := by decide +kernel
theorem dX8_buy_81 : decode cX8_buy 81 = .ok (.iaload, 1) := by decide +kernel
theorem dX8_buy_82 : decode cX8_buy 82 = .ok (.iadd, 1) := by decide +kernel
theorem dX8_buy_83 : decode cX8_buy 83 = .ok (.iastore, 1) := by decide +kernel
theorem dX8_buy_84 : decode cX8_buy 84 = .ok (.aload_n 0, 1) := by decide +kernel
theorem dX8_buy_85 : decode cX8_buy 85 = .ok (.getfield 7, 3) := by decide +kernel
theorem dX8_buy_88 : decode cX8_buy 88 = .ok (.iconst 2, 1) := by decide +kernel
theorem dX8_buy_89 : decode cX8_buy 89 = .ok (.dup2, 1) := by decide +kernel
theorem dX8_buy_90 : decode cX8_buy 90 = .ok (.iaload, 1) := by decide +kernel
theorem dX8_buy_91 : decode cX8_buy 91 = .ok (.iconst 1, 1) := by decide +kernel
theorem dX8_buy_92 : decode cX8_buy 92 = .ok (.isub, 1) := by decide +kernel
theorem dX8_buy_93 : decode cX8_buy 93 = .ok (.iastore, 1) := by decide +kernel
theorem dX8_buy_94 : decode cX8_buy 94 = .ok (.sipush 152, 3) := by decide +kernel
theorem dX8_buy_97 : decode cX8_buy 97 = .ok (.iconst 2, 1) := by decide +kernel
theorem dX8_buy_98 : decode cX8_buy 98 = .ok (.iload_n 2, 1) := by decide +kernel
theorem dX8_buy_99 : decode cX8_buy 99 = .ok (.imul, 1) := by decide +kernel
theorem dX8_buy_100 : decode cX8_buy 100 = .ok (.iadd, 1) := by decide +kernel
theorem dX8_buy_101 : decode cX8_buy 101 = .ok (.istore 4, 2) := by decide +kernel
theorem dX8_buy_103 : decode cX8_buy 103 = .ok (.iload 4, 2) := by decide +kernel
theorem dX8_buy_105 : decode cX8_buy 105 = .ok (.sipush 152, 3) := by decide +kernel
theorem dX8_buy_108 : decode cX8_buy 108 = .ok (.iconst 2, 1) := by decide +kernel
theorem dX8_buy_109 : decode cX8_buy 109 = .ok (.aload_n 0, 1) := by decide +kernel
theorem dX8_buy_110 : decode cX8_buy 110 = .ok (.getfield 7, 3) := by decide +kernel
theorem dX8_buy_113 : decode cX8_buy 113 = .ok (.iconst 2, 1) := by decide +kernel
theorem dX8_buy_114 : decode cX8_buy 114 = .ok (.iaload, 1) := by decide +kernel
theorem dX8_buy_115 : decode cX8_buy 115 = .ok (.imul, 1) := by decide +kernel
theorem dX8_buy_116 : decode cX8_buy 116 = .ok (.iadd, 1) := by decide +kernel
theorem dX8_buy_117 : decode cX8_buy 117 = .ok (.if_icmp .ge 25, 3) := by decide +kernel
theorem dX8_buy_120 : decode cX8_buy 120 = .ok (.aload_n 0, 1) := by decide +kernel
theorem dX8_buy_121 : decode cX8_buy 121 = .ok (.getfield 7, 3) := by decide +kernel
theorem dX8_buy_124 : decode cX8_buy 124 = .ok (.iload 4, 2) := by decide +kernel
theorem dX8_buy_126 : decode cX8_buy 126 = .ok (.aload_n 0, 1) := by decide +kernel
theorem dX8_buy_127 : decode cX8_buy 127 = .ok (.getfield 7, 3) := by decide +kernel
theorem dX8_buy_130 : decode cX8_buy 130 = .ok (.iload 4, 2) := by decide +kernel
theorem dX8_buy_132 : decode cX8_buy 132 = .ok (.iconst 2, 1) := by decide +kernel
theorem dX8_buy_133 : decode cX8_buy 133 = .ok (.iadd, 1) := by decide +kernel
theorem dX8_buy_134 : decode cX8_buy 134 = .ok (.iaload, 1) := by decide +kernel
theorem dX8_buy_135 : decode cX8_buy 135 = .ok (.iastore, 1) := by decide +kernel
theorem dX8_buy_136 : decode cX8_buy 136 = .ok (.iinc 4 1, 3) := by decide +kernel
theorem dX8_buy_139 : decode cX8_buy 139 = .ok (.goto (-36), 3) := by decide +kernel
theorem dX8_buy_142 : decode cX8_buy 142 = .ok (.aload_n 0, 1) := by decide +kernel
theorem dX8_buy_143 : decode cX8_buy 143 = .ok (.getfield 7, 3) := by decide +kernel
theorem dX8_buy_146 : decode cX8_buy 146 = .ok (.bipush 8, 2) := by decide +kernel
theorem dX8_buy_148 : decode cX8_buy 148 = .ok (.iconst 5, 1) := by decide +kernel
theorem dX8_buy_149 : decode cX8_buy 149 = .ok (.iload_n 1, 1) := by decide +kernel
theorem dX8_buy_150 : decode cX8_buy 150 = .ok (.imul, 1) := by decide +kernel
theorem dX8_buy_151 : decode cX8_buy 151 = .ok (.iadd, 1) := by decide +kernel
theorem dX8_buy_152 : decode cX8_buy 152 = .ok (.iconst 3, 1) := by decide +kernel
theorem dX8_buy_153 : decode cX8_buy 153 = .ok (.iadd, 1) := by decide +kernel
theorem dX8_buy_154 : decode cX8_buy 154 = .ok (.iaload, 1) := by decide +kernel
theorem dX8_buy_155 : decode cX8_buy 155 = .ok (.ireturn, 1) := by decide +kernel
def vb_X8_buy_103 (Q : Int32 → Mem → Prop) (rec : Nat → Mem → Int32 → Int32 → Prop) (ρ : Mem) (w1 : Int32) (w4 : Int32) : Prop :=
  ((((152 + (2 * (ρ 1 (2 : Int32).toNatClampNeg))) ≤ w4) → (vp_in ((8 + (5 * w1)) + 3) 164 ∧ (Q (ρ 1 ((8 + (5 * w1)) + 3).toNatClampNeg) ρ))) ∧ ((¬ (152 + (2 * (ρ 1 (2 : Int32).toNatClampNeg))) ≤ w4) → (vp_in (w4 + 2) 164 ∧ (vp_in w4 164 ∧ (∀ ρ22 : Mem, ρ22 = up ρ 1 w4.toNatClampNeg (ρ 1 (w4 + 2).toNatClampNeg) → (∀ v23 : Int32, v23 = w4 + 1 → (rec 0 ρ22 w1 v23)))))))
def vl_X8_buy (Q : Int32 → Mem → Prop) : Nat → Nat → Mem → Int32 → Int32 → Prop
  | 0, _, _, _, _ => False
  | n + 1, 0, ρ, w1, w4 => vb_X8_buy_103 Q (vl_X8_buy Q n) ρ w1 w4
  | _ + 1, _, _, _, _ => False
def vc_X8_buy (Q : Int32 → Mem → Prop) (ρ : Mem) (x1 : Int32) (x2 : Int32) : Prop :=
  ∃ n : Nat, vc_X8_isPlayer (fun r1 => ((r1 = 0) → (Q (-1000001) ρ)) ∧ ((¬ r1 = 0) → (vc_X8_isContract (fun r3 => ((¬ r3 = 0) → (vp_in (152 + (2 * x2)) 164 ∧ (∀ v6 : Int32, v6 = (ρ 1 (152 + (2 * x2)).toNatClampNeg) → (vc_X8_has (fun r7 => ((¬ r7 = 0) → (vc_X8_changes (fun ρ10 => vc_X8_pays (fun ρ12 => vp_in ((8 + (5 * x1)) + 3) 164 ∧ (vp_in ((152 + (2 * x2)) + 1) 164 ∧ ((∀ ρ15 : Mem, ρ15 = up ρ12 1 ((8 + (5 * x1)) + 3).toNatClampNeg ((ρ12 1 ((8 + (5 * x1)) + 3).toNatClampNeg) + (ρ12 1 ((152 + (2 * x2)) + 1).toNatClampNeg)) → (((∀ ρ16 : Mem, ρ16 = up ρ15 1 (2 : Int32).toNatClampNeg ((ρ15 1 (2 : Int32).toNatClampNeg) - 1) → (∀ v17 : Int32, v17 = (152 + (2 * x2)) → (vl_X8_buy Q n 0 ρ16 x1 v17))))))))) ρ10 x1 v6) ρ)) ∧ ((r7 = 0) → (Q (-1000002) ρ))) ρ x1 v6)))) ∧ ((r3 = 0) → (Q (-1000001) ρ))) ρ x2))) ρ x1
set_option maxHeartbeats 8000000 in
set_option maxRecDepth 100000 in
theorem m_X8_buy (l : Launch) (G : GG) (aM : Nat) (ρ : Mem) (x1 : Int32) (x2 : Int32) (Q : Int32 → Mem → Prop) (h : vc_X8_buy Q ρ x1 x2) : CtI l yX8_buy cX8_buy 5 (some .int) { frames := 2, cells := 0, slots := 0, locals := 45 } [.ref (aM + 0), .int x1, .int x2] G (fun H => rg G LM aM ρ H) (Q) (fun u H => rg G LM aM u H) (RA aM 8) := by
  unfold CtI
  refine met_start (y := yX8_buy) (maxL := 5) (av := [.ref (aM + 0), .int x1, .int x2]) (G := G) (P := fun H => rg G LM aM ρ H) (by decide) rfl (Nat.le_of_ble_eq_true rfl) (fun p e s m below meth c ls C hr hP hK hl => ?_)
  obtain ⟨hx, hb, hml, hown, hts, hlocks⟩ := id C
  have hM : rg G LM aM ρ s.heap := hP
  have hS : va_S (RA aM 8) s.heap s.heap [] := va_S.rf
  have hl : lv_has ls 5 [(0, .ref (aM + 0)), (1, .int x1), (2, .int x2)] := hl
  have K : ∀ n : Nat, (∀ (ρ : Mem) (w1 : Int32) (w4 : Int32) (H : Heap) (locs : List Loc) (ls : Array Slot), rg G LM aM ρ H → va_S (RA aM 8) s.heap H locs → lv_has ls 5 [(0, .ref (aM + 0)), (1, .int w1), (4, .int w4)] → vl_X8_buy Q n 0 ρ w1 w4 → W p l e { frames := 2, cells := 0, slots := 0, locals := 45 } s m [.ref (aM + 0), .int x1, .int x2].toArray below meth c H locs 0 0 (MQ below (va_Qi (Q) (fun u t => (fun u H => rg G LM aM u H) u t.heap ∧ KK G t) (RA aM 8)) [.ref (aM + 0), .int x1, .int x2].toArray s 0 0 (RA aM 8)) (F0 m 103 ls [])) := by
    intro n
    induction n with
    | zero => exact fun _ _ _ _ _ _ _ _ _ h => h.elim
    | succ n ih =>
      · intro ρ w1 w4 H locs ls hM hS hl h
        replace h : vb_X8_buy_103 Q (vl_X8_buy Q n) ρ w1 w4 := h
        unfold vb_X8_buy_103 at h
        refine lv_iload hx hb dX8_buy_103 (lv_at hl 2 rfl) ?_
        refine lv_sipush (v := 152) hx hb dX8_buy_105 (by decide) ?_
        refine lv_iconst (v := 2) hx hb dX8_buy_108 (by decide) ?_
        refine lv_aload_n hx hb dX8_buy_109 rfl (lv_at hl 0 rfl) ?_
        refine g_getR (a := aM) (k := 0) (o := 1) C hK hM fl_X8_7 rfl rfl dX8_buy_110 ?_
        refine lv_iconst (v := 2) hx hb dX8_buy_113 (by decide) ?_
        refine g_ald (a := aM) (k := 1) (n := 164) C hK hM rfl (vp_dec (by decide)) dX8_buy_114 ?_
        refine lv_imul hx hb dX8_buy_115 ?_
        refine lv_iadd hx hb dX8_buy_116 ?_
        refine lv_icmp_ge (tgt := 142) hx hb dX8_buy_117 (by decide) (fun c18 => ?_) (fun c18 => ?_)
        · replace h := h.1 c18
          refine lv_aload_n hx hb dX8_buy_142 rfl (lv_at hl 0 rfl) ?_
          refine g_getR (a := aM) (k := 0) (o := 1) C hK hM fl_X8_7 rfl rfl dX8_buy_143 ?_
          refine lv_bipush (v := 8) hx hb dX8_buy_146 (by decide) ?_
          refine lv_iconst (v := 5) hx hb dX8_buy_148 (by decide) ?_
          refine lv_iload_n hx hb dX8_buy_149 rfl (lv_at hl 1 rfl) ?_
          refine lv_imul hx hb dX8_buy_150 ?_
          refine lv_iadd hx hb dX8_buy_151 ?_
          refine lv_iconst (v := 3) hx hb dX8_buy_152 (by decide) ?_
          refine lv_iadd hx hb dX8_buy_153 ?_
          obtain ⟨b19, h⟩ := h
          refine g_ald (a := aM) (k := 1) (n := 164) C hK hM rfl b19 dX8_buy_154 ?_
          exact g_iret (post := Q) (P' := fun u H => rg G LM aM u H) (r := (ρ 1 ((8 + (5 * w1)) + 3).toNatClampNeg)) (u := ρ) C hr hK hS h hM dX8_buy_155
        · replace h := h.2 c18
          refine lv_aload_n hx hb dX8_buy_120 rfl (lv_at hl 0 rfl) ?_
          refine g_getR (a := aM) (k := 0) (o := 1) C hK hM fl_X8_7 rfl rfl dX8_buy_121 ?_
          refine lv_iload hx hb dX8_buy_124 (lv_at hl 2 rfl) ?_
          refine lv_aload_n hx hb dX8_buy_126 rfl (lv_at hl 0 rfl) ?_
          refine g_getR (a := aM) (k := 0) (o := 1) C hK hM fl_X8_7 rfl rfl dX8_buy_127 ?_
          refine lv_iload hx hb dX8_buy_130 (lv_at hl 2 rfl) ?_
          refine lv_iconst (v := 2) hx hb dX8_buy_132 (by decide) ?_
          refine lv_iadd hx hb dX8_buy_133 ?_
          obtain ⟨b20, h⟩ := h
          refine g_ald (a := aM) (k := 1) (n := 164) C hK hM rfl b20 dX8_buy_134 ?_
          obtain ⟨b21, h⟩ := h
          refine g_ast (a := aM) (k := 1) (n := 164) C hK hM hS rfl b21 (RA_in (by decide)) dX8_buy_135 (fun ρ22 H locs eρ22 hM hS hq => ?_)
          specialize h ρ22 eρ22
          obtain ⟨v23, ev23⟩ : ∃ y : Int32, y = w4 + 1 := ⟨_, rfl⟩
          specialize h v23 ev23
          refine lv_iinc (v := v23) (lv' := [(4, .int v23), (0, .ref (aM + 0)), (1, .int w1)]) hx hb dX8_buy_136 hl (k := 2) rfl (by rw [ev23]; rfl) (by decide) rfl (fun ls hl => ?_)
          refine lv_goto (tgt := 103) hx hb dX8_buy_139 (by decide) ?_
          exact (ih) ρ22 w1 v23 _ _ _ hM hS (lv_sub hl [1, 2, 0] rfl) h
  unfold vc_X8_buy at h
  obtain ⟨n, h⟩ := h
  refine lv_aload_n hx hb dX8_buy_0 rfl (lv_at hl 0 rfl) ?_
  refine lv_iload_n hx hb dX8_buy_1 rfl (lv_at hl 1 rfl) ?_
  refine g_vI C hK hl.1 (m_X8_isPlayer l G aM ρ x1 _ h) mw_X8_isPlayer mi_X8_isPlayer ml_X8_39 rfl ⟨rfl, rfl, Nat.le_of_ble_eq_true rfl, Nat.le_of_ble_eq_true rfl⟩ ⟨Nat.zero_le _, Nat.zero_le _⟩ (g_recv (a := aM) (k := 0) hK hM rfl rfl) hM hS (fun _ h => h.elim) rfl (Nat.le_of_ble_eq_true rfl) dX8_buy_2 (fun r1 u H locs h hu _ hq hS => ?_)
  have hM := hM.past hq (fun _ _ h => h)
  refine lv_if_eq (tgt := 16) hx hb dX8_buy_5 (by decide) (fun c2 => ?_) (fun c2 => ?_)
  · replace h := h.1 c2
    refine g_ldc C kc_X8_59 dX8_buy_16 ?_
    exact g_iret (post := Q) (P' := fun u H => rg G LM aM u H) (r := (-1000001)) (u := ρ) C hr hK hS h hM dX8_buy_18
  · replace h := h.2 c2
    refine lv_aload_n hx hb dX8_buy_8 rfl (lv_at hl 0 rfl) ?_
    refine lv_iload_n hx hb dX8_buy_9 rfl (lv_at hl 2 rfl) ?_
    refine g_vI C hK hl.1 (m_X8_isContract l G aM ρ x2 _ h) mw_X8_isContract mi_X8_isContract ml_X8_104 rfl ⟨rfl, rfl, Nat.le_of_ble_eq_true rfl, Nat.le_of_ble_eq_true rfl⟩ ⟨Nat.zero_le _, Nat.zero_le _⟩ (g_recv (a := aM) (k := 0) hK hM rfl rfl) hM hS (fun _ h => h.elim) rfl (Nat.le_of_ble_eq_true rfl) dX8_buy_10 (fun r3 u H locs h hu _ hq hS => ?_)
    have hM := hM.past hq (fun _ _ h => h)
    refine lv_if_ne (tgt := 19) hx hb dX8_buy_13 (by decide) (fun c4 => ?_) (fun c4 => ?_)
    · replace h := h.1 c4
      refine lv_aload_n hx hb dX8_buy_19 rfl (lv_at hl 0 rfl) ?_
      refine g_getR (a := aM) (k := 0) (o := 1) C hK hM fl_X8_7 rfl rfl dX8_buy_20 ?_
      refine lv_sipush (v := 152) hx hb dX8_buy_23 (by decide) ?_
      refine lv_iconst (v := 2) hx hb dX8_buy_26 (by decide) ?_
      refine lv_iload_n hx hb dX8_buy_27 rfl (lv_at hl 2 rfl) ?_
      refine lv_imul hx hb dX8_buy_28 ?_
      refine lv_iadd hx hb dX8_buy_29 ?_
      obtain ⟨b5, h⟩ := h
      refine g_ald (a := aM) (k := 1) (n := 164) C hK hM rfl b5 dX8_buy_30 ?_
      refine lv_topi (fun v6 ev6 => ?_)
      specialize h v6 ev6
      refine lv_istore_n (lv' := [(3, .int v6), (0, .ref (aM + 0)), (1, .int x1), (2, .int x2)]) hx hb dX8_buy_31 rfl hl (by decide) rfl (fun ls hl => ?_)
      refine lv_aload_n hx hb dX8_buy_32 rfl (lv_at hl 1 rfl) ?_
      refine lv_iload_n hx hb dX8_buy_33 rfl (lv_at hl 2 rfl) ?_
      refine lv_iload_n hx hb dX8_buy_34 rfl (lv_at hl 0 rfl) ?_
      refine g_vI C hK hl.1 (m_X8_has l G aM ρ x1 v6 _ h) mw_X8_has mi_X8_has ml_X8_75 rfl ⟨rfl, rfl, Nat.le_of_ble_eq_true rfl, Nat.le_of_ble_eq_true rfl⟩ ⟨Nat.zero_le _, Nat.zero_le _⟩ (g_recv (a := aM) (k := 0) hK hM rfl rfl) hM hS (fun _ h => h.elim) rfl (Nat.le_of_ble_eq_true rfl) dX8_buy_35 (fun r7 u H locs h hu _ hq hS => ?_)
      have hM := hM.past hq (fun _ _ h => h)
      refine lv_if_ne (tgt := 44) hx hb dX8_buy_38 (by decide) (fun c8 => ?_) (fun c8 => ?_)
      · replace h := h.1 c8
        refine lv_aload_n hx hb dX8_buy_44 rfl (lv_at hl 1 rfl) ?_
        refine g_vV C hK hl.1 (m_X8_changes l G aM ρ _ h) mw_X8_changes mi_X8_changes ml_X8_52 rfl ⟨rfl, rfl, Nat.le_of_ble_eq_true rfl, Nat.le_of_ble_eq_true rfl⟩ ⟨Nat.zero_le _, Nat.zero_le _⟩ (g_recv (a := aM) (k := 0) hK hM rfl rfl) hM hS (fun _ h => h) rfl (Nat.le_of_ble_eq_true rfl) dX8_buy_45 (fun u H locs h hu _ hq hS => ?_)
        obtain ⟨ρ10, rfl⟩ : ∃ z, z = u := ⟨_, rfl⟩
        have hM := hu
        refine lv_aload_n hx hb dX8_buy_48 rfl (lv_at hl 1 rfl) ?_
        refine lv_iload_n hx hb dX8_buy_49 rfl (lv_at hl 2 rfl) ?_
        refine lv_iload_n hx hb dX8_buy_50 rfl (lv_at hl 0 rfl) ?_
        refine g_vV C hK hl.1 (m_X8_pays l G aM ρ10 x1 v6 _ h) mw_X8_pays mi_X8_pays ml_X8_78 rfl ⟨rfl, rfl, Nat.le_of_ble_eq_true rfl, Nat.le_of_ble_eq_true rfl⟩ ⟨Nat.zero_le _, Nat.zero_le _⟩ (g_recv (a := aM) (k := 0) hK hM rfl rfl) hM hS (fun _ h => h) rfl (Nat.le_of_ble_eq_true rfl) dX8_buy_51 (fun u H locs h hu _ hq hS => ?_)
        obtain ⟨ρ12, rfl⟩ : ∃ z, z = u := ⟨_, rfl⟩
        have hM := hu
        refine lv_aload_n hx hb dX8_buy_54 rfl (lv_at hl 1 rfl) ?_
        refine g_getR (a := aM) (k := 0) (o := 1) C hK hM fl_X8_7 rfl rfl dX8_buy_55 ?_
        refine lv_bipush (v := 8) hx hb dX8_buy_58 (by decide) ?_
        refine lv_iconst (v := 5) hx hb dX8_buy_60 (by decide) ?_
        refine lv_iload_n hx hb dX8_buy_61 rfl (lv_at hl 2 rfl) ?_
        refine lv_imul hx hb dX8_buy_62 ?_
        refine lv_iadd hx hb dX8_buy_63 ?_
        refine lv_iconst (v := 3) hx hb dX8_buy_64 (by decide) ?_
        refine lv_iadd hx hb dX8_buy_65 ?_
        refine lv_dup2_11 hx hb dX8_buy_66 rfl rfl ?_
        obtain ⟨b13, h⟩ := h
        refine g_ald (a := aM) (k := 1) (n := 164) C hK hM rfl b13 dX8_buy_67 ?_
        refine lv_aload_n hx hb dX8_buy_68 rfl (lv_at hl 1 rfl) ?_
        refine g_getR (a := aM) (k := 0) (o := 1) C hK hM fl_X8_7 rfl rfl dX8_buy_69 ?_
        refine lv_sipush (v := 152) hx hb dX8_buy_72 (by decide) ?_
        refine lv_iconst (v := 2) hx hb dX8_buy_75 (by decide) ?_
        refine lv_iload_n hx hb dX8_buy_76 rfl (lv_at hl 3 rfl) ?_
        refine lv_imul hx hb dX8_buy_77 ?_
        refine lv_iadd hx hb dX8_buy_78 ?_
        refine lv_iconst (v := 1) hx hb dX8_buy_79 (by decide) ?_
        refine lv_iadd hx hb dX8_buy_80 ?_
        obtain ⟨b14, h⟩ := h
        refine g_ald (a := aM) (k := 1) (n := 164) C hK hM rfl b14 dX8_buy_81 ?_
        refine lv_iadd hx hb dX8_buy_82 ?_
        refine g_ast (a := aM) (k := 1) (n := 164) C hK hM hS rfl b13 (RA_in (by decide)) dX8_buy_83 (fun ρ15 H locs eρ15 hM hS hq => ?_)
        specialize h ρ15 eρ15
        refine lv_aload_n hx hb dX8_buy_84 rfl (lv_at hl 1 rfl) ?_
        refine g_getR (a := aM) (k := 0) (o := 1) C hK hM fl_X8_7 rfl rfl dX8_buy_85 ?_
        refine lv_iconst (v := 2) hx hb dX8_buy_88 (by decide) ?_
        refine lv_dup2_11 hx hb dX8_buy_89 rfl rfl ?_
        refine g_ald (a := aM) (k := 1) (n := 164) C hK hM rfl (vp_dec (by decide)) dX8_buy_90 ?_
        refine lv_iconst (v := 1) hx hb dX8_buy_91 (by decide) ?_
        refine lv_isub hx hb dX8_buy_92 ?_
        refine g_ast (a := aM) (k := 1) (n := 164) C hK hM hS rfl (vp_dec (by decide)) (RA_in (by decide)) dX8_buy_93 (fun ρ16 H locs eρ16 hM hS hq => ?_)
        specialize h ρ16 eρ16
        refine lv_sipush (v := 152) hx hb dX8_buy_94 (by decide) ?_
        refine lv_iconst (v := 2) hx hb dX8_buy_97 (by decide) ?_
        refine lv_iload_n hx hb dX8_buy_98 rfl (lv_at hl 3 rfl) ?_
        refine lv_imul hx hb dX8_buy_99 ?_
        refine lv_iadd hx hb dX8_buy_100 ?_
        refine lv_topi (fun v17 ev17 => ?_)
        specialize h v17 ev17
        refine lv_istore (lv' := [(4, .int v17), (3, .int v6), (0, .ref (aM + 0)), (1, .int x1), (2, .int x2)]) hx hb dX8_buy_101 hl (by decide) rfl (fun ls hl => ?_)
        exact ((K n)) ρ16 x1 v17 _ _ _ hM hS (lv_sub hl [2, 3, 0] rfl) h
      · replace h := h.2 c8
        refine g_ldc C kc_X8_63 dX8_buy_41 ?_
        exact g_iret (post := Q) (P' := fun u H => rg G LM aM u H) (r := (-1000002)) (u := ρ) C hr hK hS h hM dX8_buy_43
    · replace h := h.2 c4
      refine g_ldc C kc_X8_59 dX8_buy_16 ?_
      exact g_iret (post := Q) (P' := fun u H => rg G LM aM u H) (r := (-1000001)) (u := ρ) C hr hK hS h hM dX8_buy_18
theorem dX8_goes_0 : decode cX8_goes 0 = .ok (.aload_n 0, 1) := by decide +kernel
theorem dX8_goes_1 : decode cX8_goes 1 = .ok (.iconst 0, 1) := by decide +kernel
theorem dX8_goes_2 : decode cX8_goes 2 = .ok (.putfield 91, 3) := by decide +kernel
theorem dX8_goes_5 : decode cX8_goes 5 = .ok (.aload_n 0, 1) := by decide +kernel
theorem dX8_goes_6 : decode cX8_goes 6 = .ok (.getfield 7, 3) := by decide +kernel
theorem dX8_goes_9 : decode cX8_goes 9 = .ok (.iconst 3, 1) := by decide +kernel
theorem dX8_goes_10 : decode cX8_goes 10 = .ok (.dup2, 1) := by decide +kernel
theorem dX8_goes_11 : decode cX8_goes 11 = .ok (.iaload, 1) := by decide +kernel
theorem dX8_goes_12 : decode cX8_goes 12 = .ok (.iconst 1, 1) := by decide +kernel
theorem dX8_goes_13 : decode cX8_goes 13 = .ok (.iadd, 1) := by decide +kernel
theorem dX8_goes_14 : decode cX8_goes 14 = .ok (.iastore, 1) := by decide +kernel
theorem dX8_goes_15 : decode cX8_goes 15 = .ok (.iconst 0, 1) := by decide +kernel
theorem dX8_goes_16 : decode cX8_goes 16 = .ok (.istore_n 1, 1) := by decide +kernel
theorem dX8_goes_17 : decode cX8_goes 17 = .ok (.iload_n 1, 1) := by decide +kernel
theorem dX8_goes_18 : decode cX8_goes 18 = .ok (.aload_n 0, 1) := by decide +kernel
theorem dX8_goes_19 : decode cX8_goes 19 = .ok (.invokevirtual 67, 3) := by decide +kernel
theorem dX8_goes_22 : decode cX8_goes 22 = .ok (.if_icmp .ge 96, 3) := by decide +kernel
theorem dX8_goes_25 : decode cX8_goes 25 = .ok (.aload_n 0, 1) := by decide +kernel
theorem dX8_goes_26 : decode cX8_goes 26 = .ok (.getfield 7, 3) := by decide +kernel
theorem dX8_goes_29 : decode cX8_goes 29 = .ok (.bipush 28, 2) := by decide +kernel
theorem dX8_goes_31 : decode cX8_goes 31 = .ok (.bipush 7, 2) := by decide +kernel
theorem dX8_goes_33 : decode cX8_goes 33 = .ok (.iload_n 1, 1) := by decide +kernel
theorem dX8_goes_34 : decode cX8_goes 34 = .ok (.imul, 1) := by decide +kernel
theorem dX8_goes_35 : decode cX8_goes 35 = .ok (.iadd, 1) := by decide +kernel
theorem dX8_goes_36 : decode cX8_goes 36 = .ok (.iconst 4, 1) := by decide +kernel
theorem dX8_goes_37 : decode cX8_goes 37 = .ok (.iadd, 1) := by decide +kernel
theorem dX8_goes_38 : decode cX8_goes 38 = .ok (.dup2, 1) := by decide +kernel
theorem dX8_goes_39 : decode cX8_goes 39 = .ok (.iaload, 1) := by decide +kernel
theorem dX8_goes_40 : decode cX8_goes 40 = .ok (.aload_n 0, 1) := by decide +kernel
theorem dX8_goes_41 : decode cX8_goes 41 = .ok (.iload_n 1, 1) := by decide +kernel
theorem dX8_goes_42 : decode cX8_goes 42 = .ok (.iconst 2, 1) := by decide +kernel
theorem dX8_goes_43 : decode cX8_goes 43 = .ok (.invokevirtual 60, 3) := by decide +kernel
theorem dX8_goes_46 : decode cX8_goes 46 = .ok (.ifCond .ne 7, 3) := by decide +kernel
theorem dX8_goes_49 : decode cX8_goes 49 = .ok (.iconst 1, 1) := by decide +kernel
theorem dX8_goes_50 : decode cX8_goes 50 = .ok (.goto 4, 3) := by decide +kernel
theorem dX8_goes_53 : decode cX8_goes 53 = .ok (.iconst 0, 1) := by decide +kernel
theorem dX8_goes_54 : decode cX8_goes 54 = .ok (.iadd, 1) := by decide +kernel
theorem dX8_goes_55 : decode cX8_goes 55 = .ok (.iastore, 1) := by decide +kernel
theorem dX8_goes_56 : decode cX8_goes 56 = .ok (.aload_n 0, 1) := by decide +kernel
theorem dX8_goes_57 : decode cX8_goes 57 = .ok (.iload_n 1, 1) := by decide +kernel
theorem dX8_goes_58 : decode cX8_goes 58 = .ok (.iconst 2, 1) := by decide +kernel
theorem dX8_goes_59 : decode cX8_goes 59 = .ok (.invokevirtual 60, 3) := by decide +kernel
theorem dX8_goes_62 : decode cX8_goes 62 = .ok (.ifCond .le 50, 3) := by decide +kernel
theorem dX8_goes_65 : decode cX8_goes 65 = .ok (.aload_n 0, 1) := by decide +kernel
theorem dX8_goes_66 : decode cX8_goes 66 = .ok (.getfield 7, 3) := by decide +kernel
theorem dX8_goes_69 : decode cX8_goes 69 = .ok (.bipush 28, 2) := by decide +kernel
theorem dX8_goes_71 : decode cX8_goes 71 = .ok (.bipush 7, 2) := by decide +kernel
theorem dX8_goes_73 : decode cX8_goes 73 = .ok (.iload_n 1, 1) := by decide +kernel
theorem dX8_goes_74 : decode cX8_goes 74 = .ok (.imul, 1) := by decide +kernel
theorem dX8_goes_75 : decode cX8_goes 75 = .ok (.iadd, 1) := by decide +kernel
theorem dX8_goes_76 : decode cX8_goes 76 = .ok (.iconst 2, 1) := by decide +kernel
theorem dX8_goes_77 : decode cX8_goes 77 = .ok (.iadd, 1) := by decide +kernel
theorem dX8_goes_78 : decode cX8_goes 78 = .ok (.dup2, 1) := by decide +kernel
theorem dX8_goes_79 : decode cX8_goes 79 = .ok (.iaload, 1) := by decide +kernel
theorem dX8_goes_80 : decode cX8_goes 80 = .ok (.iconst 1, 1) := by decide +kernel
theorem dX8_goes_81 : decode cX8_goes 81 = .ok (.isub, 1) := by decide +kernel
theorem dX8_goes_82 : decode cX8_goes 82 = .ok (.iastore, 1) := by decide +kernel
theorem dX8_goes_83 : decode cX8_goes 83 = .ok (.aload_n 0, 1) := by decide +kernel
theorem dX8_goes_84 : decode cX8_goes 84 = .ok (.iload_n 1, 1) := by decide +kernel
theorem dX8_goes_85 : decode cX8_goes 85 = .ok (.iconst 2, 1) := by decide +kernel
theorem dX8_goes_86 : decode cX8_goes 86 = .ok (.invokevirtual 60, 3) := by decide +kernel
theorem dX8_goes_89 : decode cX8_goes 89 = .ok (.ifCond .ne 23, 3) := by decide +kernel
theorem dX8_goes_92 : decode cX8_goes 92 = .ok (.aload_n 0, 1) := by decide +kernel
theorem dX8_goes_93 : decode cX8_goes 93 = .ok (.getfield 25, 3) := by decide +kernel
theorem dX8_goes_96 : decode cX8_goes 96 = .ok (.aload_n 0, 1) := by decide +kernel
theorem dX8_goes_97 : decode cX8_goes 97 = .ok (.getfield 91, 3) := by decide +kernel
theorem dX8_goes_100 : decode cX8_goes 100 = .ok (.iload_n 1, 1) := by decide +kernel
theorem dX8_goes_101 : decode cX8_goes 101 = .ok (.iastore, 1) := by decide +kernel
theorem dX8_goes_102 : decode cX8_goes 102 = .ok (.aload_n 0, 1) := by decide +kernel
theorem dX8_goes_103 : decode cX8_goes 103 = .ok (.dup, 1) := by decide +kernel
theorem dX8_goes_104 : decode cX8_goes 104 = .ok (.getfield 91, 3) := by decide +kernel
theorem dX8_goes_107 : decode cX8_goes 107 = .ok (.iconst 1, 1) := by decide +kernel
theorem dX8_goes_108 : decode cX8_goes 108 = .ok (.iadd, 1) := by decide +kernel
theorem dX8_goes_109 : decode cX8_goes 109 = .ok (.putfield 91, 3) := by decide +kernel
theorem dX8_goes_112 : decode cX8_goes 112 = .ok (.iinc 1 1, 3) := by decide +kernel
theorem dX8_goes_115 : decode cX8_goes 115 = .ok (.goto (-98), 3) := by decide +kernel
theorem dX8_goes_118 : decode cX8_goes 118 = .ok (.aload_n 0, 1) := by decide +kernel
theorem dX8_goes_119 : decode cX8_goes 119 = .ok (.invokevirtual 101, 3) := by decide +kernel
theorem dX8_goes_122 : decode cX8_goes 122 = .ok (.return_, 1) := by decide +kernel
def vb_X8_goes_17 (Q : Mem → Prop) (rec : Nat → Mem → Int32 → Int32 → Int32 → Int32 → Prop) (ρ : Mem) (w1 : Int32) : Prop :=
  vc_X8_workers (fun r3 => ((r3 ≤ w1) → (vc_X8_works (fun ρ6 => Q ρ6) ρ)) ∧ ((¬ r3 ≤ w1) → (vp_in ((28 + (7 * w1)) + 4) 164 ∧ (vc_X8_of (fun r8 => ((¬ r8 = 0) → (rec 1 ρ w1 ((28 + (7 * w1)) + 4) (ρ 1 ((28 + (7 * w1)) + 4).toNatClampNeg) 0)) ∧ ((r8 = 0) → (rec 1 ρ w1 ((28 + (7 * w1)) + 4) (ρ 1 ((28 + (7 * w1)) + 4).toNatClampNeg) 1))) ρ w1 2)))) ρ
def vb_X8_goes_54 (Q : Mem → Prop) (rec : Nat → Mem → Int32 → Int32 → Int32 → Int32 → Prop) (ρ : Mem) (w1 : Int32) (z1 : Int32) (z2 : Int32) (z3 : Int32) : Prop :=
  vp_in z1 164 ∧ (∀ ρ11 : Mem, ρ11 = up ρ 1 z1.toNatClampNeg (z2 + z3) → (vc_X8_of (fun r12 => ((r12 ≤ 0) → (∀ v14 : Int32, v14 = w1 + 1 → (rec 0 ρ11 v14 0 0 0))) ∧ ((¬ r12 ≤ 0) → (vp_in ((28 + (7 * w1)) + 2) 164 ∧ ((∀ ρ16 : Mem, ρ16 = up ρ11 1 ((28 + (7 * w1)) + 2).toNatClampNeg ((ρ11 1 ((28 + (7 * w1)) + 2).toNatClampNeg) - 1) → (vc_X8_of (fun r17 => ((¬ r17 = 0) → (∀ v19 : Int32, v19 = w1 + 1 → (rec 0 ρ16 v19 0 0 0))) ∧ ((r17 = 0) → (vp_in (ρ16 0 9) 12 ∧ (∀ ρ21 : Mem, ρ21 = up ρ16 6 (ρ16 0 9).toNatClampNeg w1 → (∀ ρ22 : Mem, ρ22 = up ρ21 0 9 ((ρ21 0 9) + 1) → (∀ v23 : Int32, v23 = w1 + 1 → (rec 0 ρ22 v23 0 0 0))))))) ρ16 w1 2)))))) ρ11 w1 2))
def vl_X8_goes (Q : Mem → Prop) : Nat → Nat → Mem → Int32 → Int32 → Int32 → Int32 → Prop
  | 0, _, _, _, _, _, _ => False
  | n + 1, 0, ρ, w1, _, _, _ => vb_X8_goes_17 Q (vl_X8_goes Q n) ρ w1
  | n + 1, 1, ρ, w1, z1, z2, z3 => vb_X8_goes_54 Q (vl_X8_goes Q n) ρ w1 z1 z2 z3
  | _ + 1, _, _, _, _, _, _ => False
def vc_X8_goes (Q : Mem → Prop) (ρ : Mem) : Prop :=
  ∃ n : Nat, ∀ ρ1 : Mem, ρ1 = up ρ 0 9 0 → (((∀ ρ2 : Mem, ρ2 = up ρ1 1 (3 : Int32).toNatClampNeg ((ρ1 1 (3 : Int32).toNatClampNeg) + 1) → (vl_X8_goes Q n 0 ρ2 0 0 0 0))))
set_option maxHeartbeats 8000000 in
set_option maxRecDepth 100000 in
theorem m_X8_goes (l : Launch) (G : GG) (aM : Nat) (ρ : Mem) (Q : Mem → Prop) (h : vc_X8_goes Q ρ) : CtV l yX8_goes cX8_goes 2 { frames := 3, cells := 0, slots := 0, locals := 69 } [.ref (aM + 0)] G (fun H => rg G LM aM ρ H) (Q) (fun u H => rg G LM aM u H) (RA aM 8) := by
  unfold CtV
  refine met_start (y := yX8_goes) (maxL := 2) (av := [.ref (aM + 0)]) (G := G) (P := fun H => rg G LM aM ρ H) (by decide) rfl (Nat.le_of_ble_eq_true rfl) (fun p e s m below meth c ls C hr hP hK hl => ?_)
  obtain ⟨hx, hb, hml, hown, hts, hlocks⟩ := id C
  have hM : rg G LM aM ρ s.heap := hP
  have hS : va_S (RA aM 8) s.heap s.heap [] := va_S.rf
  have hl : lv_has ls 2 [(0, .ref (aM + 0))] := hl
  have K : ∀ n : Nat, (∀ (ρ : Mem) (w1 : Int32) (H : Heap) (locs : List Loc) (ls : Array Slot), rg G LM aM ρ H → va_S (RA aM 8) s.heap H locs → lv_has ls 2 [(0, .ref (aM + 0)), (1, .int w1)] → vl_X8_goes Q n 0 ρ w1 0 0 0 → W p l e { frames := 3, cells := 0, slots := 0, locals := 69 } s m [.ref (aM + 0)].toArray below meth c H locs 0 0 (MQ below (va_Qv (Q) (fun u t => (fun u H => rg G LM aM u H) u t.heap ∧ KK G t) (RA aM 8)) [.ref (aM + 0)].toArray s 0 0 (RA aM 8)) (F0 m 17 ls [])) ∧ (∀ (ρ : Mem) (w1 : Int32) (z1 : Int32) (z2 : Int32) (z3 : Int32) (H : Heap) (locs : List Loc) (ls : Array Slot), rg G LM aM ρ H → va_S (RA aM 8) s.heap H locs → lv_has ls 2 [(0, .ref (aM + 0)), (1, .int w1)] → vl_X8_goes Q n 1 ρ w1 z1 z2 z3 → W p l e { frames := 3, cells := 0, slots := 0, locals := 69 } s m [.ref (aM + 0)].toArray below meth c H locs 0 0 (MQ below (va_Qv (Q) (fun u t => (fun u H => rg G LM aM u H) u t.heap ∧ KK G t) (RA aM 8)) [.ref (aM + 0)].toArray s 0 0 (RA aM 8)) (F0 m 54 ls [.int z3, .int z2, .int z1, .ref (aM + 1)])) := by
    intro n
    induction n with
    | zero => exact ⟨fun _ _ _ _ _ _ _ _ h => h.elim, fun _ _ _ _ _ _ _ _ _ _ _ h => h.elim⟩
    | succ n ih =>
      refine ⟨?_, ?_⟩
      · intro ρ w1 H locs ls hM hS hl h
        replace h : vb_X8_goes_17 Q (vl_X8_goes Q n) ρ w1 := h
        unfold vb_X8_goes_17 at h
        refine lv_iload_n hx hb dX8_goes_17 rfl (lv_at hl 1 rfl) ?_
        refine lv_aload_n hx hb dX8_goes_18 rfl (lv_at hl 0 rfl) ?_
        refine g_vI C hK hl.1 (m_X8_workers l G aM ρ _ h) mw_X8_workers mi_X8_workers ml_X8_67 rfl ⟨rfl, rfl, Nat.le_of_ble_eq_true rfl, Nat.le_of_ble_eq_true rfl⟩ ⟨Nat.zero_le _, Nat.zero_le _⟩ (g_recv (a := aM) (k := 0) hK hM rfl rfl) hM hS (fun _ h => h.elim) rfl (Nat.le_of_ble_eq_true rfl) dX8_goes_19 (fun r3 u H locs h hu _ hq hS => ?_)
        have hM := hM.past hq (fun _ _ h => h)
        refine lv_icmp_ge (tgt := 118) hx hb dX8_goes_22 (by decide) (fun c4 => ?_) (fun c4 => ?_)
        · replace h := h.1 c4
          refine lv_aload_n hx hb dX8_goes_118 rfl (lv_at hl 0 rfl) ?_
          refine g_vV C hK hl.1 (m_X8_works l G aM ρ _ h) mw_X8_works mi_X8_works ml_X8_101 rfl ⟨rfl, rfl, Nat.le_of_ble_eq_true rfl, Nat.le_of_ble_eq_true rfl⟩ ⟨Nat.zero_le _, Nat.zero_le _⟩ (g_recv (a := aM) (k := 0) hK hM rfl rfl) hM hS (fun _ h => h) rfl (Nat.le_of_ble_eq_true rfl) dX8_goes_119 (fun u H locs h hu _ hq hS => ?_)
          obtain ⟨ρ6, rfl⟩ : ∃ z, z = u := ⟨_, rfl⟩
          have hM := hu
          exact g_vret (post := Q) (P' := fun u H => rg G LM aM u H) (u := ρ6) C hr hK hS h hM dX8_goes_122
        · replace h := h.2 c4
          refine lv_aload_n hx hb dX8_goes_25 rfl (lv_at hl 0 rfl) ?_
          refine g_getR (a := aM) (k := 0) (o := 1) C hK hM fl_X8_7 rfl rfl dX8_goes_26 ?_
          refine lv_bipush (v := 28) hx hb dX8_goes_29 (by decide) ?_
          refine lv_bipush (v := 7) hx hb dX8_goes_31 (by decide) ?_
          refine lv_iload_n hx hb dX8_goes_33 rfl (lv_at hl 1 rfl) ?_
          refine lv_imul hx hb dX8_goes_34 ?_
          refine lv_iadd hx hb dX8_goes_35 ?_
          refine lv_iconst (v := 4) hx hb dX8_goes_36 (by decide) ?_
          refine lv_iadd hx hb dX8_goes_37 ?_
          refine lv_dup2_11 hx hb dX8_goes_38 rfl rfl ?_
          obtain ⟨b7, h⟩ := h
          refine g_ald (a := aM) (k := 1) (n := 164) C hK hM rfl b7 dX8_goes_39 ?_
          refine lv_aload_n hx hb dX8_goes_40 rfl (lv_at hl 0 rfl) ?_
          refine lv_iload_n hx hb dX8_goes_41 rfl (lv_at hl 1 rfl) ?_
          refine lv_iconst (v := 2) hx hb dX8_goes_42 (by decide) ?_
          refine g_vI C hK hl.1 (m_X8_of l G aM ρ w1 2 _ h) mw_X8_of mi_X8_of ml_X8_60 rfl ⟨rfl, rfl, Nat.le_of_ble_eq_true rfl, Nat.le_of_ble_eq_true rfl⟩ ⟨Nat.zero_le _, Nat.zero_le _⟩ (g_recv (a := aM) (k := 0) hK hM rfl rfl) hM hS (fun _ h => h.elim) rfl (Nat.le_of_ble_eq_true rfl) dX8_goes_43 (fun r8 u H locs h hu _ hq hS => ?_)
          have hM := hM.past hq (fun _ _ h => h)
          refine lv_if_ne (tgt := 53) hx hb dX8_goes_46 (by decide) (fun c9 => ?_) (fun c9 => ?_)
          · replace h := h.1 c9
            refine lv_iconst (v := 0) hx hb dX8_goes_53 (by decide) ?_
            exact (ih.2) ρ w1 ((28 + (7 * w1)) + 4) (ρ 1 ((28 + (7 * w1)) + 4).toNatClampNeg) 0 _ _ _ hM hS (lv_sub hl [0, 1] rfl) h
          · replace h := h.2 c9
            refine lv_iconst (v := 1) hx hb dX8_goes_49 (by decide) ?_
            refine lv_goto (tgt := 54) hx hb dX8_goes_50 (by decide) ?_
            exact (ih.2) ρ w1 ((28 + (7 * w1)) + 4) (ρ 1 ((28 + (7 * w1)) + 4).toNatClampNeg) 1 _ _ _ hM hS (lv_sub hl [0, 1] rfl) h
      · intro ρ w1 z1 z2 z3 H locs ls hM hS hl h
        replace h : vb_X8_goes_54 Q (vl_X8_goes Q n) ρ w1 z1 z2 z3 := h
        unfold vb_X8_goes_54 at h
        refine lv_iadd hx hb dX8_goes_54 ?_
        obtain ⟨b10, h⟩ := h
        refine g_ast (a := aM) (k := 1) (n := 164) C hK hM hS rfl b10 (RA_in (by decide)) dX8_goes_55 (fun ρ11 H locs eρ11 hM hS hq => ?_)
        specialize h ρ11 eρ11
        refine lv_aload_n hx hb dX8_goes_56 rfl (lv_at hl 0 rfl) ?_
        refine lv_iload_n hx hb dX8_goes_57 rfl (lv_at hl 1 rfl) ?_
        refine lv_iconst (v := 2) hx hb dX8_goes_58 (by decide) ?_
        refine g_vI C hK hl.1 (m_X8_of l G aM ρ11 w1 2 _ h) mw_X8_of mi_X8_of ml_X8_60 rfl ⟨rfl, rfl, Nat.le_of_ble_eq_true rfl, Nat.le_of_ble_eq_true rfl⟩ ⟨Nat.zero_le _, Nat.zero_le _⟩ (g_recv (a := aM) (k := 0) hK hM rfl rfl) hM hS (fun _ h => h.elim) rfl (Nat.le_of_ble_eq_true rfl) dX8_goes_59 (fun r12 u H locs h hu _ hq hS => ?_)
        have hM := hM.past hq (fun _ _ h => h)
        refine lv_if_le (tgt := 112) hx hb dX8_goes_62 (by decide) (fun c13 => ?_) (fun c13 => ?_)
        · replace h := h.1 c13
          obtain ⟨v14, ev14⟩ : ∃ y : Int32, y = w1 + 1 := ⟨_, rfl⟩
          specialize h v14 ev14
          refine lv_iinc (v := v14) (lv' := [(1, .int v14), (0, .ref (aM + 0))]) hx hb dX8_goes_112 hl (k := 1) rfl (by rw [ev14]; rfl) (by decide) rfl (fun ls hl => ?_)
          refine lv_goto (tgt := 17) hx hb dX8_goes_115 (by decide) ?_
          exact (ih.1) ρ11 v14 _ _ _ hM hS (lv_sub hl [1, 0] rfl) h
        · replace h := h.2 c13
          refine lv_aload_n hx hb dX8_goes_65 rfl (lv_at hl 0 rfl) ?_
          refine g_getR (a := aM) (k := 0) (o := 1) C hK hM fl_X8_7 rfl rfl dX8_goes_66 ?_
          refine lv_bipush (v := 28) hx hb dX8_goes_69 (by decide) ?_
          refine lv_bipush (v := 7) hx hb dX8_goes_71 (by decide) ?_
          refine lv_iload_n hx hb dX8_goes_73 rfl (lv_at hl 1 rfl) ?_
          refine lv_imul hx hb dX8_goes_74 ?_
          refine lv_iadd hx hb dX8_goes_75 ?_
          refine lv_iconst (v := 2) hx hb dX8_goes_76 (by decide) ?_
          refine lv_iadd hx hb dX8_goes_77 ?_
          refine lv_dup2_11 hx hb dX8_goes_78 rfl rfl ?_
          obtain ⟨b15, h⟩ := h
          refine g_ald (a := aM) (k := 1) (n := 164) C hK hM rfl b15 dX8_goes_79 ?_
          refine lv_iconst (v := 1) hx hb dX8_goes_80 (by decide) ?_
          refine lv_isub hx hb dX8_goes_81 ?_
          refine g_ast (a := aM) (k := 1) (n := 164) C hK hM hS rfl b15 (RA_in (by decide)) dX8_goes_82 (fun ρ16 H locs eρ16 hM hS hq => ?_)
          specialize h ρ16 eρ16
          refine lv_aload_n hx hb dX8_goes_83 rfl (lv_at hl 0 rfl) ?_
          refine lv_iload_n hx hb dX8_goes_84 rfl (lv_at hl 1 rfl) ?_
          refine lv_iconst (v := 2) hx hb dX8_goes_85 (by decide) ?_
          refine g_vI C hK hl.1 (m_X8_of l G aM ρ16 w1 2 _ h) mw_X8_of mi_X8_of ml_X8_60 rfl ⟨rfl, rfl, Nat.le_of_ble_eq_true rfl, Nat.le_of_ble_eq_true rfl⟩ ⟨Nat.zero_le _, Nat.zero_le _⟩ (g_recv (a := aM) (k := 0) hK hM rfl rfl) hM hS (fun _ h => h.elim) rfl (Nat.le_of_ble_eq_true rfl) dX8_goes_86 (fun r17 u H locs h hu _ hq hS => ?_)
          have hM := hM.past hq (fun _ _ h => h)
          refine lv_if_ne (tgt := 112) hx hb dX8_goes_89 (by decide) (fun c18 => ?_) (fun c18 => ?_)
          · replace h := h.1 c18
            obtain ⟨v19, ev19⟩ : ∃ y : Int32, y = w1 + 1 := ⟨_, rfl⟩
            specialize h v19 ev19
            refine lv_iinc (v := v19) (lv' := [(1, .int v19), (0, .ref (aM + 0))]) hx hb dX8_goes_112 hl (k := 1) rfl (by rw [ev19]; rfl) (by decide) rfl (fun ls hl => ?_)
            refine lv_goto (tgt := 17) hx hb dX8_goes_115 (by decide) ?_
            exact (ih.1) ρ16 v19 _ _ _ hM hS (lv_sub hl [1, 0] rfl) h
          · replace h := h.2 c18
            refine lv_aload_n hx hb dX8_goes_92 rfl (lv_at hl 0 rfl) ?_
            refine g_getR (a := aM) (k := 0) (o := 6) C hK hM fl_X8_25 rfl rfl dX8_goes_93 ?_
            refine lv_aload_n hx hb dX8_goes_96 rfl (lv_at hl 0 rfl) ?_
            refine g_getI (a := aM) (k := 0) C hK hM fl_X8_91 rfl rfl dX8_goes_97 ?_
            refine lv_iload_n hx hb dX8_goes_100 rfl (lv_at hl 1 rfl) ?_
            obtain ⟨b20, h⟩ := h
            refine g_ast (a := aM) (k := 6) (n := 12) C hK hM hS rfl b20 (RA_in (by decide)) dX8_goes_101 (fun ρ21 H locs eρ21 hM hS hq => ?_)
            specialize h ρ21 eρ21
            refine lv_aload_n hx hb dX8_goes_102 rfl (lv_at hl 0 rfl) ?_
            refine lv_dup hx hb dX8_goes_103 rfl ?_
            refine g_getI (a := aM) (k := 0) C hK hM fl_X8_91 rfl rfl dX8_goes_104 ?_
            refine lv_iconst (v := 1) hx hb dX8_goes_107 (by decide) ?_
            refine lv_iadd hx hb dX8_goes_108 ?_
            refine g_put (a := aM) (k := 0) C hK hM hS fl_X8_91 fp_X8_9 rfl rfl (by rfl) (by rfl) (RA_in (by decide)) dX8_goes_109 (fun ρ22 H locs eρ22 hM hS hq => ?_)
            specialize h ρ22 eρ22
            obtain ⟨v23, ev23⟩ : ∃ y : Int32, y = w1 + 1 := ⟨_, rfl⟩
            specialize h v23 ev23
            refine lv_iinc (v := v23) (lv' := [(1, .int v23), (0, .ref (aM + 0))]) hx hb dX8_goes_112 hl (k := 1) rfl (by rw [ev23]; rfl) (by decide) rfl (fun ls hl => ?_)
            refine lv_goto (tgt := 17) hx hb dX8_goes_115 (by decide) ?_
            exact (ih.1) ρ22 v23 _ _ _ hM hS (lv_sub hl [1, 0] rfl) h
  unfold vc_X8_goes at h
  obtain ⟨n, h⟩ := h
  refine lv_aload_n hx hb dX8_goes_0 rfl (lv_at hl 0 rfl) ?_
  refine lv_iconst (v := 0) hx hb dX8_goes_1 (by decide) ?_
  refine g_put (a := aM) (k := 0) C hK hM hS fl_X8_91 fp_X8_9 rfl rfl (by rfl) (by rfl) (RA_in (by decide)) dX8_goes_2 (fun ρ1 H locs eρ1 hM hS hq => ?_)
  specialize h ρ1 eρ1
  refine lv_aload_n hx hb dX8_goes_5 rfl (lv_at hl 0 rfl) ?_
  refine g_getR (a := aM) (k := 0) (o := 1) C hK hM fl_X8_7 rfl rfl dX8_goes_6 ?_
  refine lv_iconst (v := 3) hx hb dX8_goes_9 (by decide) ?_
  refine lv_dup2_11 hx hb dX8_goes_10 rfl rfl ?_
  refine g_ald (a := aM) (k := 1) (n := 164) C hK hM rfl (vp_dec (by decide)) dX8_goes_11 ?_
  refine lv_iconst (v := 1) hx hb dX8_goes_12 (by decide) ?_
  refine lv_iadd hx hb dX8_goes_13 ?_
  refine g_ast (a := aM) (k := 1) (n := 164) C hK hM hS rfl (vp_dec (by decide)) (RA_in (by decide)) dX8_goes_14 (fun ρ2 H locs eρ2 hM hS hq => ?_)
  specialize h ρ2 eρ2
  refine lv_iconst (v := 0) hx hb dX8_goes_15 (by decide) ?_
  refine lv_istore_n (lv' := [(1, .int 0), (0, .ref (aM + 0))]) hx hb dX8_goes_16 rfl hl (by decide) rfl (fun ls hl => ?_)
  exact ((K n).1) ρ2 0 _ _ _ hM hS (lv_sub hl [1, 0] rfl) h
theorem dX8_pass_0 : decode cX8_pass 0 = .ok (.iload_n 1, 1) := by decide +kernel
theorem dX8_pass_1 : decode cX8_pass 1 = .ok (.iconst 1, 1) := by decide +kernel
theorem dX8_pass_2 : decode cX8_pass 2 = .ok (.sipush 600, 3) := by decide +kernel
theorem dX8_pass_5 : decode cX8_pass 5 = .ok (.invokestatic 43, 3) := by decide +kernel
theorem dX8_pass_8 : decode cX8_pass 8 = .ok (.ifCond .ne 6, 3) := by decide +kernel
theorem dX8_pass_11 : decode cX8_pass 11 = .ok (.ldc 59, 2) := by decide +kernel
theorem dX8_pass_13 : decode cX8_pass 13 = .ok (.ireturn, 1) := by decide +kernel
theorem dX8_pass_14 : decode cX8_pass 14 = .ok (.aload_n 0, 1) := by decide +kernel
theorem dX8_pass_15 : decode cX8_pass 15 = .ok (.getfield 7, 3) := by decide +kernel
theorem dX8_pass_18 : decode cX8_pass 18 = .ok (.iconst 3, 1) := by decide +kernel
theorem dX8_pass_19 : decode cX8_pass 19 = .ok (.iaload, 1) := by decide +kernel
theorem dX8_pass_20 : decode cX8_pass 20 = .ok (.iload_n 1, 1) := by decide +kernel
theorem dX8_pass_21 : decode cX8_pass 21 = .ok (.iadd, 1) := by decide +kernel
theorem dX8_pass_22 : decode cX8_pass 22 = .ok (.sipush 9999, 3) := by decide +kernel
theorem dX8_pass_25 : decode cX8_pass 25 = .ok (.if_icmp .le 6, 3) := by decide +kernel
theorem dX8_pass_28 : decode cX8_pass 28 = .ok (.ldc 51, 2) := by decide +kernel
theorem dX8_pass_30 : decode cX8_pass 30 = .ok (.ireturn, 1) := by decide +kernel
theorem dX8_pass_31 : decode cX8_pass 31 = .ok (.aload_n 0, 1) := by decide +kernel
theorem dX8_pass_32 : decode cX8_pass 32 = .ok (.invokevirtual 52, 3) := by decide +kernel
theorem dX8_pass_35 : decode cX8_pass 35 = .ok (.aload_n 0, 1) := by decide +kernel
theorem dX8_pass_36 : decode cX8_pass 36 = .ok (.getfield 7, 3) := by decide +kernel
theorem dX8_pass_39 : decode cX8_pass 39 = .ok (.iconst 4, 1) := by decide +kernel
theorem dX8_pass_40 : decode cX8_pass 40 = .ok (.iaload, 1) := by decide +kernel
theorem dX8_pass_41 : decode cX8_pass 41 = .ok (.istore_n 2, 1) := by decide +kernel
theorem dX8_pass_42 : decode cX8_pass 42 = .ok (.iconst 0, 1) := by decide +kernel
theorem dX8_pass_43 : decode cX8_pass 43 = .ok (.istore_n 3, 1) := by decide +kernel
theorem dX8_pass_44 : decode cX8_pass 44 = .ok (.iload_n 3, 1) := by decide +kernel
theorem dX8_pass_45 : decode cX8_pass 45 = .ok (.iload_n 1, 1) := by decide +kernel
theorem dX8_pass_46 : decode cX8_pass 46 = .ok (.if_icmp .ge 13, 3) := by decide +kernel
theorem dX8_pass_49 : decode cX8_pass 49 = .ok (.aload_n 0, 1) := by decide +kernel
theorem dX8_pass_50 : decode cX8_pass 50 = .ok (.invokevirtual 107, 3) := by decide +kernel
theorem dX8_pass_53 : decode cX8_pass 53 = .ok (.iinc 3 1, 3) := by decide +kernel
theorem dX8_pass_56 : decode cX8_pass 56 = .ok (.goto (-12), 3) := by decide +kernel
theorem dX8_pass_59 : decode cX8_pass 59 = .ok (.aload_n 0, 1) := by decide +kernel
theorem dX8_pass_60 : decode cX8_pass 60 = .ok (.getfield 7, 3) := by decide +kernel
theorem dX8_pass_63 : decode cX8_pass 63 = .ok (.iconst 4, 1) := by decide +kernel
theorem dX8_pass_64 : decode cX8_pass 64 = .ok (.iaload, 1) := by decide +kernel
theorem dX8_pass_65 : decode cX8_pass 65 = .ok (.iload_n 2, 1) := by decide +kernel
theorem dX8_pass_66 : decode cX8_pass 66 = .ok (.isub, 1) := by decide +kernel
theorem dX8_pass_67 : decode cX8_pass 67 = .ok (.ireturn, 1) := by decide +kernel
def vb_X8_pass_44 (Q : Int32 → Mem → Prop) (rec : Nat → Mem → Int32 → Int32 → Int32 → Prop) (ρ : Mem) (w1 : Int32) (w2 : Int32) (w3 : Int32) : Prop :=
  ((w1 ≤ w3) → ((Q ((ρ 1 (4 : Int32).toNatClampNeg) - w2) ρ))) ∧ ((¬ w1 ≤ w3) → (vc_X8_goes (fun ρ9 => ∀ v10 : Int32, v10 = w3 + 1 → (rec 0 ρ9 w1 w2 v10)) ρ))
def vl_X8_pass (Q : Int32 → Mem → Prop) : Nat → Nat → Mem → Int32 → Int32 → Int32 → Prop
  | 0, _, _, _, _, _ => False
  | n + 1, 0, ρ, w1, w2, w3 => vb_X8_pass_44 Q (vl_X8_pass Q n) ρ w1 w2 w3
  | _ + 1, _, _, _, _, _ => False
def vc_X8_pass (Q : Int32 → Mem → Prop) (ρ : Mem) (x1 : Int32) : Prop :=
  ∃ n : Nat, vc_X8_in (fun r1 => ((¬ r1 = 0) → ((((((ρ 1 (3 : Int32).toNatClampNeg) + x1) ≤ 9999) → (vc_X8_changes (fun ρ5 => (∀ v6 : Int32, v6 = (ρ5 1 (4 : Int32).toNatClampNeg) → (vl_X8_pass Q n 0 ρ5 x1 v6 0))) ρ)) ∧ ((¬ ((ρ 1 (3 : Int32).toNatClampNeg) + x1) ≤ 9999) → (Q (-1000003) ρ))))) ∧ ((r1 = 0) → (Q (-1000001) ρ))) x1 1 600
set_option maxHeartbeats 8000000 in
set_option maxRecDepth 100000 in
theorem m_X8_pass (l : Launch) (G : GG) (aM : Nat) (ρ : Mem) (x1 : Int32) (Q : Int32 → Mem → Prop) (h : vc_X8_pass Q ρ x1) : CtI l yX8_pass cX8_pass 4 (some .int) { frames := 4, cells := 0, slots := 0, locals := 90 } [.ref (aM + 0), .int x1] G (fun H => rg G LM aM ρ H) (Q) (fun u H => rg G LM aM u H) (RA aM 8) := by
  unfold CtI
  refine met_start (y := yX8_pass) (maxL := 4) (av := [.ref (aM + 0), .int x1]) (G := G) (P := fun H => rg G LM aM ρ H) (by decide) rfl (Nat.le_of_ble_eq_true rfl) (fun p e s m below meth c ls C hr hP hK hl => ?_)
  obtain ⟨hx, hb, hml, hown, hts, hlocks⟩ := id C
  have hM : rg G LM aM ρ s.heap := hP
  have hS : va_S (RA aM 8) s.heap s.heap [] := va_S.rf
  have hl : lv_has ls 4 [(0, .ref (aM + 0)), (1, .int x1)] := hl
  have K : ∀ n : Nat, (∀ (ρ : Mem) (w1 : Int32) (w2 : Int32) (w3 : Int32) (H : Heap) (locs : List Loc) (ls : Array Slot), rg G LM aM ρ H → va_S (RA aM 8) s.heap H locs → lv_has ls 4 [(0, .ref (aM + 0)), (1, .int w1), (2, .int w2), (3, .int w3)] → vl_X8_pass Q n 0 ρ w1 w2 w3 → W p l e { frames := 4, cells := 0, slots := 0, locals := 90 } s m [.ref (aM + 0), .int x1].toArray below meth c H locs 0 0 (MQ below (va_Qi (Q) (fun u t => (fun u H => rg G LM aM u H) u t.heap ∧ KK G t) (RA aM 8)) [.ref (aM + 0), .int x1].toArray s 0 0 (RA aM 8)) (F0 m 44 ls [])) := by
    intro n
    induction n with
    | zero => exact fun _ _ _ _ _ _ _ _ _ _ h => h.elim
    | succ n ih =>
      · intro ρ w1 w2 w3 H locs ls hM hS hl h
        replace h : vb_X8_pass_44 Q (vl_X8_pass Q n) ρ w1 w2 w3 := h
        unfold vb_X8_pass_44 at h
        refine lv_iload_n hx hb dX8_pass_44 rfl (lv_at hl 3 rfl) ?_
        refine lv_iload_n hx hb dX8_pass_45 rfl (lv_at hl 1 rfl) ?_
        refine lv_icmp_ge (tgt := 59) hx hb dX8_pass_46 (by decide) (fun c7 => ?_) (fun c7 => ?_)
        · replace h := h.1 c7
          refine lv_aload_n hx hb dX8_pass_59 rfl (lv_at hl 0 rfl) ?_
          refine g_getR (a := aM) (k := 0) (o := 1) C hK hM fl_X8_7 rfl rfl dX8_pass_60 ?_
          refine lv_iconst (v := 4) hx hb dX8_pass_63 (by decide) ?_
          refine g_ald (a := aM) (k := 1) (n := 164) C hK hM rfl (vp_dec (by decide)) dX8_pass_64 ?_
          refine lv_iload_n hx hb dX8_pass_65 rfl (lv_at hl 2 rfl) ?_
          refine lv_isub hx hb dX8_pass_66 ?_
          exact g_iret (post := Q) (P' := fun u H => rg G LM aM u H) (r := ((ρ 1 (4 : Int32).toNatClampNeg) - w2)) (u := ρ) C hr hK hS h hM dX8_pass_67
        · replace h := h.2 c7
          refine lv_aload_n hx hb dX8_pass_49 rfl (lv_at hl 0 rfl) ?_
          refine g_vV C hK hl.1 (m_X8_goes l G aM ρ _ h) mw_X8_goes mi_X8_goes ml_X8_107 rfl ⟨rfl, rfl, Nat.le_of_ble_eq_true rfl, Nat.le_of_ble_eq_true rfl⟩ ⟨Nat.zero_le _, Nat.zero_le _⟩ (g_recv (a := aM) (k := 0) hK hM rfl rfl) hM hS (fun _ h => h) rfl (Nat.le_of_ble_eq_true rfl) dX8_pass_50 (fun u H locs h hu _ hq hS => ?_)
          obtain ⟨ρ9, rfl⟩ : ∃ z, z = u := ⟨_, rfl⟩
          have hM := hu
          obtain ⟨v10, ev10⟩ : ∃ y : Int32, y = w3 + 1 := ⟨_, rfl⟩
          specialize h v10 ev10
          refine lv_iinc (v := v10) (lv' := [(3, .int v10), (0, .ref (aM + 0)), (1, .int w1), (2, .int w2)]) hx hb dX8_pass_53 hl (k := 3) rfl (by rw [ev10]; rfl) (by decide) rfl (fun ls hl => ?_)
          refine lv_goto (tgt := 44) hx hb dX8_pass_56 (by decide) ?_
          exact (ih) ρ9 w1 w2 v10 _ _ _ hM hS (lv_sub hl [1, 2, 3, 0] rfl) h
  unfold vc_X8_pass at h
  obtain ⟨n, h⟩ := h
  refine lv_iload_n hx hb dX8_pass_0 rfl (lv_at hl 1 rfl) ?_
  refine lv_iconst (v := 1) hx hb dX8_pass_1 (by decide) ?_
  refine lv_sipush (v := 600) hx hb dX8_pass_2 (by decide) ?_
  refine g_sI C hK hl.1 (m_X8_in l G x1 1 600 _ h) mw_X8_in ms_X8_in ml_X8_43 rfl ⟨rfl, rfl, Nat.le_of_ble_eq_true rfl, Nat.le_of_ble_eq_true rfl⟩ ⟨Nat.zero_le _, Nat.zero_le _⟩ trivial hS (fun _ h => h.elim) rfl (Nat.le_of_ble_eq_true rfl) dX8_pass_5 (fun r1 u H locs h hu _ hq hS => ?_)
  have hM := hM.past hq (fun _ _ h => h)
  refine lv_if_ne (tgt := 14) hx hb dX8_pass_8 (by decide) (fun c2 => ?_) (fun c2 => ?_)
  · replace h := h.1 c2
    refine lv_aload_n hx hb dX8_pass_14 rfl (lv_at hl 0 rfl) ?_
    refine g_getR (a := aM) (k := 0) (o := 1) C hK hM fl_X8_7 rfl rfl dX8_pass_15 ?_
    refine lv_iconst (v := 3) hx hb dX8_pass_18 (by decide) ?_
    refine g_ald (a := aM) (k := 1) (n := 164) C hK hM rfl (vp_dec (by decide)) dX8_pass_19 ?_
    refine lv_iload_n hx hb dX8_pass_20 rfl (lv_at hl 1 rfl) ?_
    refine lv_iadd hx hb dX8_pass_21 ?_
    refine lv_sipush (v := 9999) hx hb dX8_pass_22 (by decide) ?_
    refine lv_icmp_le (tgt := 31) hx hb dX8_pass_25 (by decide) (fun c3 => ?_) (fun c3 => ?_)
    · replace h := h.1 c3
      refine lv_aload_n hx hb dX8_pass_31 rfl (lv_at hl 0 rfl) ?_
      refine g_vV C hK hl.1 (m_X8_changes l G aM ρ _ h) mw_X8_changes mi_X8_changes ml_X8_52 rfl ⟨rfl, rfl, Nat.le_of_ble_eq_true rfl, Nat.le_of_ble_eq_true rfl⟩ ⟨Nat.zero_le _, Nat.zero_le _⟩ (g_recv (a := aM) (k := 0) hK hM rfl rfl) hM hS (fun _ h => h) rfl (Nat.le_of_ble_eq_true rfl) dX8_pass_32 (fun u H locs h hu _ hq hS => ?_)
      obtain ⟨ρ5, rfl⟩ : ∃ z, z = u := ⟨_, rfl⟩
      have hM := hu
      refine lv_aload_n hx hb dX8_pass_35 rfl (lv_at hl 0 rfl) ?_
      refine g_getR (a := aM) (k := 0) (o := 1) C hK hM fl_X8_7 rfl rfl dX8_pass_36 ?_
      refine lv_iconst (v := 4) hx hb dX8_pass_39 (by decide) ?_
      refine g_ald (a := aM) (k := 1) (n := 164) C hK hM rfl (vp_dec (by decide)) dX8_pass_40 ?_
      refine lv_topi (fun v6 ev6 => ?_)
      specialize h v6 ev6
      refine lv_istore_n (lv' := [(2, .int v6), (0, .ref (aM + 0)), (1, .int x1)]) hx hb dX8_pass_41 rfl hl (by decide) rfl (fun ls hl => ?_)
      refine lv_iconst (v := 0) hx hb dX8_pass_42 (by decide) ?_
      refine lv_istore_n (lv' := [(3, .int 0), (2, .int v6), (0, .ref (aM + 0)), (1, .int x1)]) hx hb dX8_pass_43 rfl hl (by decide) rfl (fun ls hl => ?_)
      exact ((K n)) ρ5 x1 v6 0 _ _ _ hM hS (lv_sub hl [2, 3, 1, 0] rfl) h
    · replace h := h.2 c3
      refine g_ldc C kc_X8_51 dX8_pass_28 ?_
      exact g_iret (post := Q) (P' := fun u H => rg G LM aM u H) (r := (-1000003)) (u := ρ) C hr hK hS h hM dX8_pass_30
  · replace h := h.2 c2
    refine g_ldc C kc_X8_59 dX8_pass_11 ?_
    exact g_iret (post := Q) (P' := fun u H => rg G LM aM u H) (r := (-1000001)) (u := ρ) C hr hK hS h hM dX8_pass_13
theorem dX8_outs_0 : decode cX8_outs 0 = .ok (.iconst 0, 1) := by decide +kernel
theorem dX8_outs_1 : decode cX8_outs 1 = .ok (.istore_n 2, 1) := by decide +kernel
theorem dX8_outs_2 : decode cX8_outs 2 = .ok (.iconst 3, 1) := by decide +kernel
theorem dX8_outs_3 : decode cX8_outs 3 = .ok (.iload_n 1, 1) := by decide +kernel
theorem dX8_outs_4 : decode cX8_outs 4 = .ok (.imul, 1) := by decide +kernel
theorem dX8_outs_5 : decode cX8_outs 5 = .ok (.istore_n 3, 1) := by decide +kernel
theorem dX8_outs_6 : decode cX8_outs 6 = .ok (.iload_n 3, 1) := by decide +kernel
theorem dX8_outs_7 : decode cX8_outs 7 = .ok (.iconst 3, 1) := by decide +kernel
theorem dX8_outs_8 : decode cX8_outs 8 = .ok (.iload_n 1, 1) := by decide +kernel
theorem dX8_outs_9 : decode cX8_outs 9 = .ok (.imul, 1) := by decide +kernel
theorem dX8_outs_10 : decode cX8_outs 10 = .ok (.iconst 3, 1) := by decide +kernel
theorem dX8_outs_11 : decode cX8_outs 11 = .ok (.iadd, 1) := by decide +kernel
theorem dX8_outs_12 : decode cX8_outs 12 = .ok (.if_icmp .ge 26, 3) := by decide +kernel
theorem dX8_outs_15 : decode cX8_outs 15 = .ok (.iload_n 2, 1) := by decide +kernel
theorem dX8_outs_16 : decode cX8_outs 16 = .ok (.aload_n 0, 1) := by decide +kernel
theorem dX8_outs_17 : decode cX8_outs 17 = .ok (.iload_n 3, 1) := by decide +kernel
theorem dX8_outs_18 : decode cX8_outs 18 = .ok (.iconst 2, 1) := by decide +kernel
theorem dX8_outs_19 : decode cX8_outs 19 = .ok (.invokevirtual 60, 3) := by decide +kernel
theorem dX8_outs_22 : decode cX8_outs 22 = .ok (.ifCond .ne 7, 3) := by decide +kernel
theorem dX8_outs_25 : decode cX8_outs 25 = .ok (.iconst 1, 1) := by decide +kernel
theorem dX8_outs_26 : decode cX8_outs 26 = .ok (.goto 4, 3) := by decide +kernel
theorem dX8_outs_29 : decode cX8_outs 29 = .ok (.iconst 0, 1) := by decide +kernel
theorem dX8_outs_30 : decode cX8_outs 30 = .ok (.iadd, 1) := by decide +kernel
theorem dX8_outs_31 : decode cX8_outs 31 = .ok (.istore_n 2, 1) := by decide +kernel
theorem dX8_outs_32 : decode cX8_outs 32 = .ok (.iinc 3 1, 3) := by decide +kernel
theorem dX8_outs_35 : decode cX8_outs 35 = .ok (.goto (-29), 3) := by decide +kernel
theorem dX8_outs_38 : decode cX8_outs 38 = .ok (.iload_n 2, 1) := by decide +kernel
theorem dX8_outs_39 : decode cX8_outs 39 = .ok (.ireturn, 1) := by decide +kernel
def vb_X8_outs_6 (Q : Int32 → Prop) (ρ : Mem) (rec : Nat → Int32 → Int32 → Int32 → Prop) (w1 : Int32) (w2 : Int32) (w3 : Int32) : Prop :=
  ((((3 * w1) + 3) ≤ w3) → (Q w2 )) ∧ ((¬ ((3 * w1) + 3) ≤ w3) → (vc_X8_of (fun r3 => ((¬ r3 = 0) → (∀ v5 : Int32, v5 = (w2 + 0) → (∀ v6 : Int32, v6 = w3 + 1 → (rec 0 w1 v5 v6)))) ∧ ((r3 = 0) → (∀ v7 : Int32, v7 = (w2 + 1) → (∀ v8 : Int32, v8 = w3 + 1 → (rec 0 w1 v7 v8))))) ρ w3 2))
def vl_X8_outs (Q : Int32 → Prop) (ρ : Mem) : Nat → Nat → Int32 → Int32 → Int32 → Prop
  | 0, _, _, _, _ => False
  | n + 1, 0, w1, w2, w3 => vb_X8_outs_6 Q ρ (vl_X8_outs Q ρ n) w1 w2 w3
  | _ + 1, _, _, _, _ => False
def vc_X8_outs (Q : Int32 → Prop) (ρ : Mem) (x1 : Int32) : Prop :=
  ∃ n : Nat, ∀ v1 : Int32, v1 = (3 * x1) → (vl_X8_outs Q ρ n 0 x1 0 v1)
set_option maxHeartbeats 8000000 in
set_option maxRecDepth 100000 in
theorem m_X8_outs (l : Launch) (G : GG) (aM : Nat) (ρ : Mem) (x1 : Int32) (Q : Int32 → Prop) (h : vc_X8_outs Q ρ x1) : CtI l yX8_outs cX8_outs 4 (some .int) { frames := 1, cells := 0, slots := 0, locals := 22 } [.ref (aM + 0), .int x1] G (fun H => rg G LM aM ρ H) (fun r (_ : Unit) => Q r) (fun _ _ => True) (fun _ => False) := by
  unfold CtI
  refine met_start (y := yX8_outs) (maxL := 4) (av := [.ref (aM + 0), .int x1]) (G := G) (P := fun H => rg G LM aM ρ H) (by decide) rfl (Nat.le_of_ble_eq_true rfl) (fun p e s m below meth c ls C hr hP hK hl => ?_)
  obtain ⟨hx, hb, hml, hown, hts, hlocks⟩ := id C
  have hM : rg G LM aM ρ s.heap := hP
  have hS : va_S (fun _ => False) s.heap s.heap [] := va_S.rf
  have hl : lv_has ls 4 [(0, .ref (aM + 0)), (1, .int x1)] := hl
  have K : ∀ n : Nat, (∀ (w1 : Int32) (w2 : Int32) (w3 : Int32) (H : Heap) (locs : List Loc) (ls : Array Slot), rg G LM aM ρ H → va_S (fun _ => False) s.heap H locs → lv_has ls 4 [(0, .ref (aM + 0)), (1, .int w1), (2, .int w2), (3, .int w3)] → vl_X8_outs Q ρ n 0 w1 w2 w3 → W p l e { frames := 1, cells := 0, slots := 0, locals := 22 } s m [.ref (aM + 0), .int x1].toArray below meth c H locs 0 0 (MQ below (va_Qi (fun r (_ : Unit) => Q r) (fun u t => (fun _ _ => True) u t.heap ∧ KK G t) (fun _ => False)) [.ref (aM + 0), .int x1].toArray s 0 0 (fun _ => False)) (F0 m 6 ls [])) := by
    intro n
    induction n with
    | zero => exact fun _ _ _ _ _ _ _ _ _ h => h.elim
    | succ n ih =>
      · intro w1 w2 w3 H locs ls hM hS hl h
        replace h : vb_X8_outs_6 Q ρ (vl_X8_outs Q ρ n) w1 w2 w3 := h
        unfold vb_X8_outs_6 at h
        refine lv_iload_n hx hb dX8_outs_6 rfl (lv_at hl 3 rfl) ?_
        refine lv_iconst (v := 3) hx hb dX8_outs_7 (by decide) ?_
        refine lv_iload_n hx hb dX8_outs_8 rfl (lv_at hl 1 rfl) ?_
        refine lv_imul hx hb dX8_outs_9 ?_
        refine lv_iconst (v := 3) hx hb dX8_outs_10 (by decide) ?_
        refine lv_iadd hx hb dX8_outs_11 ?_
        refine lv_icmp_ge (tgt := 38) hx hb dX8_outs_12 (by decide) (fun c2 => ?_) (fun c2 => ?_)
        · replace h := h.1 c2
          refine lv_iload_n hx hb dX8_outs_38 rfl (lv_at hl 2 rfl) ?_
          exact g_iret (post := fun r (_ : Unit) => Q r) (P' := fun _ _ => True) (r := w2) (u := ()) C hr hK hS h trivial dX8_outs_39
        · replace h := h.2 c2
          refine lv_iload_n hx hb dX8_outs_15 rfl (lv_at hl 2 rfl) ?_
          refine lv_aload_n hx hb dX8_outs_16 rfl (lv_at hl 0 rfl) ?_
          refine lv_iload_n hx hb dX8_outs_17 rfl (lv_at hl 3 rfl) ?_
          refine lv_iconst (v := 2) hx hb dX8_outs_18 (by decide) ?_
          refine g_vI C hK hl.1 (m_X8_of l G aM ρ w3 2 _ h) mw_X8_of mi_X8_of ml_X8_60 rfl ⟨rfl, rfl, Nat.le_of_ble_eq_true rfl, Nat.le_of_ble_eq_true rfl⟩ ⟨Nat.zero_le _, Nat.zero_le _⟩ (g_recv (a := aM) (k := 0) hK hM rfl rfl) hM hS (fun _ h => h.elim) rfl (Nat.le_of_ble_eq_true rfl) dX8_outs_19 (fun r3 u H locs h hu _ hq hS => ?_)
          have hM := hM.past hq (fun _ _ h => h)
          refine lv_if_ne (tgt := 29) hx hb dX8_outs_22 (by decide) (fun c4 => ?_) (fun c4 => ?_)
          · replace h := h.1 c4
            refine lv_iconst (v := 0) hx hb dX8_outs_29 (by decide) ?_
            refine lv_iadd hx hb dX8_outs_30 ?_
            refine lv_topi (fun v5 ev5 => ?_)
            specialize h v5 ev5
            refine lv_istore_n (lv' := [(2, .int v5), (0, .ref (aM + 0)), (1, .int w1), (3, .int w3)]) hx hb dX8_outs_31 rfl hl (by decide) rfl (fun ls hl => ?_)
            obtain ⟨v6, ev6⟩ : ∃ y : Int32, y = w3 + 1 := ⟨_, rfl⟩
            specialize h v6 ev6
            refine lv_iinc (v := v6) (lv' := [(3, .int v6), (2, .int v5), (0, .ref (aM + 0)), (1, .int w1)]) hx hb dX8_outs_32 hl (k := 3) rfl (by rw [ev6]; rfl) (by decide) rfl (fun ls hl => ?_)
            refine lv_goto (tgt := 6) hx hb dX8_outs_35 (by decide) ?_
            exact (ih) w1 v5 v6 _ _ _ hM hS (lv_sub hl [2, 3, 1, 0] rfl) h
          · replace h := h.2 c4
            refine lv_iconst (v := 1) hx hb dX8_outs_25 (by decide) ?_
            refine lv_goto (tgt := 30) hx hb dX8_outs_26 (by decide) ?_
            refine lv_iadd hx hb dX8_outs_30 ?_
            refine lv_topi (fun v7 ev7 => ?_)
            specialize h v7 ev7
            refine lv_istore_n (lv' := [(2, .int v7), (0, .ref (aM + 0)), (1, .int w1), (3, .int w3)]) hx hb dX8_outs_31 rfl hl (by decide) rfl (fun ls hl => ?_)
            obtain ⟨v8, ev8⟩ : ∃ y : Int32, y = w3 + 1 := ⟨_, rfl⟩
            specialize h v8 ev8
            refine lv_iinc (v := v8) (lv' := [(3, .int v8), (2, .int v7), (0, .ref (aM + 0)), (1, .int w1)]) hx hb dX8_outs_32 hl (k := 3) rfl (by rw [ev8]; rfl) (by decide) rfl (fun ls hl => ?_)
            refine lv_goto (tgt := 6) hx hb dX8_outs_35 (by decide) ?_
            exact (ih) w1 v7 v8 _ _ _ hM hS (lv_sub hl [2, 3, 1, 0] rfl) h
  unfold vc_X8_outs at h
  obtain ⟨n, h⟩ := h
  refine lv_iconst (v := 0) hx hb dX8_outs_0 (by decide) ?_
  refine lv_istore_n (lv' := [(2, .int 0), (0, .ref (aM + 0)), (1, .int x1)]) hx hb dX8_outs_1 rfl hl (by decide) rfl (fun ls hl => ?_)
  refine lv_iconst (v := 3) hx hb dX8_outs_2 (by decide) ?_
  refine lv_iload_n hx hb dX8_outs_3 rfl (lv_at hl 2 rfl) ?_
  refine lv_imul hx hb dX8_outs_4 ?_
  refine lv_topi (fun v1 ev1 => ?_)
  specialize h v1 ev1
  refine lv_istore_n (lv' := [(3, .int v1), (2, .int 0), (0, .ref (aM + 0)), (1, .int x1)]) hx hb dX8_outs_5 rfl hl (by decide) rfl (fun ls hl => ?_)
  exact ((K n)) x1 0 v1 _ _ _ hM hS (lv_sub hl [2, 3, 1, 0] rfl) h
