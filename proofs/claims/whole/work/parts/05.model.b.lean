theorem dX8_size_0 : decode cX8_size 0 = .ok (.aload_n 0, 1) := by decide +kernel
theorem dX8_size_1 : decode cX8_size 1 = .ok (.iload_n 1, 1) := by decide +kernel
theorem dX8_size_2 : decode cX8_size 2 = .ok (.iload_n 2, 1) := by decide +kernel
theorem dX8_size_3 : decode cX8_size 3 = .ok (.invokevirtual 55, 3) := by decide +kernel
theorem dX8_size_6 : decode cX8_size 6 = .ok (.ifCond .eq 14, 3) := by decide +kernel
theorem dX8_size_9 : decode cX8_size 9 = .ok (.iload_n 3, 1) := by decide +kernel
theorem dX8_size_10 : decode cX8_size 10 = .ok (.iconst 5, 1) := by decide +kernel
theorem dX8_size_11 : decode cX8_size 11 = .ok (.sipush 300, 3) := by decide +kernel
theorem dX8_size_14 : decode cX8_size 14 = .ok (.invokestatic 43, 3) := by decide +kernel
theorem dX8_size_17 : decode cX8_size 17 = .ok (.ifCond .ne 6, 3) := by decide +kernel
theorem dX8_size_20 : decode cX8_size 20 = .ok (.ldc 59, 2) := by decide +kernel
theorem dX8_size_22 : decode cX8_size 22 = .ok (.ireturn, 1) := by decide +kernel
theorem dX8_size_23 : decode cX8_size 23 = .ok (.iconst 3, 1) := by decide +kernel
theorem dX8_size_24 : decode cX8_size 24 = .ok (.iload_n 1, 1) := by decide +kernel
theorem dX8_size_25 : decode cX8_size 25 = .ok (.imul, 1) := by decide +kernel
theorem dX8_size_26 : decode cX8_size 26 = .ok (.iload_n 2, 1) := by decide +kernel
theorem dX8_size_27 : decode cX8_size 27 = .ok (.iadd, 1) := by decide +kernel
theorem dX8_size_28 : decode cX8_size 28 = .ok (.istore 4, 2) := by decide +kernel
theorem dX8_size_30 : decode cX8_size 30 = .ok (.aload_n 0, 1) := by decide +kernel
theorem dX8_size_31 : decode cX8_size 31 = .ok (.iload 4, 2) := by decide +kernel
theorem dX8_size_33 : decode cX8_size 33 = .ok (.iconst 2, 1) := by decide +kernel
theorem dX8_size_34 : decode cX8_size 34 = .ok (.invokevirtual 60, 3) := by decide +kernel
theorem dX8_size_37 : decode cX8_size 37 = .ok (.ifCond .le 6, 3) := by decide +kernel
theorem dX8_size_40 : decode cX8_size 40 = .ok (.ldc 63, 2) := by decide +kernel
theorem dX8_size_42 : decode cX8_size 42 = .ok (.ireturn, 1) := by decide +kernel
theorem dX8_size_43 : decode cX8_size 43 = .ok (.aload_n 0, 1) := by decide +kernel
theorem dX8_size_44 : decode cX8_size 44 = .ok (.invokevirtual 52, 3) := by decide +kernel
theorem dX8_size_47 : decode cX8_size 47 = .ok (.aload_n 0, 1) := by decide +kernel
theorem dX8_size_48 : decode cX8_size 48 = .ok (.iload 4, 2) := by decide +kernel
theorem dX8_size_50 : decode cX8_size 50 = .ok (.iconst 0, 1) := by decide +kernel
theorem dX8_size_51 : decode cX8_size 51 = .ok (.invokevirtual 60, 3) := by decide +kernel
theorem dX8_size_54 : decode cX8_size 54 = .ok (.istore 5, 2) := by decide +kernel
theorem dX8_size_56 : decode cX8_size 56 = .ok (.aload_n 0, 1) := by decide +kernel
theorem dX8_size_57 : decode cX8_size 57 = .ok (.getfield 7, 3) := by decide +kernel
theorem dX8_size_60 : decode cX8_size 60 = .ok (.bipush 28, 2) := by decide +kernel
theorem dX8_size_62 : decode cX8_size 62 = .ok (.bipush 7, 2) := by decide +kernel
theorem dX8_size_64 : decode cX8_size 64 = .ok (.iload 4, 2) := by decide +kernel
theorem dX8_size_66 : decode cX8_size 66 = .ok (.imul, 1) := by decide +kernel
theorem dX8_size_67 : decode cX8_size 67 = .ok (.iadd, 1) := by decide +kernel
theorem dX8_size_68 : decode cX8_size 68 = .ok (.iconst 0, 1) := by decide +kernel
theorem dX8_size_69 : decode cX8_size 69 = .ok (.iadd, 1) := by decide +kernel
theorem dX8_size_70 : decode cX8_size 70 = .ok (.iload_n 3, 1) := by decide +kernel
theorem dX8_size_71 : decode cX8_size 71 = .ok (.iastore, 1) := by decide +kernel
theorem dX8_size_72 : decode cX8_size 72 = .ok (.iload 5, 2) := by decide +kernel
theorem dX8_size_74 : decode cX8_size 74 = .ok (.ireturn, 1) := by decide +kernel
def vc_X8_size (Q : Int32 → Mem → Prop) (ρ : Mem) (x1 : Int32) (x2 : Int32) (x3 : Int32) : Prop :=
  vc_X8_isWorker (fun r1 => ((r1 = 0) → (Q (-1000001) ρ)) ∧ ((¬ r1 = 0) → (vc_X8_in (fun r3 => ((¬ r3 = 0) → (∀ v5 : Int32, v5 = ((3 * x1) + x2) → (vc_X8_of (fun r6 => ((r6 ≤ 0) → (vc_X8_changes (fun ρ9 => vc_X8_of (fun r10 => vp_in ((28 + (7 * v5)) + 0) 164 ∧ (∀ ρ12 : Mem, ρ12 = up ρ9 1 ((28 + (7 * v5)) + 0).toNatClampNeg x3 → (Q r10 ρ12))) ρ9 v5 0) ρ)) ∧ ((¬ r6 ≤ 0) → (Q (-1000002) ρ))) ρ v5 2))) ∧ ((r3 = 0) → (Q (-1000001) ρ))) x3 5 300))) ρ x1 x2
set_option maxHeartbeats 8000000 in
set_option maxRecDepth 100000 in
theorem m_X8_size (l : Launch) (G : GG) (aM : Nat) (ρ : Mem) (x1 : Int32) (x2 : Int32) (x3 : Int32) (Q : Int32 → Mem → Prop) (h : vc_X8_size Q ρ x1 x2 x3) : CtI l yX8_size cX8_size 6 (some .int) { frames := 2, cells := 0, slots := 0, locals := 44 } [.ref (aM + 0), .int x1, .int x2, .int x3] G (fun H => rg G LM aM ρ H) (Q) (fun u H => rg G LM aM u H) (RA aM 8) := by
  unfold CtI
  refine met_start (y := yX8_size) (maxL := 6) (av := [.ref (aM + 0), .int x1, .int x2, .int x3]) (G := G) (P := fun H => rg G LM aM ρ H) (by decide) rfl (Nat.le_of_ble_eq_true rfl) (fun p e s m below meth c ls C hr hP hK hl => ?_)
  obtain ⟨hx, hb, hml, hown, hts, hlocks⟩ := id C
  have hM : rg G LM aM ρ s.heap := hP
  have hS : va_S (RA aM 8) s.heap s.heap [] := va_S.rf
  have hl : lv_has ls 6 [(0, .ref (aM + 0)), (1, .int x1), (2, .int x2), (3, .int x3)] := hl
  unfold vc_X8_size at h
  refine lv_aload_n hx hb dX8_size_0 rfl (lv_at hl 0 rfl) ?_
  refine lv_iload_n hx hb dX8_size_1 rfl (lv_at hl 1 rfl) ?_
  refine lv_iload_n hx hb dX8_size_2 rfl (lv_at hl 2 rfl) ?_
  refine g_vI C hK hl.1 (m_X8_isWorker l G aM ρ x1 x2 _ h) mw_X8_isWorker mi_X8_isWorker ml_X8_55 rfl ⟨rfl, rfl, Nat.le_of_ble_eq_true rfl, Nat.le_of_ble_eq_true rfl⟩ ⟨Nat.zero_le _, Nat.zero_le _⟩ (g_recv (a := aM) (k := 0) hK hM rfl rfl) hM hS (fun _ h => h.elim) rfl (Nat.le_of_ble_eq_true rfl) dX8_size_3 (fun r1 u H locs h hu _ hq hS => ?_)
  have hM := hM.past hq (fun _ _ h => h)
  refine lv_if_eq (tgt := 20) hx hb dX8_size_6 (by decide) (fun c2 => ?_) (fun c2 => ?_)
  · replace h := h.1 c2
    refine g_ldc C kc_X8_59 dX8_size_20 ?_
    exact g_iret (post := Q) (P' := fun u H => rg G LM aM u H) (r := (-1000001)) (u := ρ) C hr hK hS h hM dX8_size_22
  · replace h := h.2 c2
    refine lv_iload_n hx hb dX8_size_9 rfl (lv_at hl 3 rfl) ?_
    refine lv_iconst (v := 5) hx hb dX8_size_10 (by decide) ?_
    refine lv_sipush (v := 300) hx hb dX8_size_11 (by decide) ?_
    refine g_sI C hK hl.1 (m_X8_in l G x3 5 300 _ h) mw_X8_in ms_X8_in ml_X8_43 rfl ⟨rfl, rfl, Nat.le_of_ble_eq_true rfl, Nat.le_of_ble_eq_true rfl⟩ ⟨Nat.zero_le _, Nat.zero_le _⟩ trivial hS (fun _ h => h.elim) rfl (Nat.le_of_ble_eq_true rfl) dX8_size_14 (fun r3 u H locs h hu _ hq hS => ?_)
    have hM := hM.past hq (fun _ _ h => h)
    refine lv_if_ne (tgt := 23) hx hb dX8_size_17 (by decide) (fun c4 => ?_) (fun c4 => ?_)
    · replace h := h.1 c4
      refine lv_iconst (v := 3) hx hb dX8_size_23 (by decide) ?_
      refine lv_iload_n hx hb dX8_size_24 rfl (lv_at hl 1 rfl) ?_
      refine lv_imul hx hb dX8_size_25 ?_
      refine lv_iload_n hx hb dX8_size_26 rfl (lv_at hl 2 rfl) ?_
      refine lv_iadd hx hb dX8_size_27 ?_
      refine lv_topi (fun v5 ev5 => ?_)
      specialize h v5 ev5
      refine lv_istore (lv' := [(4, .int v5), (0, .ref (aM + 0)), (1, .int x1), (2, .int x2), (3, .int x3)]) hx hb dX8_size_28 hl (by decide) rfl (fun ls hl => ?_)
      refine lv_aload_n hx hb dX8_size_30 rfl (lv_at hl 1 rfl) ?_
      refine lv_iload hx hb dX8_size_31 (lv_at hl 0 rfl) ?_
      refine lv_iconst (v := 2) hx hb dX8_size_33 (by decide) ?_
      refine g_vI C hK hl.1 (m_X8_of l G aM ρ v5 2 _ h) mw_X8_of mi_X8_of ml_X8_60 rfl ⟨rfl, rfl, Nat.le_of_ble_eq_true rfl, Nat.le_of_ble_eq_true rfl⟩ ⟨Nat.zero_le _, Nat.zero_le _⟩ (g_recv (a := aM) (k := 0) hK hM rfl rfl) hM hS (fun _ h => h.elim) rfl (Nat.le_of_ble_eq_true rfl) dX8_size_34 (fun r6 u H locs h hu _ hq hS => ?_)
      have hM := hM.past hq (fun _ _ h => h)
      refine lv_if_le (tgt := 43) hx hb dX8_size_37 (by decide) (fun c7 => ?_) (fun c7 => ?_)
      · replace h := h.1 c7
        refine lv_aload_n hx hb dX8_size_43 rfl (lv_at hl 1 rfl) ?_
        refine g_vV C hK hl.1 (m_X8_changes l G aM ρ _ h) mw_X8_changes mi_X8_changes ml_X8_52 rfl ⟨rfl, rfl, Nat.le_of_ble_eq_true rfl, Nat.le_of_ble_eq_true rfl⟩ ⟨Nat.zero_le _, Nat.zero_le _⟩ (g_recv (a := aM) (k := 0) hK hM rfl rfl) hM hS (fun _ h => h) rfl (Nat.le_of_ble_eq_true rfl) dX8_size_44 (fun u H locs h hu _ hq hS => ?_)
        obtain ⟨ρ9, rfl⟩ : ∃ z, z = u := ⟨_, rfl⟩
        have hM := hu
        refine lv_aload_n hx hb dX8_size_47 rfl (lv_at hl 1 rfl) ?_
        refine lv_iload hx hb dX8_size_48 (lv_at hl 0 rfl) ?_
        refine lv_iconst (v := 0) hx hb dX8_size_50 (by decide) ?_
        refine g_vI C hK hl.1 (m_X8_of l G aM ρ9 v5 0 _ h) mw_X8_of mi_X8_of ml_X8_60 rfl ⟨rfl, rfl, Nat.le_of_ble_eq_true rfl, Nat.le_of_ble_eq_true rfl⟩ ⟨Nat.zero_le _, Nat.zero_le _⟩ (g_recv (a := aM) (k := 0) hK hM rfl rfl) hM hS (fun _ h => h.elim) rfl (Nat.le_of_ble_eq_true rfl) dX8_size_51 (fun r10 u H locs h hu _ hq hS => ?_)
        have hM := hM.past hq (fun _ _ h => h)
        refine lv_istore (lv' := [(5, .int r10), (4, .int v5), (0, .ref (aM + 0)), (1, .int x1), (2, .int x2), (3, .int x3)]) hx hb dX8_size_54 hl (by decide) rfl (fun ls hl => ?_)
        refine lv_aload_n hx hb dX8_size_56 rfl (lv_at hl 2 rfl) ?_
        refine g_getR (a := aM) (k := 0) (o := 1) C hK hM fl_X8_7 rfl rfl dX8_size_57 ?_
        refine lv_bipush (v := 28) hx hb dX8_size_60 (by decide) ?_
        refine lv_bipush (v := 7) hx hb dX8_size_62 (by decide) ?_
        refine lv_iload hx hb dX8_size_64 (lv_at hl 1 rfl) ?_
        refine lv_imul hx hb dX8_size_66 ?_
        refine lv_iadd hx hb dX8_size_67 ?_
        refine lv_iconst (v := 0) hx hb dX8_size_68 (by decide) ?_
        refine lv_iadd hx hb dX8_size_69 ?_
        refine lv_iload_n hx hb dX8_size_70 rfl (lv_at hl 5 rfl) ?_
        obtain ⟨b11, h⟩ := h
        refine g_ast (a := aM) (k := 1) (n := 164) C hK hM hS rfl b11 (RA_in (by decide)) dX8_size_71 (fun ρ12 H locs eρ12 hM hS hq => ?_)
        specialize h ρ12 eρ12
        refine lv_iload hx hb dX8_size_72 (lv_at hl 0 rfl) ?_
        exact g_iret (post := Q) (P' := fun u H => rg G LM aM u H) (r := r10) (u := ρ12) C hr hK hS h hM dX8_size_74
      · replace h := h.2 c7
        refine g_ldc C kc_X8_63 dX8_size_40 ?_
        exact g_iret (post := Q) (P' := fun u H => rg G LM aM u H) (r := (-1000002)) (u := ρ) C hr hK hS h hM dX8_size_42
    · replace h := h.2 c4
      refine g_ldc C kc_X8_59 dX8_size_20 ?_
      exact g_iret (post := Q) (P' := fun u H => rg G LM aM u H) (r := (-1000001)) (u := ρ) C hr hK hS h hM dX8_size_22
theorem dX8_task_0 : decode cX8_task 0 = .ok (.iload_n 1, 1) := by decide +kernel
theorem dX8_task_1 : decode cX8_task 1 = .ok (.iconst 1, 1) := by decide +kernel
theorem dX8_task_2 : decode cX8_task 2 = .ok (.iconst 3, 1) := by decide +kernel
theorem dX8_task_3 : decode cX8_task 3 = .ok (.invokestatic 43, 3) := by decide +kernel
theorem dX8_task_6 : decode cX8_task 6 = .ok (.ifCond .eq 35, 3) := by decide +kernel
theorem dX8_task_9 : decode cX8_task 9 = .ok (.iload_n 2, 1) := by decide +kernel
theorem dX8_task_10 : decode cX8_task 10 = .ok (.iconst 0, 1) := by decide +kernel
theorem dX8_task_11 : decode cX8_task 11 = .ok (.sipush 999, 3) := by decide +kernel
theorem dX8_task_14 : decode cX8_task 14 = .ok (.invokestatic 43, 3) := by decide +kernel
theorem dX8_task_17 : decode cX8_task 17 = .ok (.ifCond .eq 24, 3) := by decide +kernel
theorem dX8_task_20 : decode cX8_task 20 = .ok (.iload_n 3, 1) := by decide +kernel
theorem dX8_task_21 : decode cX8_task 21 = .ok (.iconst 0, 1) := by decide +kernel
theorem dX8_task_22 : decode cX8_task 22 = .ok (.sipush 999, 3) := by decide +kernel
theorem dX8_task_25 : decode cX8_task 25 = .ok (.invokestatic 43, 3) := by decide +kernel
theorem dX8_task_28 : decode cX8_task 28 = .ok (.ifCond .eq 13, 3) := by decide +kernel
theorem dX8_task_31 : decode cX8_task 31 = .ok (.iload 4, 2) := by decide +kernel
theorem dX8_task_33 : decode cX8_task 33 = .ok (.iconst 0, 1) := by decide +kernel
theorem dX8_task_34 : decode cX8_task 34 = .ok (.iconst 2, 1) := by decide +kernel
theorem dX8_task_35 : decode cX8_task 35 = .ok (.invokestatic 43, 3) := by decide +kernel
theorem dX8_task_38 : decode cX8_task 38 = .ok (.ifCond .ne 6, 3) := by decide +kernel
theorem dX8_task_41 : decode cX8_task 41 = .ok (.ldc 59, 2) := by decide +kernel
theorem dX8_task_43 : decode cX8_task 43 = .ok (.ireturn, 1) := by decide +kernel
theorem dX8_task_44 : decode cX8_task 44 = .ok (.aload_n 0, 1) := by decide +kernel
theorem dX8_task_45 : decode cX8_task 45 = .ok (.getfield 7, 3) := by decide +kernel
theorem dX8_task_48 : decode cX8_task 48 = .ok (.iconst 1, 1) := by decide +kernel
theorem dX8_task_49 : decode cX8_task 49 = .ok (.iaload, 1) := by decide +kernel
theorem dX8_task_50 : decode cX8_task 50 = .ok (.istore 5, 2) := by decide +kernel
theorem dX8_task_52 : decode cX8_task 52 = .ok (.iload 5, 2) := by decide +kernel
theorem dX8_task_54 : decode cX8_task 54 = .ok (.bipush 8, 2) := by decide +kernel
theorem dX8_task_56 : decode cX8_task 56 = .ok (.if_icmp .ne 6, 3) := by decide +kernel
theorem dX8_task_59 : decode cX8_task 59 = .ok (.ldc 51, 2) := by decide +kernel
theorem dX8_task_61 : decode cX8_task 61 = .ok (.ireturn, 1) := by decide +kernel
theorem dX8_task_62 : decode cX8_task 62 = .ok (.aload_n 0, 1) := by decide +kernel
theorem dX8_task_63 : decode cX8_task 63 = .ok (.invokevirtual 52, 3) := by decide +kernel
theorem dX8_task_66 : decode cX8_task 66 = .ok (.aload_n 0, 1) := by decide +kernel
theorem dX8_task_67 : decode cX8_task 67 = .ok (.getfield 7, 3) := by decide +kernel
theorem dX8_task_70 : decode cX8_task 70 = .ok (.bipush 112, 2) := by decide +kernel
theorem dX8_task_72 : decode cX8_task 72 = .ok (.iconst 5, 1) := by decide +kernel
theorem dX8_task_73 : decode cX8_task 73 = .ok (.iload 5, 2) := by decide +kernel
theorem dX8_task_75 : decode cX8_task 75 = .ok (.imul, 1) := by decide +kernel
theorem dX8_task_76 : decode cX8_task 76 = .ok (.iadd, 1) := by decide +kernel
theorem dX8_task_77 : decode cX8_task 77 = .ok (.iconst 0, 1) := by decide +kernel
theorem dX8_task_78 : decode cX8_task 78 = .ok (.iadd, 1) := by decide +kernel
theorem dX8_task_79 : decode cX8_task 79 = .ok (.iload_n 1, 1) := by decide +kernel
theorem dX8_task_80 : decode cX8_task 80 = .ok (.iastore, 1) := by decide +kernel
theorem dX8_task_81 : decode cX8_task 81 = .ok (.aload_n 0, 1) := by decide +kernel
theorem dX8_task_82 : decode cX8_task 82 = .ok (.getfield 7, 3) := by decide +kernel
theorem dX8_task_85 : decode cX8_task 85 = .ok (.bipush 112, 2) := by decide +kernel
theorem dX8_task_87 : decode cX8_task 87 = .ok (.iconst 5, 1) := by decide +kernel
theorem dX8_task_88 : decode cX8_task 88 = .ok (.iload 5, 2) := by decide +kernel
theorem dX8_task_90 : decode cX8_task 90 = .ok (.imul, 1) := by decide +kernel
theorem dX8_task_91 : decode cX8_task 91 = .ok (.iadd, 1) := by decide +kernel
theorem dX8_task_92 : decode cX8_task 92 = .ok (.iconst 1, 1) := by decide +kernel
theorem dX8_task_93 : decode cX8_task 93 = .ok (.iadd, 1) := by decide +kernel
theorem dX8_task_94 : decode cX8_task 94 = .ok (.iload_n 2, 1) := by decide +kernel
theorem dX8_task_95 : decode cX8_task 95 = .ok (.iastore, 1) := by decide +kernel
theorem dX8_task_96 : decode cX8_task 96 = .ok (.aload_n 0, 1) := by decide +kernel
theorem dX8_task_97 : decode cX8_task 97 = .ok (.getfield 7, 3) := by decide +kernel
theorem dX8_task_100 : decode cX8_task 100 = .ok (.bipush 112, 2) := by decide +kernel
theorem dX8_task_102 : decode cX8_task 102 = .ok (.iconst 5, 1) := by decide +kernel
theorem dX8_task_103 : decode cX8_task 103 = .ok (.iload 5, 2) := by decide +kernel
theorem dX8_task_105 : decode cX8_task 105 = .ok (.imul, 1) := by decide +kernel
theorem dX8_task_106 : decode cX8_task 106 = .ok (.iadd, 1) := by decide +kernel
theorem dX8_task_107 : decode cX8_task 107 = .ok (.iconst 2, 1) := by decide +kernel
theorem dX8_task_108 : decode cX8_task 108 = .ok (.iadd, 1) := by decide +kernel
theorem dX8_task_109 : decode cX8_task 109 = .ok (.iload_n 3, 1) := by decide +kernel
theorem dX8_task_110 : decode cX8_task 110 = .ok (.iastore, 1) := by decide +kernel
theorem dX8_task_111 : decode cX8_task 111 = .ok (.aload_n 0, 1) := by decide +kernel
theorem dX8_task_112 : decode cX8_task 112 = .ok (.getfield 7, 3) := by decide +kernel
theorem dX8_task_115 : decode cX8_task 115 = .ok (.bipush 112, 2) := by decide +kernel
theorem dX8_task_117 : decode cX8_task 117 = .ok (.iconst 5, 1) := by decide +kernel
theorem dX8_task_118 : decode cX8_task 118 = .ok (.iload 5, 2) := by decide +kernel
theorem dX8_task_120 : decode cX8_task 120 = .ok (.imul, 1) := by decide +kernel
theorem dX8_task_121 : decode cX8_task 121 = .ok (.iadd, 1) := by decide +kernel
theorem dX8_task_122 : decode cX8_task 122 = .ok (.iconst 3, 1) := by decide +kernel
theorem dX8_task_123 : decode cX8_task 123 = .ok (.iadd, 1) := by decide +kernel
theorem dX8_task_124 : decode cX8_task 124 = .ok (.iload 4, 2) := by decide +kernel
theorem dX8_task_126 : decode cX8_task 126 = .ok (.iastore, 1) := by decide +kernel
theorem dX8_task_127 : decode cX8_task 127 = .ok (.aload_n 0, 1) := by decide +kernel
theorem dX8_task_128 : decode cX8_task 128 = .ok (.getfield 7, 3) := by decide +kernel
theorem dX8_task_131 : decode cX8_task 131 = .ok (.bipush 112, 2) := by decide +kernel
theorem dX8_task_133 : decode cX8_task 133 = .ok (.iconst 5, 1) := by decide +kernel
theorem dX8_task_134 : decode cX8_task 134 = .ok (.iload 5, 2) := by decide +kernel
theorem dX8_task_136 : decode cX8_task 136 = .ok (.imul, 1) := by decide +kernel
theorem dX8_task_137 : decode cX8_task 137 = .ok (.iadd, 1) := by decide +kernel
theorem dX8_task_138 : decode cX8_task 138 = .ok (.iconst 4, 1) := by decide +kernel
theorem dX8_task_139 : decode cX8_task 139 = .ok (.iadd, 1) := by decide +kernel
theorem dX8_task_140 : decode cX8_task 140 = .ok (.iconst 0, 1) := by decide +kernel
theorem dX8_task_141 : decode cX8_task 141 = .ok (.iastore, 1) := by decide +kernel
theorem dX8_task_142 : decode cX8_task 142 = .ok (.aload_n 0, 1) := by decide +kernel
theorem dX8_task_143 : decode cX8_task 143 = .ok (.getfield 7, 3) := by decide +kernel
theorem dX8_task_146 : decode cX8_task 146 = .ok (.iconst 1, 1) := by decide +kernel
theorem dX8_task_147 : decode cX8_task 147 = .ok (.dup2, 1) := by decide +kernel
theorem dX8_task_148 : decode cX8_task 148 = .ok (.iaload, 1) := by decide +kernel
theorem dX8_task_149 : decode cX8_task 149 = .ok (.iconst 1, 1) := by decide +kernel
theorem dX8_task_150 : decode cX8_task 150 = .ok (.iadd, 1) := by decide +kernel
theorem dX8_task_151 : decode cX8_task 151 = .ok (.iastore, 1) := by decide +kernel
theorem dX8_task_152 : decode cX8_task 152 = .ok (.iload 5, 2) := by decide +kernel
theorem dX8_task_154 : decode cX8_task 154 = .ok (.ireturn, 1) := by decide +kernel
def vc_X8_task (Q : Int32 → Mem → Prop) (ρ : Mem) (x1 : Int32) (x2 : Int32) (x3 : Int32) (x4 : Int32) : Prop :=
  vc_X8_in (fun r1 => ((r1 = 0) → (Q (-1000001) ρ)) ∧ ((¬ r1 = 0) → (vc_X8_in (fun r3 => ((r3 = 0) → (Q (-1000001) ρ)) ∧ ((¬ r3 = 0) → (vc_X8_in (fun r5 => ((r5 = 0) → (Q (-1000001) ρ)) ∧ ((¬ r5 = 0) → (vc_X8_in (fun r7 => ((¬ r7 = 0) → ((∀ v9 : Int32, v9 = (ρ 1 (1 : Int32).toNatClampNeg) → (((¬ v9 = 8) → (vc_X8_changes (fun ρ12 => vp_in ((112 + (5 * v9)) + 0) 164 ∧ (∀ ρ14 : Mem, ρ14 = up ρ12 1 ((112 + (5 * v9)) + 0).toNatClampNeg x1 → (vp_in ((112 + (5 * v9)) + 1) 164 ∧ (∀ ρ16 : Mem, ρ16 = up ρ14 1 ((112 + (5 * v9)) + 1).toNatClampNeg x2 → (vp_in ((112 + (5 * v9)) + 2) 164 ∧ (∀ ρ18 : Mem, ρ18 = up ρ16 1 ((112 + (5 * v9)) + 2).toNatClampNeg x3 → (vp_in ((112 + (5 * v9)) + 3) 164 ∧ (∀ ρ20 : Mem, ρ20 = up ρ18 1 ((112 + (5 * v9)) + 3).toNatClampNeg x4 → (vp_in ((112 + (5 * v9)) + 4) 164 ∧ (∀ ρ22 : Mem, ρ22 = up ρ20 1 ((112 + (5 * v9)) + 4).toNatClampNeg 0 → (((∀ ρ23 : Mem, ρ23 = up ρ22 1 (1 : Int32).toNatClampNeg ((ρ22 1 (1 : Int32).toNatClampNeg) + 1) → (Q v9 ρ23)))))))))))))) ρ)) ∧ ((v9 = 8) → (Q (-1000003) ρ)))))) ∧ ((r7 = 0) → (Q (-1000001) ρ))) x4 0 2))) x3 0 999))) x2 0 999))) x1 1 3
set_option maxHeartbeats 8000000 in
set_option maxRecDepth 100000 in
theorem m_X8_task (l : Launch) (G : GG) (aM : Nat) (ρ : Mem) (x1 : Int32) (x2 : Int32) (x3 : Int32) (x4 : Int32) (Q : Int32 → Mem → Prop) (h : vc_X8_task Q ρ x1 x2 x3 x4) : CtI l yX8_task cX8_task 6 (some .int) { frames := 1, cells := 0, slots := 0, locals := 22 } [.ref (aM + 0), .int x1, .int x2, .int x3, .int x4] G (fun H => rg G LM aM ρ H) (Q) (fun u H => rg G LM aM u H) (RA aM 8) := by
  unfold CtI
  refine met_start (y := yX8_task) (maxL := 6) (av := [.ref (aM + 0), .int x1, .int x2, .int x3, .int x4]) (G := G) (P := fun H => rg G LM aM ρ H) (by decide) rfl (Nat.le_of_ble_eq_true rfl) (fun p e s m below meth c ls C hr hP hK hl => ?_)
  obtain ⟨hx, hb, hml, hown, hts, hlocks⟩ := id C
  have hM : rg G LM aM ρ s.heap := hP
  have hS : va_S (RA aM 8) s.heap s.heap [] := va_S.rf
  have hl : lv_has ls 6 [(0, .ref (aM + 0)), (1, .int x1), (2, .int x2), (3, .int x3), (4, .int x4)] := hl
  unfold vc_X8_task at h
  refine lv_iload_n hx hb dX8_task_0 rfl (lv_at hl 1 rfl) ?_
  refine lv_iconst (v := 1) hx hb dX8_task_1 (by decide) ?_
  refine lv_iconst (v := 3) hx hb dX8_task_2 (by decide) ?_
  refine g_sI C hK hl.1 (m_X8_in l G x1 1 3 _ h) mw_X8_in ms_X8_in ml_X8_43 rfl ⟨rfl, rfl, Nat.le_of_ble_eq_true rfl, Nat.le_of_ble_eq_true rfl⟩ ⟨Nat.zero_le _, Nat.zero_le _⟩ trivial hS (fun _ h => h.elim) rfl (Nat.le_of_ble_eq_true rfl) dX8_task_3 (fun r1 u H locs h hu _ hq hS => ?_)
  have hM := hM.past hq (fun _ _ h => h)
  refine lv_if_eq (tgt := 41) hx hb dX8_task_6 (by decide) (fun c2 => ?_) (fun c2 => ?_)
  · replace h := h.1 c2
    refine g_ldc C kc_X8_59 dX8_task_41 ?_
    exact g_iret (post := Q) (P' := fun u H => rg G LM aM u H) (r := (-1000001)) (u := ρ) C hr hK hS h hM dX8_task_43
  · replace h := h.2 c2
    refine lv_iload_n hx hb dX8_task_9 rfl (lv_at hl 2 rfl) ?_
    refine lv_iconst (v := 0) hx hb dX8_task_10 (by decide) ?_
    refine lv_sipush (v := 999) hx hb dX8_task_11 (by decide) ?_
    refine g_sI C hK hl.1 (m_X8_in l G x2 0 999 _ h) mw_X8_in ms_X8_in ml_X8_43 rfl ⟨rfl, rfl, Nat.le_of_ble_eq_true rfl, Nat.le_of_ble_eq_true rfl⟩ ⟨Nat.zero_le _, Nat.zero_le _⟩ trivial hS (fun _ h => h.elim) rfl (Nat.le_of_ble_eq_true rfl) dX8_task_14 (fun r3 u H locs h hu _ hq hS => ?_)
    have hM := hM.past hq (fun _ _ h => h)
    refine lv_if_eq (tgt := 41) hx hb dX8_task_17 (by decide) (fun c4 => ?_) (fun c4 => ?_)
    · replace h := h.1 c4
      refine g_ldc C kc_X8_59 dX8_task_41 ?_
      exact g_iret (post := Q) (P' := fun u H => rg G LM aM u H) (r := (-1000001)) (u := ρ) C hr hK hS h hM dX8_task_43
    · replace h := h.2 c4
      refine lv_iload_n hx hb dX8_task_20 rfl (lv_at hl 3 rfl) ?_
      refine lv_iconst (v := 0) hx hb dX8_task_21 (by decide) ?_
      refine lv_sipush (v := 999) hx hb dX8_task_22 (by decide) ?_
      refine g_sI C hK hl.1 (m_X8_in l G x3 0 999 _ h) mw_X8_in ms_X8_in ml_X8_43 rfl ⟨rfl, rfl, Nat.le_of_ble_eq_true rfl, Nat.le_of_ble_eq_true rfl⟩ ⟨Nat.zero_le _, Nat.zero_le _⟩ trivial hS (fun _ h => h.elim) rfl (Nat.le_of_ble_eq_true rfl) dX8_task_25 (fun r5 u H locs h hu _ hq hS => ?_)
      have hM := hM.past hq (fun _ _ h => h)
      refine lv_if_eq (tgt := 41) hx hb dX8_task_28 (by decide) (fun c6 => ?_) (fun c6 => ?_)
      · replace h := h.1 c6
        refine g_ldc C kc_X8_59 dX8_task_41 ?_
        exact g_iret (post := Q) (P' := fun u H => rg G LM aM u H) (r := (-1000001)) (u := ρ) C hr hK hS h hM dX8_task_43
      · replace h := h.2 c6
        refine lv_iload hx hb dX8_task_31 (lv_at hl 4 rfl) ?_
        refine lv_iconst (v := 0) hx hb dX8_task_33 (by decide) ?_
        refine lv_iconst (v := 2) hx hb dX8_task_34 (by decide) ?_
        refine g_sI C hK hl.1 (m_X8_in l G x4 0 2 _ h) mw_X8_in ms_X8_in ml_X8_43 rfl ⟨rfl, rfl, Nat.le_of_ble_eq_true rfl, Nat.le_of_ble_eq_true rfl⟩ ⟨Nat.zero_le _, Nat.zero_le _⟩ trivial hS (fun _ h => h.elim) rfl (Nat.le_of_ble_eq_true rfl) dX8_task_35 (fun r7 u H locs h hu _ hq hS => ?_)
        have hM := hM.past hq (fun _ _ h => h)
        refine lv_if_ne (tgt := 44) hx hb dX8_task_38 (by decide) (fun c8 => ?_) (fun c8 => ?_)
        · replace h := h.1 c8
          refine lv_aload_n hx hb dX8_task_44 rfl (lv_at hl 0 rfl) ?_
          refine g_getR (a := aM) (k := 0) (o := 1) C hK hM fl_X8_7 rfl rfl dX8_task_45 ?_
          refine lv_iconst (v := 1) hx hb dX8_task_48 (by decide) ?_
          refine g_ald (a := aM) (k := 1) (n := 164) C hK hM rfl (vp_dec (by decide)) dX8_task_49 ?_
          refine lv_topi (fun v9 ev9 => ?_)
          specialize h v9 ev9
          refine lv_istore (lv' := [(5, .int v9), (0, .ref (aM + 0)), (1, .int x1), (2, .int x2), (3, .int x3), (4, .int x4)]) hx hb dX8_task_50 hl (by decide) rfl (fun ls hl => ?_)
          refine lv_iload hx hb dX8_task_52 (lv_at hl 0 rfl) ?_
          refine lv_bipush (v := 8) hx hb dX8_task_54 (by decide) ?_
          refine lv_icmp_ne (tgt := 62) hx hb dX8_task_56 (by decide) (fun c10 => ?_) (fun c10 => ?_)
          · replace h := h.1 c10
            refine lv_aload_n hx hb dX8_task_62 rfl (lv_at hl 1 rfl) ?_
            refine g_vV C hK hl.1 (m_X8_changes l G aM ρ _ h) mw_X8_changes mi_X8_changes ml_X8_52 rfl ⟨rfl, rfl, Nat.le_of_ble_eq_true rfl, Nat.le_of_ble_eq_true rfl⟩ ⟨Nat.zero_le _, Nat.zero_le _⟩ (g_recv (a := aM) (k := 0) hK hM rfl rfl) hM hS (fun _ h => h) rfl (Nat.le_of_ble_eq_true rfl) dX8_task_63 (fun u H locs h hu _ hq hS => ?_)
            obtain ⟨ρ12, rfl⟩ : ∃ z, z = u := ⟨_, rfl⟩
            have hM := hu
            refine lv_aload_n hx hb dX8_task_66 rfl (lv_at hl 1 rfl) ?_
            refine g_getR (a := aM) (k := 0) (o := 1) C hK hM fl_X8_7 rfl rfl dX8_task_67 ?_
            refine lv_bipush (v := 112) hx hb dX8_task_70 (by decide) ?_
            refine lv_iconst (v := 5) hx hb dX8_task_72 (by decide) ?_
            refine lv_iload hx hb dX8_task_73 (lv_at hl 0 rfl) ?_
            refine lv_imul hx hb dX8_task_75 ?_
            refine lv_iadd hx hb dX8_task_76 ?_
            refine lv_iconst (v := 0) hx hb dX8_task_77 (by decide) ?_
            refine lv_iadd hx hb dX8_task_78 ?_
            refine lv_iload_n hx hb dX8_task_79 rfl (lv_at hl 2 rfl) ?_
            obtain ⟨b13, h⟩ := h
            refine g_ast (a := aM) (k := 1) (n := 164) C hK hM hS rfl b13 (RA_in (by decide)) dX8_task_80 (fun ρ14 H locs eρ14 hM hS hq => ?_)
            specialize h ρ14 eρ14
            refine lv_aload_n hx hb dX8_task_81 rfl (lv_at hl 1 rfl) ?_
            refine g_getR (a := aM) (k := 0) (o := 1) C hK hM fl_X8_7 rfl rfl dX8_task_82 ?_
            refine lv_bipush (v := 112) hx hb dX8_task_85 (by decide) ?_
            refine lv_iconst (v := 5) hx hb dX8_task_87 (by decide) ?_
            refine lv_iload hx hb dX8_task_88 (lv_at hl 0 rfl) ?_
            refine lv_imul hx hb dX8_task_90 ?_
            refine lv_iadd hx hb dX8_task_91 ?_
            refine lv_iconst (v := 1) hx hb dX8_task_92 (by decide) ?_
            refine lv_iadd hx hb dX8_task_93 ?_
            refine lv_iload_n hx hb dX8_task_94 rfl (lv_at hl 3 rfl) ?_
            obtain ⟨b15, h⟩ := h
            refine g_ast (a := aM) (k := 1) (n := 164) C hK hM hS rfl b15 (RA_in (by decide)) dX8_task_95 (fun ρ16 H locs eρ16 hM hS hq => ?_)
            specialize h ρ16 eρ16
            refine lv_aload_n hx hb dX8_task_96 rfl (lv_at hl 1 rfl) ?_
            refine g_getR (a := aM) (k := 0) (o := 1) C hK hM fl_X8_7 rfl rfl dX8_task_97 ?_
            refine lv_bipush (v := 112) hx hb dX8_task_100 (by decide) ?_
            refine lv_iconst (v := 5) hx hb dX8_task_102 (by decide) ?_
            refine lv_iload hx hb dX8_task_103 (lv_at hl 0 rfl) ?_
            refine lv_imul hx hb dX8_task_105 ?_
            refine lv_iadd hx hb dX8_task_106 ?_
            refine lv_iconst (v := 2) hx hb dX8_task_107 (by decide) ?_
            refine lv_iadd hx hb dX8_task_108 ?_
            refine lv_iload_n hx hb dX8_task_109 rfl (lv_at hl 4 rfl) ?_
            obtain ⟨b17, h⟩ := h
            refine g_ast (a := aM) (k := 1) (n := 164) C hK hM hS rfl b17 (RA_in (by decide)) dX8_task_110 (fun ρ18 H locs eρ18 hM hS hq => ?_)
            specialize h ρ18 eρ18
            refine lv_aload_n hx hb dX8_task_111 rfl (lv_at hl 1 rfl) ?_
            refine g_getR (a := aM) (k := 0) (o := 1) C hK hM fl_X8_7 rfl rfl dX8_task_112 ?_
            refine lv_bipush (v := 112) hx hb dX8_task_115 (by decide) ?_
            refine lv_iconst (v := 5) hx hb dX8_task_117 (by decide) ?_
            refine lv_iload hx hb dX8_task_118 (lv_at hl 0 rfl) ?_
            refine lv_imul hx hb dX8_task_120 ?_
            refine lv_iadd hx hb dX8_task_121 ?_
            refine lv_iconst (v := 3) hx hb dX8_task_122 (by decide) ?_
            refine lv_iadd hx hb dX8_task_123 ?_
            refine lv_iload hx hb dX8_task_124 (lv_at hl 5 rfl) ?_
            obtain ⟨b19, h⟩ := h
            refine g_ast (a := aM) (k := 1) (n := 164) C hK hM hS rfl b19 (RA_in (by decide)) dX8_task_126 (fun ρ20 H locs eρ20 hM hS hq => ?_)
            specialize h ρ20 eρ20
            refine lv_aload_n hx hb dX8_task_127 rfl (lv_at hl 1 rfl) ?_
            refine g_getR (a := aM) (k := 0) (o := 1) C hK hM fl_X8_7 rfl rfl dX8_task_128 ?_
            refine lv_bipush (v := 112) hx hb dX8_task_131 (by decide) ?_
            refine lv_iconst (v := 5) hx hb dX8_task_133 (by decide) ?_
            refine lv_iload hx hb dX8_task_134 (lv_at hl 0 rfl) ?_
            refine lv_imul hx hb dX8_task_136 ?_
            refine lv_iadd hx hb dX8_task_137 ?_
            refine lv_iconst (v := 4) hx hb dX8_task_138 (by decide) ?_
            refine lv_iadd hx hb dX8_task_139 ?_
            refine lv_iconst (v := 0) hx hb dX8_task_140 (by decide) ?_
            obtain ⟨b21, h⟩ := h
            refine g_ast (a := aM) (k := 1) (n := 164) C hK hM hS rfl b21 (RA_in (by decide)) dX8_task_141 (fun ρ22 H locs eρ22 hM hS hq => ?_)
            specialize h ρ22 eρ22
            refine lv_aload_n hx hb dX8_task_142 rfl (lv_at hl 1 rfl) ?_
            refine g_getR (a := aM) (k := 0) (o := 1) C hK hM fl_X8_7 rfl rfl dX8_task_143 ?_
            refine lv_iconst (v := 1) hx hb dX8_task_146 (by decide) ?_
            refine lv_dup2_11 hx hb dX8_task_147 rfl rfl ?_
            refine g_ald (a := aM) (k := 1) (n := 164) C hK hM rfl (vp_dec (by decide)) dX8_task_148 ?_
            refine lv_iconst (v := 1) hx hb dX8_task_149 (by decide) ?_
            refine lv_iadd hx hb dX8_task_150 ?_
            refine g_ast (a := aM) (k := 1) (n := 164) C hK hM hS rfl (vp_dec (by decide)) (RA_in (by decide)) dX8_task_151 (fun ρ23 H locs eρ23 hM hS hq => ?_)
            specialize h ρ23 eρ23
            refine lv_iload hx hb dX8_task_152 (lv_at hl 0 rfl) ?_
            exact g_iret (post := Q) (P' := fun u H => rg G LM aM u H) (r := v9) (u := ρ23) C hr hK hS h hM dX8_task_154
          · replace h := h.2 c10
            refine g_ldc C kc_X8_51 dX8_task_59 ?_
            exact g_iret (post := Q) (P' := fun u H => rg G LM aM u H) (r := (-1000003)) (u := ρ) C hr hK hS h hM dX8_task_61
        · replace h := h.2 c8
          refine g_ldc C kc_X8_59 dX8_task_41 ?_
          exact g_iret (post := Q) (P' := fun u H => rg G LM aM u H) (r := (-1000001)) (u := ρ) C hr hK hS h hM dX8_task_43
theorem dX8_contract_0 : decode cX8_contract 0 = .ok (.iload_n 1, 1) := by decide +kernel
theorem dX8_contract_1 : decode cX8_contract 1 = .ok (.iconst 0, 1) := by decide +kernel
theorem dX8_contract_2 : decode cX8_contract 2 = .ok (.sipush 999, 3) := by decide +kernel
theorem dX8_contract_5 : decode cX8_contract 5 = .ok (.invokestatic 43, 3) := by decide +kernel
theorem dX8_contract_8 : decode cX8_contract 8 = .ok (.ifCond .eq 13, 3) := by decide +kernel
theorem dX8_contract_11 : decode cX8_contract 11 = .ok (.iload_n 2, 1) := by decide +kernel
theorem dX8_contract_12 : decode cX8_contract 12 = .ok (.iconst 1, 1) := by decide +kernel
theorem dX8_contract_13 : decode cX8_contract 13 = .ok (.bipush 20, 2) := by decide +kernel
theorem dX8_contract_15 : decode cX8_contract 15 = .ok (.invokestatic 43, 3) := by decide +kernel
theorem dX8_contract_18 : decode cX8_contract 18 = .ok (.ifCond .ne 6, 3) := by decide +kernel
theorem dX8_contract_21 : decode cX8_contract 21 = .ok (.ldc 59, 2) := by decide +kernel
theorem dX8_contract_23 : decode cX8_contract 23 = .ok (.ireturn, 1) := by decide +kernel
theorem dX8_contract_24 : decode cX8_contract 24 = .ok (.aload_n 0, 1) := by decide +kernel
theorem dX8_contract_25 : decode cX8_contract 25 = .ok (.getfield 7, 3) := by decide +kernel
theorem dX8_contract_28 : decode cX8_contract 28 = .ok (.iconst 2, 1) := by decide +kernel
theorem dX8_contract_29 : decode cX8_contract 29 = .ok (.iaload, 1) := by decide +kernel
theorem dX8_contract_30 : decode cX8_contract 30 = .ok (.istore_n 3, 1) := by decide +kernel
theorem dX8_contract_31 : decode cX8_contract 31 = .ok (.iload_n 3, 1) := by decide +kernel
theorem dX8_contract_32 : decode cX8_contract 32 = .ok (.bipush 6, 2) := by decide +kernel
theorem dX8_contract_34 : decode cX8_contract 34 = .ok (.if_icmp .ne 6, 3) := by decide +kernel
theorem dX8_contract_37 : decode cX8_contract 37 = .ok (.ldc 51, 2) := by decide +kernel
theorem dX8_contract_39 : decode cX8_contract 39 = .ok (.ireturn, 1) := by decide +kernel
theorem dX8_contract_40 : decode cX8_contract 40 = .ok (.aload_n 0, 1) := by decide +kernel
theorem dX8_contract_41 : decode cX8_contract 41 = .ok (.invokevirtual 52, 3) := by decide +kernel
theorem dX8_contract_44 : decode cX8_contract 44 = .ok (.aload_n 0, 1) := by decide +kernel
theorem dX8_contract_45 : decode cX8_contract 45 = .ok (.getfield 7, 3) := by decide +kernel
theorem dX8_contract_48 : decode cX8_contract 48 = .ok (.sipush 152, 3) := by decide +kernel
theorem dX8_contract_51 : decode cX8_contract 51 = .ok (.iconst 2, 1) := by decide +kernel
theorem dX8_contract_52 : decode cX8_contract 52 = .ok (.iload_n 3, 1) := by decide +kernel
theorem dX8_contract_53 : decode cX8_contract 53 = .ok (.imul, 1) := by decide +kernel
theorem dX8_contract_54 : decode cX8_contract 54 = .ok (.iadd, 1) := by decide +kernel
theorem dX8_contract_55 : decode cX8_contract 55 = .ok (.iload_n 1, 1) := by decide +kernel
theorem dX8_contract_56 : decode cX8_contract 56 = .ok (.iastore, 1) := by decide +kernel
theorem dX8_contract_57 : decode cX8_contract 57 = .ok (.aload_n 0, 1) := by decide +kernel
theorem dX8_contract_58 : decode cX8_contract 58 = .ok (.getfield 7, 3) := by decide +kernel
theorem dX8_contract_61 : decode cX8_contract 61 = .ok (.sipush 152, 3) := by decide +kernel
theorem dX8_contract_64 : decode cX8_contract 64 = .ok (.iconst 2, 1) := by decide +kernel
theorem dX8_contract_65 : decode cX8_contract 65 = .ok (.iload_n 3, 1) := by decide +kernel
theorem dX8_contract_66 : decode cX8_contract 66 = .ok (.imul, 1) := by decide +kernel
theorem dX8_contract_67 : decode cX8_contract 67 = .ok (.iadd, 1) := by decide +kernel
theorem dX8_contract_68 : decode cX8_contract 68 = .ok (.iconst 1, 1) := by decide +kernel
theorem dX8_contract_69 : decode cX8_contract 69 = .ok (.iadd, 1) := by decide +kernel
theorem dX8_contract_70 : decode cX8_contract 70 = .ok (.iload_n 2, 1) := by decide +kernel
theorem dX8_contract_71 : decode cX8_contract 71 = .ok (.iastore, 1) := by decide +kernel
theorem dX8_contract_72 : decode cX8_contract 72 = .ok (.aload_n 0, 1) := by decide +kernel
theorem dX8_contract_73 : decode cX8_contract 73 = .ok (.getfield 7, 3) := by decide +kernel
theorem dX8_contract_76 : decode cX8_contract 76 = .ok (.iconst 2, 1) := by decide +kernel
theorem dX8_contract_77 : decode cX8_contract 77 = .ok (.dup2, 1) := by decide +kernel
theorem dX8_contract_78 : decode cX8_contract 78 = .ok (.iaload, 1) := by decide +kernel
theorem dX8_contract_79 : decode cX8_contract 79 = .ok (.iconst 1, 1) := by decide +kernel
theorem dX8_contract_80 : decode cX8_contract 80 = .ok (.iadd, 1) := by decide +kernel
theorem dX8_contract_81 : decode cX8_contract 81 = .ok (.iastore, 1) := by decide +kernel
theorem dX8_contract_82 : decode cX8_contract 82 = .ok (.iload_n 3, 1) := by decide +kernel
theorem dX8_contract_83 : decode cX8_contract 83 = .ok (.ireturn, 1) := by decide +kernel
def vc_X8_contract (Q : Int32 → Mem → Prop) (ρ : Mem) (x1 : Int32) (x2 : Int32) : Prop :=
  vc_X8_in (fun r1 => ((r1 = 0) → (Q (-1000001) ρ)) ∧ ((¬ r1 = 0) → (vc_X8_in (fun r3 => ((¬ r3 = 0) → ((∀ v5 : Int32, v5 = (ρ 1 (2 : Int32).toNatClampNeg) → (((¬ v5 = 6) → (vc_X8_changes (fun ρ8 => vp_in (152 + (2 * v5)) 164 ∧ (∀ ρ10 : Mem, ρ10 = up ρ8 1 (152 + (2 * v5)).toNatClampNeg x1 → (vp_in ((152 + (2 * v5)) + 1) 164 ∧ (∀ ρ12 : Mem, ρ12 = up ρ10 1 ((152 + (2 * v5)) + 1).toNatClampNeg x2 → (((∀ ρ13 : Mem, ρ13 = up ρ12 1 (2 : Int32).toNatClampNeg ((ρ12 1 (2 : Int32).toNatClampNeg) + 1) → (Q v5 ρ13)))))))) ρ)) ∧ ((v5 = 6) → (Q (-1000003) ρ)))))) ∧ ((r3 = 0) → (Q (-1000001) ρ))) x2 1 20))) x1 0 999
set_option maxHeartbeats 8000000 in
set_option maxRecDepth 100000 in
theorem m_X8_contract (l : Launch) (G : GG) (aM : Nat) (ρ : Mem) (x1 : Int32) (x2 : Int32) (Q : Int32 → Mem → Prop) (h : vc_X8_contract Q ρ x1 x2) : CtI l yX8_contract cX8_contract 4 (some .int) { frames := 1, cells := 0, slots := 0, locals := 22 } [.ref (aM + 0), .int x1, .int x2] G (fun H => rg G LM aM ρ H) (Q) (fun u H => rg G LM aM u H) (RA aM 8) := by
  unfold CtI
  refine met_start (y := yX8_contract) (maxL := 4) (av := [.ref (aM + 0), .int x1, .int x2]) (G := G) (P := fun H => rg G LM aM ρ H) (by decide) rfl (Nat.le_of_ble_eq_true rfl) (fun p e s m below meth c ls C hr hP hK hl => ?_)
  obtain ⟨hx, hb, hml, hown, hts, hlocks⟩ := id C
  have hM : rg G LM aM ρ s.heap := hP
  have hS : va_S (RA aM 8) s.heap s.heap [] := va_S.rf
  have hl : lv_has ls 4 [(0, .ref (aM + 0)), (1, .int x1), (2, .int x2)] := hl
  unfold vc_X8_contract at h
  refine lv_iload_n hx hb dX8_contract_0 rfl (lv_at hl 1 rfl) ?_
  refine lv_iconst (v := 0) hx hb dX8_contract_1 (by decide) ?_
  refine lv_sipush (v := 999) hx hb dX8_contract_2 (by decide) ?_
  refine g_sI C hK hl.1 (m_X8_in l G x1 0 999 _ h) mw_X8_in ms_X8_in ml_X8_43 rfl ⟨rfl, rfl, Nat.le_of_ble_eq_true rfl, Nat.le_of_ble_eq_true rfl⟩ ⟨Nat.zero_le _, Nat.zero_le _⟩ trivial hS (fun _ h => h.elim) rfl (Nat.le_of_ble_eq_true rfl) dX8_contract_5 (fun r1 u H locs h hu _ hq hS => ?_)
  have hM := hM.past hq (fun _ _ h => h)
  refine lv_if_eq (tgt := 21) hx hb dX8_contract_8 (by decide) (fun c2 => ?_) (fun c2 => ?_)
  · replace h := h.1 c2
    refine g_ldc C kc_X8_59 dX8_contract_21 ?_
    exact g_iret (post := Q) (P' := fun u H => rg G LM aM u H) (r := (-1000001)) (u := ρ) C hr hK hS h hM dX8_contract_23
  · replace h := h.2 c2
    refine lv_iload_n hx hb dX8_contract_11 rfl (lv_at hl 2 rfl) ?_
    refine lv_iconst (v := 1) hx hb dX8_contract_12 (by decide) ?_
    refine lv_bipush (v := 20) hx hb dX8_contract_13 (by decide) ?_
    refine g_sI C hK hl.1 (m_X8_in l G x2 1 20 _ h) mw_X8_in ms_X8_in ml_X8_43 rfl ⟨rfl, rfl, Nat.le_of_ble_eq_true rfl, Nat.le_of_ble_eq_true rfl⟩ ⟨Nat.zero_le _, Nat.zero_le _⟩ trivial hS (fun _ h => h.elim) rfl (Nat.le_of_ble_eq_true rfl) dX8_contract_15 (fun r3 u H locs h hu _ hq hS => ?_)
    have hM := hM.past hq (fun _ _ h => h)
    refine lv_if_ne (tgt := 24) hx hb dX8_contract_18 (by decide) (fun c4 => ?_) (fun c4 => ?_)
    · replace h := h.1 c4
      refine lv_aload_n hx hb dX8_contract_24 rfl (lv_at hl 0 rfl) ?_
      refine g_getR (a := aM) (k := 0) (o := 1) C hK hM fl_X8_7 rfl rfl dX8_contract_25 ?_
      refine lv_iconst (v := 2) hx hb dX8_contract_28 (by decide) ?_
      refine g_ald (a := aM) (k := 1) (n := 164) C hK hM rfl (vp_dec (by decide)) dX8_contract_29 ?_
      refine lv_topi (fun v5 ev5 => ?_)
      specialize h v5 ev5
      refine lv_istore_n (lv' := [(3, .int v5), (0, .ref (aM + 0)), (1, .int x1), (2, .int x2)]) hx hb dX8_contract_30 rfl hl (by decide) rfl (fun ls hl => ?_)
      refine lv_iload_n hx hb dX8_contract_31 rfl (lv_at hl 0 rfl) ?_
      refine lv_bipush (v := 6) hx hb dX8_contract_32 (by decide) ?_
      refine lv_icmp_ne (tgt := 40) hx hb dX8_contract_34 (by decide) (fun c6 => ?_) (fun c6 => ?_)
      · replace h := h.1 c6
        refine lv_aload_n hx hb dX8_contract_40 rfl (lv_at hl 1 rfl) ?_
        refine g_vV C hK hl.1 (m_X8_changes l G aM ρ _ h) mw_X8_changes mi_X8_changes ml_X8_52 rfl ⟨rfl, rfl, Nat.le_of_ble_eq_true rfl, Nat.le_of_ble_eq_true rfl⟩ ⟨Nat.zero_le _, Nat.zero_le _⟩ (g_recv (a := aM) (k := 0) hK hM rfl rfl) hM hS (fun _ h => h) rfl (Nat.le_of_ble_eq_true rfl) dX8_contract_41 (fun u H locs h hu _ hq hS => ?_)
        obtain ⟨ρ8, rfl⟩ : ∃ z, z = u := ⟨_, rfl⟩
        have hM := hu
        refine lv_aload_n hx hb dX8_contract_44 rfl (lv_at hl 1 rfl) ?_
        refine g_getR (a := aM) (k := 0) (o := 1) C hK hM fl_X8_7 rfl rfl dX8_contract_45 ?_
        refine lv_sipush (v := 152) hx hb dX8_contract_48 (by decide) ?_
        refine lv_iconst (v := 2) hx hb dX8_contract_51 (by decide) ?_
        refine lv_iload_n hx hb dX8_contract_52 rfl (lv_at hl 0 rfl) ?_
        refine lv_imul hx hb dX8_contract_53 ?_
        refine lv_iadd hx hb dX8_contract_54 ?_
        refine lv_iload_n hx hb dX8_contract_55 rfl (lv_at hl 2 rfl) ?_
        obtain ⟨b9, h⟩ := h
        refine g_ast (a := aM) (k := 1) (n := 164) C hK hM hS rfl b9 (RA_in (by decide)) dX8_contract_56 (fun ρ10 H locs eρ10 hM hS hq => ?_)
        specialize h ρ10 eρ10
        refine lv_aload_n hx hb dX8_contract_57 rfl (lv_at hl 1 rfl) ?_
        refine g_getR (a := aM) (k := 0) (o := 1) C hK hM fl_X8_7 rfl rfl dX8_contract_58 ?_
        refine lv_sipush (v := 152) hx hb dX8_contract_61 (by decide) ?_
        refine lv_iconst (v := 2) hx hb dX8_contract_64 (by decide) ?_
        refine lv_iload_n hx hb dX8_contract_65 rfl (lv_at hl 0 rfl) ?_
        refine lv_imul hx hb dX8_contract_66 ?_
        refine lv_iadd hx hb dX8_contract_67 ?_
        refine lv_iconst (v := 1) hx hb dX8_contract_68 (by decide) ?_
        refine lv_iadd hx hb dX8_contract_69 ?_
        refine lv_iload_n hx hb dX8_contract_70 rfl (lv_at hl 3 rfl) ?_
        obtain ⟨b11, h⟩ := h
        refine g_ast (a := aM) (k := 1) (n := 164) C hK hM hS rfl b11 (RA_in (by decide)) dX8_contract_71 (fun ρ12 H locs eρ12 hM hS hq => ?_)
        specialize h ρ12 eρ12
        refine lv_aload_n hx hb dX8_contract_72 rfl (lv_at hl 1 rfl) ?_
        refine g_getR (a := aM) (k := 0) (o := 1) C hK hM fl_X8_7 rfl rfl dX8_contract_73 ?_
        refine lv_iconst (v := 2) hx hb dX8_contract_76 (by decide) ?_
        refine lv_dup2_11 hx hb dX8_contract_77 rfl rfl ?_
        refine g_ald (a := aM) (k := 1) (n := 164) C hK hM rfl (vp_dec (by decide)) dX8_contract_78 ?_
        refine lv_iconst (v := 1) hx hb dX8_contract_79 (by decide) ?_
        refine lv_iadd hx hb dX8_contract_80 ?_
        refine g_ast (a := aM) (k := 1) (n := 164) C hK hM hS rfl (vp_dec (by decide)) (RA_in (by decide)) dX8_contract_81 (fun ρ13 H locs eρ13 hM hS hq => ?_)
        specialize h ρ13 eρ13
        refine lv_iload_n hx hb dX8_contract_82 rfl (lv_at hl 0 rfl) ?_
        exact g_iret (post := Q) (P' := fun u H => rg G LM aM u H) (r := v5) (u := ρ13) C hr hK hS h hM dX8_contract_83
      · replace h := h.2 c6
        refine g_ldc C kc_X8_51 dX8_contract_37 ?_
        exact g_iret (post := Q) (P' := fun u H => rg G LM aM u H) (r := (-1000003)) (u := ρ) C hr hK hS h hM dX8_contract_39
    · replace h := h.2 c4
      refine g_ldc C kc_X8_59 dX8_contract_21 ?_
      exact g_iret (post := Q) (P' := fun u H => rg G LM aM u H) (r := (-1000001)) (u := ρ) C hr hK hS h hM dX8_contract_23
theorem dX8_left_0 : decode cX8_left 0 = .ok (.aload_n 0, 1) := by decide +kernel
theorem dX8_left_1 : decode cX8_left 1 = .ok (.iload_n 1, 1) := by decide +kernel
theorem dX8_left_2 : decode cX8_left 2 = .ok (.iconst 0, 1) := by decide +kernel
theorem dX8_left_3 : decode cX8_left 3 = .ok (.invokevirtual 64, 3) := by decide +kernel
theorem dX8_left_6 : decode cX8_left 6 = .ok (.istore_n 2, 1) := by decide +kernel
theorem dX8_left_7 : decode cX8_left 7 = .ok (.iconst 0, 1) := by decide +kernel
theorem dX8_left_8 : decode cX8_left 8 = .ok (.istore_n 3, 1) := by decide +kernel
theorem dX8_left_9 : decode cX8_left 9 = .ok (.iload_n 3, 1) := by decide +kernel
theorem dX8_left_10 : decode cX8_left 10 = .ok (.aload_n 0, 1) := by decide +kernel
theorem dX8_left_11 : decode cX8_left 11 = .ok (.invokevirtual 67, 3) := by decide +kernel
theorem dX8_left_14 : decode cX8_left 14 = .ok (.if_icmp .ge 27, 3) := by decide +kernel
theorem dX8_left_17 : decode cX8_left 17 = .ok (.iload_n 2, 1) := by decide +kernel
theorem dX8_left_18 : decode cX8_left 18 = .ok (.aload_n 0, 1) := by decide +kernel
theorem dX8_left_19 : decode cX8_left 19 = .ok (.iload_n 3, 1) := by decide +kernel
theorem dX8_left_20 : decode cX8_left 20 = .ok (.iconst 1, 1) := by decide +kernel
theorem dX8_left_21 : decode cX8_left 21 = .ok (.invokevirtual 60, 3) := by decide +kernel
theorem dX8_left_24 : decode cX8_left 24 = .ok (.iload_n 1, 1) := by decide +kernel
theorem dX8_left_25 : decode cX8_left 25 = .ok (.if_icmp .ne 7, 3) := by decide +kernel
theorem dX8_left_28 : decode cX8_left 28 = .ok (.iconst 1, 1) := by decide +kernel
theorem dX8_left_29 : decode cX8_left 29 = .ok (.goto 4, 3) := by decide +kernel
theorem dX8_left_32 : decode cX8_left 32 = .ok (.iconst 0, 1) := by decide +kernel
theorem dX8_left_33 : decode cX8_left 33 = .ok (.isub, 1) := by decide +kernel
theorem dX8_left_34 : decode cX8_left 34 = .ok (.istore_n 2, 1) := by decide +kernel
theorem dX8_left_35 : decode cX8_left 35 = .ok (.iinc 3 1, 3) := by decide +kernel
theorem dX8_left_38 : decode cX8_left 38 = .ok (.goto (-29), 3) := by decide +kernel
theorem dX8_left_41 : decode cX8_left 41 = .ok (.iload_n 2, 1) := by decide +kernel
theorem dX8_left_42 : decode cX8_left 42 = .ok (.ireturn, 1) := by decide +kernel
def vb_X8_left_9 (Q : Int32 → Prop) (ρ : Mem) (rec : Nat → Int32 → Int32 → Int32 → Prop) (w1 : Int32) (w2 : Int32) (w3 : Int32) : Prop :=
  vc_X8_workers (fun r2 => ((r2 ≤ w3) → (Q w2 )) ∧ ((¬ r2 ≤ w3) → (vc_X8_of (fun r4 => ((¬ r4 = w1) → (∀ v6 : Int32, v6 = (w2 - 0) → (∀ v7 : Int32, v7 = w3 + 1 → (rec 0 w1 v6 v7)))) ∧ ((r4 = w1) → (∀ v8 : Int32, v8 = (w2 - 1) → (∀ v9 : Int32, v9 = w3 + 1 → (rec 0 w1 v8 v9))))) ρ w3 1))) ρ
def vl_X8_left (Q : Int32 → Prop) (ρ : Mem) : Nat → Nat → Int32 → Int32 → Int32 → Prop
  | 0, _, _, _, _ => False
  | n + 1, 0, w1, w2, w3 => vb_X8_left_9 Q ρ (vl_X8_left Q ρ n) w1 w2 w3
  | _ + 1, _, _, _, _ => False
def vc_X8_left (Q : Int32 → Prop) (ρ : Mem) (x1 : Int32) : Prop :=
  ∃ n : Nat, vc_X8_ofTask (fun r1 => vl_X8_left Q ρ n 0 x1 r1 0) ρ x1 0
set_option maxHeartbeats 8000000 in
set_option maxRecDepth 100000 in
theorem m_X8_left (l : Launch) (G : GG) (aM : Nat) (ρ : Mem) (x1 : Int32) (Q : Int32 → Prop) (h : vc_X8_left Q ρ x1) : CtI l yX8_left cX8_left 4 (some .int) { frames := 1, cells := 0, slots := 0, locals := 22 } [.ref (aM + 0), .int x1] G (fun H => rg G LM aM ρ H) (fun r (_ : Unit) => Q r) (fun _ _ => True) (fun _ => False) := by
  unfold CtI
  refine met_start (y := yX8_left) (maxL := 4) (av := [.ref (aM + 0), .int x1]) (G := G) (P := fun H => rg G LM aM ρ H) (by decide) rfl (Nat.le_of_ble_eq_true rfl) (fun p e s m below meth c ls C hr hP hK hl => ?_)
  obtain ⟨hx, hb, hml, hown, hts, hlocks⟩ := id C
  have hM : rg G LM aM ρ s.heap := hP
  have hS : va_S (fun _ => False) s.heap s.heap [] := va_S.rf
  have hl : lv_has ls 4 [(0, .ref (aM + 0)), (1, .int x1)] := hl
  have K : ∀ n : Nat, (∀ (w1 : Int32) (w2 : Int32) (w3 : Int32) (H : Heap) (locs : List Loc) (ls : Array Slot), rg G LM aM ρ H → va_S (fun _ => False) s.heap H locs → lv_has ls 4 [(0, .ref (aM + 0)), (1, .int w1), (2, .int w2), (3, .int w3)] → vl_X8_left Q ρ n 0 w1 w2 w3 → W p l e { frames := 1, cells := 0, slots := 0, locals := 22 } s m [.ref (aM + 0), .int x1].toArray below meth c H locs 0 0 (MQ below (va_Qi (fun r (_ : Unit) => Q r) (fun u t => (fun _ _ => True) u t.heap ∧ KK G t) (fun _ => False)) [.ref (aM + 0), .int x1].toArray s 0 0 (fun _ => False)) (F0 m 9 ls [])) := by
    intro n
    induction n with
    | zero => exact fun _ _ _ _ _ _ _ _ _ h => h.elim
    | succ n ih =>
      · intro w1 w2 w3 H locs ls hM hS hl h
        replace h : vb_X8_left_9 Q ρ (vl_X8_left Q ρ n) w1 w2 w3 := h
        unfold vb_X8_left_9 at h
        refine lv_iload_n hx hb dX8_left_9 rfl (lv_at hl 3 rfl) ?_
        refine lv_aload_n hx hb dX8_left_10 rfl (lv_at hl 0 rfl) ?_
        refine g_vI C hK hl.1 (m_X8_workers l G aM ρ _ h) mw_X8_workers mi_X8_workers ml_X8_67 rfl ⟨rfl, rfl, Nat.le_of_ble_eq_true rfl, Nat.le_of_ble_eq_true rfl⟩ ⟨Nat.zero_le _, Nat.zero_le _⟩ (g_recv (a := aM) (k := 0) hK hM rfl rfl) hM hS (fun _ h => h.elim) rfl (Nat.le_of_ble_eq_true rfl) dX8_left_11 (fun r2 u H locs h hu _ hq hS => ?_)
        have hM := hM.past hq (fun _ _ h => h)
        refine lv_icmp_ge (tgt := 41) hx hb dX8_left_14 (by decide) (fun c3 => ?_) (fun c3 => ?_)
        · replace h := h.1 c3
          refine lv_iload_n hx hb dX8_left_41 rfl (lv_at hl 2 rfl) ?_
          exact g_iret (post := fun r (_ : Unit) => Q r) (P' := fun _ _ => True) (r := w2) (u := ()) C hr hK hS h trivial dX8_left_42
        · replace h := h.2 c3
          refine lv_iload_n hx hb dX8_left_17 rfl (lv_at hl 2 rfl) ?_
          refine lv_aload_n hx hb dX8_left_18 rfl (lv_at hl 0 rfl) ?_
          refine lv_iload_n hx hb dX8_left_19 rfl (lv_at hl 3 rfl) ?_
          refine lv_iconst (v := 1) hx hb dX8_left_20 (by decide) ?_
          refine g_vI C hK hl.1 (m_X8_of l G aM ρ w3 1 _ h) mw_X8_of mi_X8_of ml_X8_60 rfl ⟨rfl, rfl, Nat.le_of_ble_eq_true rfl, Nat.le_of_ble_eq_true rfl⟩ ⟨Nat.zero_le _, Nat.zero_le _⟩ (g_recv (a := aM) (k := 0) hK hM rfl rfl) hM hS (fun _ h => h.elim) rfl (Nat.le_of_ble_eq_true rfl) dX8_left_21 (fun r4 u H locs h hu _ hq hS => ?_)
          have hM := hM.past hq (fun _ _ h => h)
          refine lv_iload_n hx hb dX8_left_24 rfl (lv_at hl 1 rfl) ?_
          refine lv_icmp_ne (tgt := 32) hx hb dX8_left_25 (by decide) (fun c5 => ?_) (fun c5 => ?_)
          · replace h := h.1 c5
            refine lv_iconst (v := 0) hx hb dX8_left_32 (by decide) ?_
            refine lv_isub hx hb dX8_left_33 ?_
            refine lv_topi (fun v6 ev6 => ?_)
            specialize h v6 ev6
            refine lv_istore_n (lv' := [(2, .int v6), (0, .ref (aM + 0)), (1, .int w1), (3, .int w3)]) hx hb dX8_left_34 rfl hl (by decide) rfl (fun ls hl => ?_)
            obtain ⟨v7, ev7⟩ : ∃ y : Int32, y = w3 + 1 := ⟨_, rfl⟩
            specialize h v7 ev7
            refine lv_iinc (v := v7) (lv' := [(3, .int v7), (2, .int v6), (0, .ref (aM + 0)), (1, .int w1)]) hx hb dX8_left_35 hl (k := 3) rfl (by rw [ev7]; rfl) (by decide) rfl (fun ls hl => ?_)
            refine lv_goto (tgt := 9) hx hb dX8_left_38 (by decide) ?_
            exact (ih) w1 v6 v7 _ _ _ hM hS (lv_sub hl [2, 3, 1, 0] rfl) h
          · replace h := h.2 c5
            refine lv_iconst (v := 1) hx hb dX8_left_28 (by decide) ?_
            refine lv_goto (tgt := 33) hx hb dX8_left_29 (by decide) ?_
            refine lv_isub hx hb dX8_left_33 ?_
            refine lv_topi (fun v8 ev8 => ?_)
            specialize h v8 ev8
            refine lv_istore_n (lv' := [(2, .int v8), (0, .ref (aM + 0)), (1, .int w1), (3, .int w3)]) hx hb dX8_left_34 rfl hl (by decide) rfl (fun ls hl => ?_)
            obtain ⟨v9, ev9⟩ : ∃ y : Int32, y = w3 + 1 := ⟨_, rfl⟩
            specialize h v9 ev9
            refine lv_iinc (v := v9) (lv' := [(3, .int v9), (2, .int v8), (0, .ref (aM + 0)), (1, .int w1)]) hx hb dX8_left_35 hl (k := 3) rfl (by rw [ev9]; rfl) (by decide) rfl (fun ls hl => ?_)
            refine lv_goto (tgt := 9) hx hb dX8_left_38 (by decide) ?_
            exact (ih) w1 v8 v9 _ _ _ hM hS (lv_sub hl [2, 3, 1, 0] rfl) h
  unfold vc_X8_left at h
  obtain ⟨n, h⟩ := h
  refine lv_aload_n hx hb dX8_left_0 rfl (lv_at hl 0 rfl) ?_
  refine lv_iload_n hx hb dX8_left_1 rfl (lv_at hl 1 rfl) ?_
  refine lv_iconst (v := 0) hx hb dX8_left_2 (by decide) ?_
  refine g_vI C hK hl.1 (m_X8_ofTask l G aM ρ x1 0 _ h) mw_X8_ofTask mi_X8_ofTask ml_X8_64 rfl ⟨rfl, rfl, Nat.le_of_ble_eq_true rfl, Nat.le_of_ble_eq_true rfl⟩ ⟨Nat.zero_le _, Nat.zero_le _⟩ (g_recv (a := aM) (k := 0) hK hM rfl rfl) hM hS (fun _ h => h.elim) rfl (Nat.le_of_ble_eq_true rfl) dX8_left_3 (fun r1 u H locs h hu _ hq hS => ?_)
  have hM := hM.past hq (fun _ _ h => h)
  refine lv_istore_n (lv' := [(2, .int r1), (0, .ref (aM + 0)), (1, .int x1)]) hx hb dX8_left_6 rfl hl (by decide) rfl (fun ls hl => ?_)
  refine lv_iconst (v := 0) hx hb dX8_left_7 (by decide) ?_
  refine lv_istore_n (lv' := [(3, .int 0), (2, .int r1), (0, .ref (aM + 0)), (1, .int x1)]) hx hb dX8_left_8 rfl hl (by decide) rfl (fun ls hl => ?_)
  exact ((K n)) x1 r1 0 _ _ _ hM hS (lv_sub hl [2, 3, 1, 0] rfl) h
theorem dX8_canPut_0 : decode cX8_canPut 0 = .ok (.aload_n 0, 1) := by decide +kernel
theorem dX8_canPut_1 : decode cX8_canPut 1 = .ok (.iload_n 1, 1) := by decide +kernel
theorem dX8_canPut_2 : decode cX8_canPut 2 = .ok (.iconst 2, 1) := by decide +kernel
theorem dX8_canPut_3 : decode cX8_canPut 3 = .ok (.invokevirtual 60, 3) := by decide +kernel
theorem dX8_canPut_6 : decode cX8_canPut 6 = .ok (.ifCond .ne 41, 3) := by decide +kernel
theorem dX8_canPut_9 : decode cX8_canPut 9 = .ok (.aload_n 0, 1) := by decide +kernel
theorem dX8_canPut_10 : decode cX8_canPut 10 = .ok (.iload_n 2, 1) := by decide +kernel
theorem dX8_canPut_11 : decode cX8_canPut 11 = .ok (.invokevirtual 71, 3) := by decide +kernel
theorem dX8_canPut_14 : decode cX8_canPut 14 = .ok (.ifCond .gt 13, 3) := by decide +kernel
theorem dX8_canPut_17 : decode cX8_canPut 17 = .ok (.aload_n 0, 1) := by decide +kernel
theorem dX8_canPut_18 : decode cX8_canPut 18 = .ok (.iload_n 1, 1) := by decide +kernel
theorem dX8_canPut_19 : decode cX8_canPut 19 = .ok (.iconst 1, 1) := by decide +kernel
theorem dX8_canPut_20 : decode cX8_canPut 20 = .ok (.invokevirtual 60, 3) := by decide +kernel
theorem dX8_canPut_23 : decode cX8_canPut 23 = .ok (.iload_n 2, 1) := by decide +kernel
theorem dX8_canPut_24 : decode cX8_canPut 24 = .ok (.if_icmp .ne 23, 3) := by decide +kernel
theorem dX8_canPut_27 : decode cX8_canPut 27 = .ok (.aload_n 0, 1) := by decide +kernel
theorem dX8_canPut_28 : decode cX8_canPut 28 = .ok (.iload_n 1, 1) := by decide +kernel
theorem dX8_canPut_29 : decode cX8_canPut 29 = .ok (.iconst 3, 1) := by decide +kernel
theorem dX8_canPut_30 : decode cX8_canPut 30 = .ok (.idiv, 1) := by decide +kernel
theorem dX8_canPut_31 : decode cX8_canPut 31 = .ok (.aload_n 0, 1) := by decide +kernel
theorem dX8_canPut_32 : decode cX8_canPut 32 = .ok (.iload_n 2, 1) := by decide +kernel
theorem dX8_canPut_33 : decode cX8_canPut 33 = .ok (.iconst 1, 1) := by decide +kernel
theorem dX8_canPut_34 : decode cX8_canPut 34 = .ok (.invokevirtual 64, 3) := by decide +kernel
theorem dX8_canPut_37 : decode cX8_canPut 37 = .ok (.invokevirtual 75, 3) := by decide +kernel
theorem dX8_canPut_40 : decode cX8_canPut 40 = .ok (.ifCond .eq 7, 3) := by decide +kernel
theorem dX8_canPut_43 : decode cX8_canPut 43 = .ok (.iconst 1, 1) := by decide +kernel
theorem dX8_canPut_44 : decode cX8_canPut 44 = .ok (.goto 4, 3) := by decide +kernel
theorem dX8_canPut_47 : decode cX8_canPut 47 = .ok (.iconst 0, 1) := by decide +kernel
theorem dX8_canPut_48 : decode cX8_canPut 48 = .ok (.ireturn, 1) := by decide +kernel
def vb_X8_canPut_27 (Q : Int32 → Prop) (ρ : Mem) (rec : Nat → Int32 → Int32 → Prop) (w1 : Int32) (w2 : Int32) : Prop :=
  vc_X8_ofTask (fun r7 => vc_X8_has (fun r8 => ((r8 = 0) → (Q 0 )) ∧ ((¬ r8 = 0) → (Q 1 ))) ρ (w1 / 3) r7) ρ w2 1
def vl_X8_canPut (Q : Int32 → Prop) (ρ : Mem) : Nat → Nat → Int32 → Int32 → Prop
  | 0, _, _, _ => False
  | n + 1, 0, w1, w2 => vb_X8_canPut_27 Q ρ (vl_X8_canPut Q ρ n) w1 w2
  | _ + 1, _, _, _ => False
def vc_X8_canPut (Q : Int32 → Prop) (ρ : Mem) (x1 : Int32) (x2 : Int32) : Prop :=
  ∃ n : Nat, vc_X8_of (fun r1 => ((¬ r1 = 0) → (Q 0 )) ∧ ((r1 = 0) → (vc_X8_left (fun r3 => ((0 < r3) → (vl_X8_canPut Q ρ n 0 x1 x2)) ∧ ((¬ 0 < r3) → (vc_X8_of (fun r5 => ((¬ r5 = x2) → (Q 0 )) ∧ ((r5 = x2) → (vl_X8_canPut Q ρ n 0 x1 x2))) ρ x1 1))) ρ x2))) ρ x1 2
set_option maxHeartbeats 8000000 in
set_option maxRecDepth 100000 in
theorem m_X8_canPut (l : Launch) (G : GG) (aM : Nat) (ρ : Mem) (x1 : Int32) (x2 : Int32) (Q : Int32 → Prop) (h : vc_X8_canPut Q ρ x1 x2) : CtI l yX8_canPut cX8_canPut 3 (some .boolean) { frames := 2, cells := 0, slots := 0, locals := 45 } [.ref (aM + 0), .int x1, .int x2] G (fun H => rg G LM aM ρ H) (fun r (_ : Unit) => Q r) (fun _ _ => True) (fun _ => False) := by
  unfold CtI
  refine met_start (y := yX8_canPut) (maxL := 3) (av := [.ref (aM + 0), .int x1, .int x2]) (G := G) (P := fun H => rg G LM aM ρ H) (by decide) rfl (Nat.le_of_ble_eq_true rfl) (fun p e s m below meth c ls C hr hP hK hl => ?_)
  obtain ⟨hx, hb, hml, hown, hts, hlocks⟩ := id C
  have hM : rg G LM aM ρ s.heap := hP
  have hS : va_S (fun _ => False) s.heap s.heap [] := va_S.rf
  have hl : lv_has ls 3 [(0, .ref (aM + 0)), (1, .int x1), (2, .int x2)] := hl
  have K : ∀ n : Nat, (∀ (w1 : Int32) (w2 : Int32) (H : Heap) (locs : List Loc) (ls : Array Slot), rg G LM aM ρ H → va_S (fun _ => False) s.heap H locs → lv_has ls 3 [(0, .ref (aM + 0)), (1, .int w1), (2, .int w2)] → vl_X8_canPut Q ρ n 0 w1 w2 → W p l e { frames := 2, cells := 0, slots := 0, locals := 45 } s m [.ref (aM + 0), .int x1, .int x2].toArray below meth c H locs 0 0 (MQ below (va_Qi (fun r (_ : Unit) => Q r) (fun u t => (fun _ _ => True) u t.heap ∧ KK G t) (fun _ => False)) [.ref (aM + 0), .int x1, .int x2].toArray s 0 0 (fun _ => False)) (F0 m 27 ls [])) := by
    intro n
    induction n with
    | zero => exact fun _ _ _ _ _ _ _ _ h => h.elim
    | succ n ih =>
      · intro w1 w2 H locs ls hM hS hl h
        replace h : vb_X8_canPut_27 Q ρ (vl_X8_canPut Q ρ n) w1 w2 := h
        unfold vb_X8_canPut_27 at h
        refine lv_aload_n hx hb dX8_canPut_27 rfl (lv_at hl 0 rfl) ?_
        refine lv_iload_n hx hb dX8_canPut_28 rfl (lv_at hl 1 rfl) ?_
        refine lv_iconst (v := 3) hx hb dX8_canPut_29 (by decide) ?_
        refine lv_idiv hx hb dX8_canPut_30 (by decide) ?_
        refine lv_aload_n hx hb dX8_canPut_31 rfl (lv_at hl 0 rfl) ?_
        refine lv_iload_n hx hb dX8_canPut_32 rfl (lv_at hl 2 rfl) ?_
        refine lv_iconst (v := 1) hx hb dX8_canPut_33 (by decide) ?_
        refine g_vI C hK hl.1 (m_X8_ofTask l G aM ρ w2 1 _ h) mw_X8_ofTask mi_X8_ofTask ml_X8_64 rfl ⟨rfl, rfl, Nat.le_of_ble_eq_true rfl, Nat.le_of_ble_eq_true rfl⟩ ⟨Nat.zero_le _, Nat.zero_le _⟩ (g_recv (a := aM) (k := 0) hK hM rfl rfl) hM hS (fun _ h => h.elim) rfl (Nat.le_of_ble_eq_true rfl) dX8_canPut_34 (fun r7 u H locs h hu _ hq hS => ?_)
        have hM := hM.past hq (fun _ _ h => h)
        refine g_vI C hK hl.1 (m_X8_has l G aM ρ (w1 / 3) r7 _ h) mw_X8_has mi_X8_has ml_X8_75 rfl ⟨rfl, rfl, Nat.le_of_ble_eq_true rfl, Nat.le_of_ble_eq_true rfl⟩ ⟨Nat.zero_le _, Nat.zero_le _⟩ (g_recv (a := aM) (k := 0) hK hM rfl rfl) hM hS (fun _ h => h.elim) rfl (Nat.le_of_ble_eq_true rfl) dX8_canPut_37 (fun r8 u H locs h hu _ hq hS => ?_)
        have hM := hM.past hq (fun _ _ h => h)
        refine lv_if_eq (tgt := 47) hx hb dX8_canPut_40 (by decide) (fun c9 => ?_) (fun c9 => ?_)
        · replace h := h.1 c9
          refine lv_iconst (v := 0) hx hb dX8_canPut_47 (by decide) ?_
          exact g_zret (post := fun r (_ : Unit) => Q r) (P' := fun _ _ => True) (r := 0) (u := ()) C hr hK hS (by rfl) h trivial dX8_canPut_48
        · replace h := h.2 c9
          refine lv_iconst (v := 1) hx hb dX8_canPut_43 (by decide) ?_
          refine lv_goto (tgt := 48) hx hb dX8_canPut_44 (by decide) ?_
          exact g_zret (post := fun r (_ : Unit) => Q r) (P' := fun _ _ => True) (r := 1) (u := ()) C hr hK hS (by rfl) h trivial dX8_canPut_48
  unfold vc_X8_canPut at h
  obtain ⟨n, h⟩ := h
  refine lv_aload_n hx hb dX8_canPut_0 rfl (lv_at hl 0 rfl) ?_
  refine lv_iload_n hx hb dX8_canPut_1 rfl (lv_at hl 1 rfl) ?_
  refine lv_iconst (v := 2) hx hb dX8_canPut_2 (by decide) ?_
  refine g_vI C hK hl.1 (m_X8_of l G aM ρ x1 2 _ h) mw_X8_of mi_X8_of ml_X8_60 rfl ⟨rfl, rfl, Nat.le_of_ble_eq_true rfl, Nat.le_of_ble_eq_true rfl⟩ ⟨Nat.zero_le _, Nat.zero_le _⟩ (g_recv (a := aM) (k := 0) hK hM rfl rfl) hM hS (fun _ h => h.elim) rfl (Nat.le_of_ble_eq_true rfl) dX8_canPut_3 (fun r1 u H locs h hu _ hq hS => ?_)
  have hM := hM.past hq (fun _ _ h => h)
  refine lv_if_ne (tgt := 47) hx hb dX8_canPut_6 (by decide) (fun c2 => ?_) (fun c2 => ?_)
  · replace h := h.1 c2
    refine lv_iconst (v := 0) hx hb dX8_canPut_47 (by decide) ?_
    exact g_zret (post := fun r (_ : Unit) => Q r) (P' := fun _ _ => True) (r := 0) (u := ()) C hr hK hS (by rfl) h trivial dX8_canPut_48
  · replace h := h.2 c2
    refine lv_aload_n hx hb dX8_canPut_9 rfl (lv_at hl 0 rfl) ?_
    refine lv_iload_n hx hb dX8_canPut_10 rfl (lv_at hl 2 rfl) ?_
    refine g_vI C hK hl.1 (m_X8_left l G aM ρ x2 _ h) mw_X8_left mi_X8_left ml_X8_71 rfl ⟨rfl, rfl, Nat.le_of_ble_eq_true rfl, Nat.le_of_ble_eq_true rfl⟩ ⟨Nat.zero_le _, Nat.zero_le _⟩ (g_recv (a := aM) (k := 0) hK hM rfl rfl) hM hS (fun _ h => h.elim) rfl (Nat.le_of_ble_eq_true rfl) dX8_canPut_11 (fun r3 u H locs h hu _ hq hS => ?_)
    have hM := hM.past hq (fun _ _ h => h)
    refine lv_if_gt (tgt := 27) hx hb dX8_canPut_14 (by decide) (fun c4 => ?_) (fun c4 => ?_)
    · replace h := h.1 c4
      exact ((K n)) x1 x2 _ _ _ hM hS (lv_sub hl [0, 1, 2] rfl) h
    · replace h := h.2 c4
      refine lv_aload_n hx hb dX8_canPut_17 rfl (lv_at hl 0 rfl) ?_
      refine lv_iload_n hx hb dX8_canPut_18 rfl (lv_at hl 1 rfl) ?_
      refine lv_iconst (v := 1) hx hb dX8_canPut_19 (by decide) ?_
      refine g_vI C hK hl.1 (m_X8_of l G aM ρ x1 1 _ h) mw_X8_of mi_X8_of ml_X8_60 rfl ⟨rfl, rfl, Nat.le_of_ble_eq_true rfl, Nat.le_of_ble_eq_true rfl⟩ ⟨Nat.zero_le _, Nat.zero_le _⟩ (g_recv (a := aM) (k := 0) hK hM rfl rfl) hM hS (fun _ h => h.elim) rfl (Nat.le_of_ble_eq_true rfl) dX8_canPut_20 (fun r5 u H locs h hu _ hq hS => ?_)
      have hM := hM.past hq (fun _ _ h => h)
      refine lv_iload_n hx hb dX8_canPut_23 rfl (lv_at hl 2 rfl) ?_
      refine lv_icmp_ne (tgt := 47) hx hb dX8_canPut_24 (by decide) (fun c6 => ?_) (fun c6 => ?_)
      · replace h := h.1 c6
        refine lv_iconst (v := 0) hx hb dX8_canPut_47 (by decide) ?_
        exact g_zret (post := fun r (_ : Unit) => Q r) (P' := fun _ _ => True) (r := 0) (u := ()) C hr hK hS (by rfl) h trivial dX8_canPut_48
      · replace h := h.2 c6
        exact ((K n)) x1 x2 _ _ _ hM hS (lv_sub hl [0, 1, 2] rfl) h
theorem dX8_puts_0 : decode cX8_puts 0 = .ok (.aload_n 0, 1) := by decide +kernel
theorem dX8_puts_1 : decode cX8_puts 1 = .ok (.iload_n 1, 1) := by decide +kernel
theorem dX8_puts_2 : decode cX8_puts 2 = .ok (.iconst 3, 1) := by decide +kernel
theorem dX8_puts_3 : decode cX8_puts 3 = .ok (.idiv, 1) := by decide +kernel
theorem dX8_puts_4 : decode cX8_puts 4 = .ok (.aload_n 0, 1) := by decide +kernel
theorem dX8_puts_5 : decode cX8_puts 5 = .ok (.iload_n 2, 1) := by decide +kernel
theorem dX8_puts_6 : decode cX8_puts 6 = .ok (.iconst 1, 1) := by decide +kernel
theorem dX8_puts_7 : decode cX8_puts 7 = .ok (.invokevirtual 64, 3) := by decide +kernel
theorem dX8_puts_10 : decode cX8_puts 10 = .ok (.invokevirtual 78, 3) := by decide +kernel
theorem dX8_puts_13 : decode cX8_puts 13 = .ok (.aload_n 0, 1) := by decide +kernel
theorem dX8_puts_14 : decode cX8_puts 14 = .ok (.getfield 7, 3) := by decide +kernel
theorem dX8_puts_17 : decode cX8_puts 17 = .ok (.bipush 28, 2) := by decide +kernel
theorem dX8_puts_19 : decode cX8_puts 19 = .ok (.bipush 7, 2) := by decide +kernel
theorem dX8_puts_21 : decode cX8_puts 21 = .ok (.iload_n 1, 1) := by decide +kernel
theorem dX8_puts_22 : decode cX8_puts 22 = .ok (.imul, 1) := by decide +kernel
theorem dX8_puts_23 : decode cX8_puts 23 = .ok (.iadd, 1) := by decide +kernel
theorem dX8_puts_24 : decode cX8_puts 24 = .ok (.bipush 6, 2) := by decide +kernel
theorem dX8_puts_26 : decode cX8_puts 26 = .ok (.iadd, 1) := by decide +kernel
theorem dX8_puts_27 : decode cX8_puts 27 = .ok (.aload_n 0, 1) := by decide +kernel
theorem dX8_puts_28 : decode cX8_puts 28 = .ok (.getfield 7, 3) := by decide +kernel
theorem dX8_puts_31 : decode cX8_puts 31 = .ok (.bipush 7, 2) := by decide +kernel
theorem dX8_puts_33 : decode cX8_puts 33 = .ok (.iaload, 1) := by decide +kernel
theorem dX8_puts_34 : decode cX8_puts 34 = .ok (.iastore, 1) := by decide +kernel
theorem dX8_puts_35 : decode cX8_puts 35 = .ok (.aload_n 0, 1) := by decide +kernel
theorem dX8_puts_36 : decode cX8_puts 36 = .ok (.getfield 7, 3) := by decide +kernel
theorem dX8_puts_39 : decode cX8_puts 39 = .ok (.bipush 7, 2) := by decide +kernel
theorem dX8_puts_41 : decode cX8_puts 41 = .ok (.dup2, 1) := by decide +kernel
theorem dX8_puts_42 : decode cX8_puts 42 = .ok (.iaload, 1) := by decide +kernel
theorem dX8_puts_43 : decode cX8_puts 43 = .ok (.iconst 1, 1) := by decide +kernel
theorem dX8_puts_44 : decode cX8_puts 44 = .ok (.iadd, 1) := by decide +kernel
theorem dX8_puts_45 : decode cX8_puts 45 = .ok (.iastore, 1) := by decide +kernel
theorem dX8_puts_46 : decode cX8_puts 46 = .ok (.aload_n 0, 1) := by decide +kernel
theorem dX8_puts_47 : decode cX8_puts 47 = .ok (.getfield 7, 3) := by decide +kernel
theorem dX8_puts_50 : decode cX8_puts 50 = .ok (.bipush 28, 2) := by decide +kernel
theorem dX8_puts_52 : decode cX8_puts 52 = .ok (.bipush 7, 2) := by decide +kernel
theorem dX8_puts_54 : decode cX8_puts 54 = .ok (.iload_n 1, 1) := by decide +kernel
theorem dX8_puts_55 : decode cX8_puts 55 = .ok (.imul, 1) := by decide +kernel
theorem dX8_puts_56 : decode cX8_puts 56 = .ok (.iadd, 1) := by decide +kernel
theorem dX8_puts_57 : decode cX8_puts 57 = .ok (.iconst 1, 1) := by decide +kernel
theorem dX8_puts_58 : decode cX8_puts 58 = .ok (.iadd, 1) := by decide +kernel
theorem dX8_puts_59 : decode cX8_puts 59 = .ok (.iload_n 2, 1) := by decide +kernel
theorem dX8_puts_60 : decode cX8_puts 60 = .ok (.iastore, 1) := by decide +kernel
theorem dX8_puts_61 : decode cX8_puts 61 = .ok (.aload_n 0, 1) := by decide +kernel
theorem dX8_puts_62 : decode cX8_puts 62 = .ok (.getfield 7, 3) := by decide +kernel
theorem dX8_puts_65 : decode cX8_puts 65 = .ok (.bipush 28, 2) := by decide +kernel
theorem dX8_puts_67 : decode cX8_puts 67 = .ok (.bipush 7, 2) := by decide +kernel
theorem dX8_puts_69 : decode cX8_puts 69 = .ok (.iload_n 1, 1) := by decide +kernel
theorem dX8_puts_70 : decode cX8_puts 70 = .ok (.imul, 1) := by decide +kernel
theorem dX8_puts_71 : decode cX8_puts 71 = .ok (.iadd, 1) := by decide +kernel
theorem dX8_puts_72 : decode cX8_puts 72 = .ok (.iconst 2, 1) := by decide +kernel
theorem dX8_puts_73 : decode cX8_puts 73 = .ok (.iadd, 1) := by decide +kernel
theorem dX8_puts_74 : decode cX8_puts 74 = .ok (.aload_n 0, 1) := by decide +kernel
theorem dX8_puts_75 : decode cX8_puts 75 = .ok (.iload_n 1, 1) := by decide +kernel
theorem dX8_puts_76 : decode cX8_puts 76 = .ok (.iconst 0, 1) := by decide +kernel
theorem dX8_puts_77 : decode cX8_puts 77 = .ok (.invokevirtual 60, 3) := by decide +kernel
theorem dX8_puts_80 : decode cX8_puts 80 = .ok (.iastore, 1) := by decide +kernel
theorem dX8_puts_81 : decode cX8_puts 81 = .ok (.return_, 1) := by decide +kernel
def vc_X8_puts (Q : Mem → Prop) (ρ : Mem) (x1 : Int32) (x2 : Int32) : Prop :=
  vc_X8_ofTask (fun r1 => vc_X8_pays (fun ρ3 => (vp_in ((28 + (7 * x1)) + 6) 164 ∧ (∀ ρ5 : Mem, ρ5 = up ρ3 1 ((28 + (7 * x1)) + 6).toNatClampNeg (ρ3 1 (7 : Int32).toNatClampNeg) → (((∀ ρ6 : Mem, ρ6 = up ρ5 1 (7 : Int32).toNatClampNeg ((ρ5 1 (7 : Int32).toNatClampNeg) + 1) → (vp_in ((28 + (7 * x1)) + 1) 164 ∧ (∀ ρ8 : Mem, ρ8 = up ρ6 1 ((28 + (7 * x1)) + 1).toNatClampNeg x2 → (vc_X8_of (fun r9 => vp_in ((28 + (7 * x1)) + 2) 164 ∧ (∀ ρ11 : Mem, ρ11 = up ρ8 1 ((28 + (7 * x1)) + 2).toNatClampNeg r9 → (Q ρ11))) ρ8 x1 0))))))))) ρ (x1 / 3) r1) ρ x2 1
set_option maxHeartbeats 8000000 in
set_option maxRecDepth 100000 in
theorem m_X8_puts (l : Launch) (G : GG) (aM : Nat) (ρ : Mem) (x1 : Int32) (x2 : Int32) (Q : Mem → Prop) (h : vc_X8_puts Q ρ x1 x2) : CtV l yX8_puts cX8_puts 3 { frames := 2, cells := 0, slots := 0, locals := 44 } [.ref (aM + 0), .int x1, .int x2] G (fun H => rg G LM aM ρ H) (Q) (fun u H => rg G LM aM u H) (RA aM 8) := by
  unfold CtV
  refine met_start (y := yX8_puts) (maxL := 3) (av := [.ref (aM + 0), .int x1, .int x2]) (G := G) (P := fun H => rg G LM aM ρ H) (by decide) rfl (Nat.le_of_ble_eq_true rfl) (fun p e s m below meth c ls C hr hP hK hl => ?_)
  obtain ⟨hx, hb, hml, hown, hts, hlocks⟩ := id C
  have hM : rg G LM aM ρ s.heap := hP
  have hS : va_S (RA aM 8) s.heap s.heap [] := va_S.rf
  have hl : lv_has ls 3 [(0, .ref (aM + 0)), (1, .int x1), (2, .int x2)] := hl
  unfold vc_X8_puts at h
  refine lv_aload_n hx hb dX8_puts_0 rfl (lv_at hl 0 rfl) ?_
  refine lv_iload_n hx hb dX8_puts_1 rfl (lv_at hl 1 rfl) ?_
  refine lv_iconst (v := 3) hx hb dX8_puts_2 (by decide) ?_
  refine lv_idiv hx hb dX8_puts_3 (by decide) ?_
  refine lv_aload_n hx hb dX8_puts_4 rfl (lv_at hl 0 rfl) ?_
  refine lv_iload_n hx hb dX8_puts_5 rfl (lv_at hl 2 rfl) ?_
  refine lv_iconst (v := 1) hx hb dX8_puts_6 (by decide) ?_
  refine g_vI C hK hl.1 (m_X8_ofTask l G aM ρ x2 1 _ h) mw_X8_ofTask mi_X8_ofTask ml_X8_64 rfl ⟨rfl, rfl, Nat.le_of_ble_eq_true rfl, Nat.le_of_ble_eq_true rfl⟩ ⟨Nat.zero_le _, Nat.zero_le _⟩ (g_recv (a := aM) (k := 0) hK hM rfl rfl) hM hS (fun _ h => h.elim) rfl (Nat.le_of_ble_eq_true rfl) dX8_puts_7 (fun r1 u H locs h hu _ hq hS => ?_)
  have hM := hM.past hq (fun _ _ h => h)
  refine g_vV C hK hl.1 (m_X8_pays l G aM ρ (x1 / 3) r1 _ h) mw_X8_pays mi_X8_pays ml_X8_78 rfl ⟨rfl, rfl, Nat.le_of_ble_eq_true rfl, Nat.le_of_ble_eq_true rfl⟩ ⟨Nat.zero_le _, Nat.zero_le _⟩ (g_recv (a := aM) (k := 0) hK hM rfl rfl) hM hS (fun _ h => h) rfl (Nat.le_of_ble_eq_true rfl) dX8_puts_10 (fun u H locs h hu _ hq hS => ?_)
  obtain ⟨ρ3, rfl⟩ : ∃ z, z = u := ⟨_, rfl⟩
  have hM := hu
  refine lv_aload_n hx hb dX8_puts_13 rfl (lv_at hl 0 rfl) ?_
  refine g_getR (a := aM) (k := 0) (o := 1) C hK hM fl_X8_7 rfl rfl dX8_puts_14 ?_
  refine lv_bipush (v := 28) hx hb dX8_puts_17 (by decide) ?_
  refine lv_bipush (v := 7) hx hb dX8_puts_19 (by decide) ?_
  refine lv_iload_n hx hb dX8_puts_21 rfl (lv_at hl 1 rfl) ?_
  refine lv_imul hx hb dX8_puts_22 ?_
  refine lv_iadd hx hb dX8_puts_23 ?_
  refine lv_bipush (v := 6) hx hb dX8_puts_24 (by decide) ?_
  refine lv_iadd hx hb dX8_puts_26 ?_
  refine lv_aload_n hx hb dX8_puts_27 rfl (lv_at hl 0 rfl) ?_
  refine g_getR (a := aM) (k := 0) (o := 1) C hK hM fl_X8_7 rfl rfl dX8_puts_28 ?_
  refine lv_bipush (v := 7) hx hb dX8_puts_31 (by decide) ?_
  refine g_ald (a := aM) (k := 1) (n := 164) C hK hM rfl (vp_dec (by decide)) dX8_puts_33 ?_
  obtain ⟨b4, h⟩ := h
  refine g_ast (a := aM) (k := 1) (n := 164) C hK hM hS rfl b4 (RA_in (by decide)) dX8_puts_34 (fun ρ5 H locs eρ5 hM hS hq => ?_)
  specialize h ρ5 eρ5
  refine lv_aload_n hx hb dX8_puts_35 rfl (lv_at hl 0 rfl) ?_
  refine g_getR (a := aM) (k := 0) (o := 1) C hK hM fl_X8_7 rfl rfl dX8_puts_36 ?_
  refine lv_bipush (v := 7) hx hb dX8_puts_39 (by decide) ?_
  refine lv_dup2_11 hx hb dX8_puts_41 rfl rfl ?_
  refine g_ald (a := aM) (k := 1) (n := 164) C hK hM rfl (vp_dec (by decide)) dX8_puts_42 ?_
  refine lv_iconst (v := 1) hx hb dX8_puts_43 (by decide) ?_
  refine lv_iadd hx hb dX8_puts_44 ?_
  refine g_ast (a := aM) (k := 1) (n := 164) C hK hM hS rfl (vp_dec (by decide)) (RA_in (by decide)) dX8_puts_45 (fun ρ6 H locs eρ6 hM hS hq => ?_)
  specialize h ρ6 eρ6
  refine lv_aload_n hx hb dX8_puts_46 rfl (lv_at hl 0 rfl) ?_
  refine g_getR (a := aM) (k := 0) (o := 1) C hK hM fl_X8_7 rfl rfl dX8_puts_47 ?_
  refine lv_bipush (v := 28) hx hb dX8_puts_50 (by decide) ?_
  refine lv_bipush (v := 7) hx hb dX8_puts_52 (by decide) ?_
  refine lv_iload_n hx hb dX8_puts_54 rfl (lv_at hl 1 rfl) ?_
  refine lv_imul hx hb dX8_puts_55 ?_
  refine lv_iadd hx hb dX8_puts_56 ?_
  refine lv_iconst (v := 1) hx hb dX8_puts_57 (by decide) ?_
  refine lv_iadd hx hb dX8_puts_58 ?_
  refine lv_iload_n hx hb dX8_puts_59 rfl (lv_at hl 2 rfl) ?_
  obtain ⟨b7, h⟩ := h
  refine g_ast (a := aM) (k := 1) (n := 164) C hK hM hS rfl b7 (RA_in (by decide)) dX8_puts_60 (fun ρ8 H locs eρ8 hM hS hq => ?_)
  specialize h ρ8 eρ8
  refine lv_aload_n hx hb dX8_puts_61 rfl (lv_at hl 0 rfl) ?_
  refine g_getR (a := aM) (k := 0) (o := 1) C hK hM fl_X8_7 rfl rfl dX8_puts_62 ?_
  refine lv_bipush (v := 28) hx hb dX8_puts_65 (by decide) ?_
  refine lv_bipush (v := 7) hx hb dX8_puts_67 (by decide) ?_
  refine lv_iload_n hx hb dX8_puts_69 rfl (lv_at hl 1 rfl) ?_
  refine lv_imul hx hb dX8_puts_70 ?_
  refine lv_iadd hx hb dX8_puts_71 ?_
  refine lv_iconst (v := 2) hx hb dX8_puts_72 (by decide) ?_
  refine lv_iadd hx hb dX8_puts_73 ?_
  refine lv_aload_n hx hb dX8_puts_74 rfl (lv_at hl 0 rfl) ?_
  refine lv_iload_n hx hb dX8_puts_75 rfl (lv_at hl 1 rfl) ?_
  refine lv_iconst (v := 0) hx hb dX8_puts_76 (by decide) ?_
  refine g_vI C hK hl.1 (m_X8_of l G aM ρ8 x1 0 _ h) mw_X8_of mi_X8_of ml_X8_60 rfl ⟨rfl, rfl, Nat.le_of_ble_eq_true rfl, Nat.le_of_ble_eq_true rfl⟩ ⟨Nat.zero_le _, Nat.zero_le _⟩ (g_recv (a := aM) (k := 0) hK hM rfl rfl) hM hS (fun _ h => h.elim) rfl (Nat.le_of_ble_eq_true rfl) dX8_puts_77 (fun r9 u H locs h hu _ hq hS => ?_)
  have hM := hM.past hq (fun _ _ h => h)
  obtain ⟨b10, h⟩ := h
  refine g_ast (a := aM) (k := 1) (n := 164) C hK hM hS rfl b10 (RA_in (by decide)) dX8_puts_80 (fun ρ11 H locs eρ11 hM hS hq => ?_)
  specialize h ρ11 eρ11
  exact g_vret (post := Q) (P' := fun u H => rg G LM aM u H) (u := ρ11) C hr hK hS h hM dX8_puts_81
