theorem dX1_takeHome_0 : decode cX1_takeHome 0 = .ok (.aload_n 0, 1) := by decide +kernel
theorem dX1_takeHome_1 : decode cX1_takeHome 1 = .ok (.iload_n 1, 1) := by decide +kernel
theorem dX1_takeHome_2 : decode cX1_takeHome 2 = .ok (.iload_n 2, 1) := by decide +kernel
theorem dX1_takeHome_3 : decode cX1_takeHome 3 = .ok (.invokevirtual 74, 3) := by decide +kernel
theorem dX1_takeHome_6 : decode cX1_takeHome 6 = .ok (.ifCond .ne 6, 3) := by decide +kernel
theorem dX1_takeHome_9 : decode cX1_takeHome 9 = .ok (.ldc 78, 2) := by decide +kernel
theorem dX1_takeHome_11 : decode cX1_takeHome 11 = .ok (.ireturn, 1) := by decide +kernel
theorem dX1_takeHome_12 : decode cX1_takeHome 12 = .ok (.iload_n 1, 1) := by decide +kernel
theorem dX1_takeHome_13 : decode cX1_takeHome 13 = .ok (.iload_n 2, 1) := by decide +kernel
theorem dX1_takeHome_14 : decode cX1_takeHome 14 = .ok (.invokestatic 79, 3) := by decide +kernel
theorem dX1_takeHome_17 : decode cX1_takeHome 17 = .ok (.istore_n 3, 1) := by decide +kernel
theorem dX1_takeHome_18 : decode cX1_takeHome 18 = .ok (.aload_n 0, 1) := by decide +kernel
theorem dX1_takeHome_19 : decode cX1_takeHome 19 = .ok (.getfield 21, 3) := by decide +kernel
theorem dX1_takeHome_22 : decode cX1_takeHome 22 = .ok (.getfield 112, 3) := by decide +kernel
theorem dX1_takeHome_25 : decode cX1_takeHome 25 = .ok (.iload_n 3, 1) := by decide +kernel
theorem dX1_takeHome_26 : decode cX1_takeHome 26 = .ok (.iaload, 1) := by decide +kernel
theorem dX1_takeHome_27 : decode cX1_takeHome 27 = .ok (.istore 4, 2) := by decide +kernel
theorem dX1_takeHome_29 : decode cX1_takeHome 29 = .ok (.aload_n 0, 1) := by decide +kernel
theorem dX1_takeHome_30 : decode cX1_takeHome 30 = .ok (.getfield 21, 3) := by decide +kernel
theorem dX1_takeHome_33 : decode cX1_takeHome 33 = .ok (.iload_n 3, 1) := by decide +kernel
theorem dX1_takeHome_34 : decode cX1_takeHome 34 = .ok (.invokevirtual 83, 3) := by decide +kernel
theorem dX1_takeHome_37 : decode cX1_takeHome 37 = .ok (.ifCond .eq 9, 3) := by decide +kernel
theorem dX1_takeHome_40 : decode cX1_takeHome 40 = .ok (.iload 4, 2) := by decide +kernel
theorem dX1_takeHome_42 : decode cX1_takeHome 42 = .ok (.iconst (-1), 1) := by decide +kernel
theorem dX1_takeHome_43 : decode cX1_takeHome 43 = .ok (.if_icmp .ne 6, 3) := by decide +kernel
theorem dX1_takeHome_46 : decode cX1_takeHome 46 = .ok (.ldc 86, 2) := by decide +kernel
theorem dX1_takeHome_48 : decode cX1_takeHome 48 = .ok (.ireturn, 1) := by decide +kernel
theorem dX1_takeHome_49 : decode cX1_takeHome 49 = .ok (.aload_n 0, 1) := by decide +kernel
theorem dX1_takeHome_50 : decode cX1_takeHome 50 = .ok (.getfield 21, 3) := by decide +kernel
theorem dX1_takeHome_53 : decode cX1_takeHome 53 = .ok (.getfield 112, 3) := by decide +kernel
theorem dX1_takeHome_56 : decode cX1_takeHome 56 = .ok (.iload_n 3, 1) := by decide +kernel
theorem dX1_takeHome_57 : decode cX1_takeHome 57 = .ok (.iconst (-1), 1) := by decide +kernel
theorem dX1_takeHome_58 : decode cX1_takeHome 58 = .ok (.iastore, 1) := by decide +kernel
theorem dX1_takeHome_59 : decode cX1_takeHome 59 = .ok (.iload 4, 2) := by decide +kernel
theorem dX1_takeHome_61 : decode cX1_takeHome 61 = .ok (.ireturn, 1) := by decide +kernel
def vc_X1_takeHome (Q : Int32 → Mem → Prop) (γ : Mem) (x1 : Int32) (x2 : Int32) : Prop :=
  vc_X1_hasWorker (fun r1 => ((¬ r1 = 0) → (vc_X7_glassOf (fun r3 => vp_in r3 12 ∧ (∀ v5 : Int32, v5 = (γ 6 r3.toNatClampNeg) → (vc_X2_isOut (fun r6 => ((r6 = 0) → (Q (-1000002) γ)) ∧ ((¬ r6 = 0) → (((¬ v5 = (-1)) → ((∀ γ9 : Mem, γ9 = up γ 6 r3.toNatClampNeg (-1) → (Q v5 γ9)))) ∧ ((v5 = (-1)) → (Q (-1000002) γ))))) γ r3))) x1 x2)) ∧ ((r1 = 0) → (Q (-1000001) γ))) γ x1 x2
set_option maxHeartbeats 8000000 in
set_option maxRecDepth 100000 in
theorem m_X1_takeHome (l : Launch) (G : GG) (aG : Nat) (γ : Mem) (x1 : Int32) (x2 : Int32) (Q : Int32 → Mem → Prop) (h : vc_X1_takeHome Q γ x1 x2) : CtI l yX1_takeHome cX1_takeHome 5 (some .int) { frames := 3, cells := 0, slots := 0, locals := 65 } [.ref (aG + 0), .int x1, .int x2] G (fun H => rg G LG aG γ H) (Q) (fun u H => rg G LG aG u H) (RA aG 22) := by
  unfold CtI
  refine met_start (y := yX1_takeHome) (maxL := 5) (av := [.ref (aG + 0), .int x1, .int x2]) (G := G) (P := fun H => rg G LG aG γ H) (by decide) rfl (Nat.le_of_ble_eq_true rfl) (fun p e s m below meth c ls C hr hP hK hl => ?_)
  obtain ⟨hx, hb, hml, hown, hts, hlocks⟩ := id C
  have hG : rg G LG aG γ s.heap := hP
  have hS : va_S (RA aG 22) s.heap s.heap [] := va_S.rf
  have hl : lv_has ls 5 [(0, .ref (aG + 0)), (1, .int x1), (2, .int x2)] := hl
  unfold vc_X1_takeHome at h
  refine lv_aload_n hx hb dX1_takeHome_0 rfl (lv_at hl 0 rfl) ?_
  refine lv_iload_n hx hb dX1_takeHome_1 rfl (lv_at hl 1 rfl) ?_
  refine lv_iload_n hx hb dX1_takeHome_2 rfl (lv_at hl 2 rfl) ?_
  refine g_vI C hK hl.1 (m_X1_hasWorker l G aG γ x1 x2 _ h) mw_X1_hasWorker mi_X1_hasWorker ml_X1_74 rfl ⟨rfl, rfl, Nat.le_of_ble_eq_true rfl, Nat.le_of_ble_eq_true rfl⟩ ⟨Nat.zero_le _, Nat.zero_le _⟩ (g_recv (a := aG) (k := 0) hK hG rfl rfl) hG hS (fun _ h => h.elim) rfl (Nat.le_of_ble_eq_true rfl) dX1_takeHome_3 (fun r1 u H locs h hu _ hq hS => ?_)
  have hG := hG.past hq (fun _ _ h => h)
  refine lv_if_ne (tgt := 12) hx hb dX1_takeHome_6 (by decide) (fun c2 => ?_) (fun c2 => ?_)
  · replace h := h.1 c2
    refine lv_iload_n hx hb dX1_takeHome_12 rfl (lv_at hl 1 rfl) ?_
    refine lv_iload_n hx hb dX1_takeHome_13 rfl (lv_at hl 2 rfl) ?_
    refine g_nI C hK hl.1 (m_X7_glassOf l G x1 x2 _ h) mw_X7_glassOf ms_X7_glassOf nl_X1_79 rfl ⟨rfl, rfl, Nat.le_of_ble_eq_true rfl, Nat.le_of_ble_eq_true rfl⟩ ⟨Nat.zero_le _, Nat.zero_le _⟩ trivial hS (fun _ h => h.elim) rfl (Nat.le_of_ble_eq_true rfl) dX1_takeHome_14 (fun r3 u H locs h hu _ hq hS => ?_)
    have hG := hG.past hq (fun _ _ h => h)
    refine lv_istore_n (lv' := [(3, .int r3), (0, .ref (aG + 0)), (1, .int x1), (2, .int x2)]) hx hb dX1_takeHome_17 rfl hl (by decide) rfl (fun ls hl => ?_)
    refine lv_aload_n hx hb dX1_takeHome_18 rfl (lv_at hl 1 rfl) ?_
    refine g_getR (a := aG) (k := 0) (o := 4) C hK hG fl_X1_21 rfl rfl dX1_takeHome_19 ?_
    refine g_getR (a := aG) (k := 4) (o := 6) C hK hG fl_X1_112 rfl rfl dX1_takeHome_22 ?_
    refine lv_iload_n hx hb dX1_takeHome_25 rfl (lv_at hl 0 rfl) ?_
    obtain ⟨b4, h⟩ := h
    refine g_ald (a := aG) (k := 6) (n := 12) C hK hG rfl b4 dX1_takeHome_26 ?_
    refine lv_topi (fun v5 ev5 => ?_)
    specialize h v5 ev5
    refine lv_istore (lv' := [(4, .int v5), (3, .int r3), (0, .ref (aG + 0)), (1, .int x1), (2, .int x2)]) hx hb dX1_takeHome_27 hl (by decide) rfl (fun ls hl => ?_)
    refine lv_aload_n hx hb dX1_takeHome_29 rfl (lv_at hl 2 rfl) ?_
    refine g_getR (a := aG) (k := 0) (o := 4) C hK hG fl_X1_21 rfl rfl dX1_takeHome_30 ?_
    refine lv_iload_n hx hb dX1_takeHome_33 rfl (lv_at hl 1 rfl) ?_
    refine g_vI C hK hl.1 (m_X2_isOut l G aG γ r3 _ h) mw_X2_isOut mi_X2_isOut ml_X1_83 rfl ⟨rfl, rfl, Nat.le_of_ble_eq_true rfl, Nat.le_of_ble_eq_true rfl⟩ ⟨Nat.zero_le _, Nat.zero_le _⟩ (g_recv (a := aG) (k := 4) hK hG rfl rfl) hG hS (fun _ h => h.elim) rfl (Nat.le_of_ble_eq_true rfl) dX1_takeHome_34 (fun r6 u H locs h hu _ hq hS => ?_)
    have hG := hG.past hq (fun _ _ h => h)
    refine lv_if_eq (tgt := 46) hx hb dX1_takeHome_37 (by decide) (fun c7 => ?_) (fun c7 => ?_)
    · replace h := h.1 c7
      refine g_ldc C kc_X1_86 dX1_takeHome_46 ?_
      exact g_iret (post := Q) (P' := fun u H => rg G LG aG u H) (r := (-1000002)) (u := γ) C hr hK hS h hG dX1_takeHome_48
    · replace h := h.2 c7
      refine lv_iload hx hb dX1_takeHome_40 (lv_at hl 0 rfl) ?_
      refine lv_iconst (v := (-1)) hx hb dX1_takeHome_42 (by decide) ?_
      refine lv_icmp_ne (tgt := 49) hx hb dX1_takeHome_43 (by decide) (fun c8 => ?_) (fun c8 => ?_)
      · replace h := h.1 c8
        refine lv_aload_n hx hb dX1_takeHome_49 rfl (lv_at hl 2 rfl) ?_
        refine g_getR (a := aG) (k := 0) (o := 4) C hK hG fl_X1_21 rfl rfl dX1_takeHome_50 ?_
        refine g_getR (a := aG) (k := 4) (o := 6) C hK hG fl_X1_112 rfl rfl dX1_takeHome_53 ?_
        refine lv_iload_n hx hb dX1_takeHome_56 rfl (lv_at hl 1 rfl) ?_
        refine lv_iconst (v := (-1)) hx hb dX1_takeHome_57 (by decide) ?_
        refine g_ast (a := aG) (k := 6) (n := 12) C hK hG hS rfl b4 (RA_in (by decide)) dX1_takeHome_58 (fun γ9 H locs eγ9 hG hS hq => ?_)
        specialize h γ9 eγ9
        refine lv_iload hx hb dX1_takeHome_59 (lv_at hl 0 rfl) ?_
        exact g_iret (post := Q) (P' := fun u H => rg G LG aG u H) (r := v5) (u := γ9) C hr hK hS h hG dX1_takeHome_61
      · replace h := h.2 c8
        refine g_ldc C kc_X1_86 dX1_takeHome_46 ?_
        exact g_iret (post := Q) (P' := fun u H => rg G LG aG u H) (r := (-1000002)) (u := γ) C hr hK hS h hG dX1_takeHome_48
  · replace h := h.2 c2
    refine g_ldc C kc_X1_78 dX1_takeHome_9 ?_
    exact g_iret (post := Q) (P' := fun u H => rg G LG aG u H) (r := (-1000001)) (u := γ) C hr hK hS h hG dX1_takeHome_11
theorem dX1_addIfDue_0 : decode cX1_addIfDue 0 = .ok (.aload_n 0, 1) := by decide +kernel
theorem dX1_addIfDue_1 : decode cX1_addIfDue 1 = .ok (.getfield 21, 3) := by decide +kernel
theorem dX1_addIfDue_4 : decode cX1_addIfDue 4 = .ok (.getfield 148, 3) := by decide +kernel
theorem dX1_addIfDue_7 : decode cX1_addIfDue 7 = .ok (.iload_n 1, 1) := by decide +kernel
theorem dX1_addIfDue_8 : decode cX1_addIfDue 8 = .ok (.iaload, 1) := by decide +kernel
theorem dX1_addIfDue_9 : decode cX1_addIfDue 9 = .ok (.ifCond .ne 32, 3) := by decide +kernel
theorem dX1_addIfDue_12 : decode cX1_addIfDue 12 = .ok (.aload_n 0, 1) := by decide +kernel
theorem dX1_addIfDue_13 : decode cX1_addIfDue 13 = .ok (.getfield 175, 3) := by decide +kernel
theorem dX1_addIfDue_16 : decode cX1_addIfDue 16 = .ok (.bipush 12, 2) := by decide +kernel
theorem dX1_addIfDue_18 : decode cX1_addIfDue 18 = .ok (.if_icmp .ge 23, 3) := by decide +kernel
theorem dX1_addIfDue_21 : decode cX1_addIfDue 21 = .ok (.aload_n 0, 1) := by decide +kernel
theorem dX1_addIfDue_22 : decode cX1_addIfDue 22 = .ok (.getfield 39, 3) := by decide +kernel
theorem dX1_addIfDue_25 : decode cX1_addIfDue 25 = .ok (.aload_n 0, 1) := by decide +kernel
theorem dX1_addIfDue_26 : decode cX1_addIfDue 26 = .ok (.getfield 175, 3) := by decide +kernel
theorem dX1_addIfDue_29 : decode cX1_addIfDue 29 = .ok (.iload_n 1, 1) := by decide +kernel
theorem dX1_addIfDue_30 : decode cX1_addIfDue 30 = .ok (.iastore, 1) := by decide +kernel
theorem dX1_addIfDue_31 : decode cX1_addIfDue 31 = .ok (.aload_n 0, 1) := by decide +kernel
theorem dX1_addIfDue_32 : decode cX1_addIfDue 32 = .ok (.dup, 1) := by decide +kernel
theorem dX1_addIfDue_33 : decode cX1_addIfDue 33 = .ok (.getfield 175, 3) := by decide +kernel
theorem dX1_addIfDue_36 : decode cX1_addIfDue 36 = .ok (.iconst 1, 1) := by decide +kernel
theorem dX1_addIfDue_37 : decode cX1_addIfDue 37 = .ok (.iadd, 1) := by decide +kernel
theorem dX1_addIfDue_38 : decode cX1_addIfDue 38 = .ok (.putfield 175, 3) := by decide +kernel
theorem dX1_addIfDue_41 : decode cX1_addIfDue 41 = .ok (.return_, 1) := by decide +kernel
def vc_X1_addIfDue (Q : Mem → Prop) (γ : Mem) (x1 : Int32) : Prop :=
  vp_in x1 12 ∧ (((¬ (γ 7 x1.toNatClampNeg) = 0) → (Q γ)) ∧ (((γ 7 x1.toNatClampNeg) = 0) → (((12 ≤ (γ 0 6)) → (Q γ)) ∧ ((¬ 12 ≤ (γ 0 6)) → (vp_in (γ 0 6) 12 ∧ (∀ γ5 : Mem, γ5 = up γ 21 (γ 0 6).toNatClampNeg x1 → (∀ γ6 : Mem, γ6 = up γ5 0 6 ((γ5 0 6) + 1) → (Q γ6))))))))
set_option maxHeartbeats 8000000 in
set_option maxRecDepth 100000 in
theorem m_X1_addIfDue (l : Launch) (G : GG) (aG : Nat) (γ : Mem) (x1 : Int32) (Q : Mem → Prop) (h : vc_X1_addIfDue Q γ x1) : CtV l yX1_addIfDue cX1_addIfDue 2 { frames := 0, cells := 0, slots := 0, locals := 0 } [.ref (aG + 0), .int x1] G (fun H => rg G LG aG γ H) (Q) (fun u H => rg G LG aG u H) (RA aG 22) := by
  unfold CtV
  refine met_start (y := yX1_addIfDue) (maxL := 2) (av := [.ref (aG + 0), .int x1]) (G := G) (P := fun H => rg G LG aG γ H) (by decide) rfl (Nat.le_of_ble_eq_true rfl) (fun p e s m below meth c ls C hr hP hK hl => ?_)
  obtain ⟨hx, hb, hml, hown, hts, hlocks⟩ := id C
  have hG : rg G LG aG γ s.heap := hP
  have hS : va_S (RA aG 22) s.heap s.heap [] := va_S.rf
  have hl : lv_has ls 2 [(0, .ref (aG + 0)), (1, .int x1)] := hl
  unfold vc_X1_addIfDue at h
  refine lv_aload_n hx hb dX1_addIfDue_0 rfl (lv_at hl 0 rfl) ?_
  refine g_getR (a := aG) (k := 0) (o := 4) C hK hG fl_X1_21 rfl rfl dX1_addIfDue_1 ?_
  refine g_getR (a := aG) (k := 4) (o := 7) C hK hG fl_X1_148 rfl rfl dX1_addIfDue_4 ?_
  refine lv_iload_n hx hb dX1_addIfDue_7 rfl (lv_at hl 1 rfl) ?_
  obtain ⟨b1, h⟩ := h
  refine g_ald (a := aG) (k := 7) (n := 12) C hK hG rfl b1 dX1_addIfDue_8 ?_
  refine lv_if_ne (tgt := 41) hx hb dX1_addIfDue_9 (by decide) (fun c2 => ?_) (fun c2 => ?_)
  · replace h := h.1 c2
    exact g_vret (post := Q) (P' := fun u H => rg G LG aG u H) (u := γ) C hr hK hS h hG dX1_addIfDue_41
  · replace h := h.2 c2
    refine lv_aload_n hx hb dX1_addIfDue_12 rfl (lv_at hl 0 rfl) ?_
    refine g_getI (a := aG) (k := 0) C hK hG fl_X1_175 rfl rfl dX1_addIfDue_13 ?_
    refine lv_bipush (v := 12) hx hb dX1_addIfDue_16 (by decide) ?_
    refine lv_icmp_ge (tgt := 41) hx hb dX1_addIfDue_18 (by decide) (fun c3 => ?_) (fun c3 => ?_)
    · replace h := h.1 c3
      exact g_vret (post := Q) (P' := fun u H => rg G LG aG u H) (u := γ) C hr hK hS h hG dX1_addIfDue_41
    · replace h := h.2 c3
      refine lv_aload_n hx hb dX1_addIfDue_21 rfl (lv_at hl 0 rfl) ?_
      refine g_getR (a := aG) (k := 0) (o := 21) C hK hG fl_X1_39 rfl rfl dX1_addIfDue_22 ?_
      refine lv_aload_n hx hb dX1_addIfDue_25 rfl (lv_at hl 0 rfl) ?_
      refine g_getI (a := aG) (k := 0) C hK hG fl_X1_175 rfl rfl dX1_addIfDue_26 ?_
      refine lv_iload_n hx hb dX1_addIfDue_29 rfl (lv_at hl 1 rfl) ?_
      obtain ⟨b4, h⟩ := h
      refine g_ast (a := aG) (k := 21) (n := 12) C hK hG hS rfl b4 (RA_in (by decide)) dX1_addIfDue_30 (fun γ5 H locs eγ5 hG hS hq => ?_)
      specialize h γ5 eγ5
      refine lv_aload_n hx hb dX1_addIfDue_31 rfl (lv_at hl 0 rfl) ?_
      refine lv_dup hx hb dX1_addIfDue_32 rfl ?_
      refine g_getI (a := aG) (k := 0) C hK hG fl_X1_175 rfl rfl dX1_addIfDue_33 ?_
      refine lv_iconst (v := 1) hx hb dX1_addIfDue_36 (by decide) ?_
      refine lv_iadd hx hb dX1_addIfDue_37 ?_
      refine g_put (a := aG) (k := 0) C hK hG hS fl_X1_175 fp_X1_6 rfl rfl (by rfl) (by rfl) (RA_in (by decide)) dX1_addIfDue_38 (fun γ6 H locs eγ6 hG hS hq => ?_)
      specialize h γ6 eγ6
      exact g_vret (post := Q) (P' := fun u H => rg G LG aG u H) (u := γ6) C hr hK hS h hG dX1_addIfDue_41
theorem dX1_takeEffect_0 : decode cX1_takeEffect 0 = .ok (.iload_n 1, 1) := by decide +kernel
theorem dX1_takeEffect_1 : decode cX1_takeEffect 1 = .ok (.iconst 2, 1) := by decide +kernel
theorem dX1_takeEffect_2 : decode cX1_takeEffect 2 = .ok (.if_icmp .ne 16, 3) := by decide +kernel
theorem dX1_takeEffect_5 : decode cX1_takeEffect 5 = .ok (.aload_n 0, 1) := by decide +kernel
theorem dX1_takeEffect_6 : decode cX1_takeEffect 6 = .ok (.getfield 12, 3) := by decide +kernel
theorem dX1_takeEffect_9 : decode cX1_takeEffect 9 = .ok (.getfield 154, 3) := by decide +kernel
theorem dX1_takeEffect_12 : decode cX1_takeEffect 12 = .ok (.iload_n 2, 1) := by decide +kernel
theorem dX1_takeEffect_13 : decode cX1_takeEffect 13 = .ok (.dup2, 1) := by decide +kernel
theorem dX1_takeEffect_14 : decode cX1_takeEffect 14 = .ok (.iaload, 1) := by decide +kernel
theorem dX1_takeEffect_15 : decode cX1_takeEffect 15 = .ok (.iconst 1, 1) := by decide +kernel
theorem dX1_takeEffect_16 : decode cX1_takeEffect 16 = .ok (.iadd, 1) := by decide +kernel
theorem dX1_takeEffect_17 : decode cX1_takeEffect 17 = .ok (.iastore, 1) := by decide +kernel
theorem dX1_takeEffect_18 : decode cX1_takeEffect 18 = .ok (.iconst 0, 1) := by decide +kernel
theorem dX1_takeEffect_19 : decode cX1_takeEffect 19 = .ok (.istore_n 3, 1) := by decide +kernel
theorem dX1_takeEffect_20 : decode cX1_takeEffect 20 = .ok (.iload_n 1, 1) := by decide +kernel
theorem dX1_takeEffect_21 : decode cX1_takeEffect 21 = .ok (.iconst 1, 1) := by decide +kernel
theorem dX1_takeEffect_22 : decode cX1_takeEffect 22 = .ok (.if_icmp .ne 40, 3) := by decide +kernel
theorem dX1_takeEffect_25 : decode cX1_takeEffect 25 = .ok (.iload_n 3, 1) := by decide +kernel
theorem dX1_takeEffect_26 : decode cX1_takeEffect 26 = .ok (.bipush 12, 2) := by decide +kernel
theorem dX1_takeEffect_28 : decode cX1_takeEffect 28 = .ok (.if_icmp .ge 34, 3) := by decide +kernel
theorem dX1_takeEffect_31 : decode cX1_takeEffect 31 = .ok (.aload_n 0, 1) := by decide +kernel
theorem dX1_takeEffect_32 : decode cX1_takeEffect 32 = .ok (.getfield 21, 3) := by decide +kernel
theorem dX1_takeEffect_35 : decode cX1_takeEffect 35 = .ok (.getfield 148, 3) := by decide +kernel
theorem dX1_takeEffect_38 : decode cX1_takeEffect 38 = .ok (.iload_n 3, 1) := by decide +kernel
theorem dX1_takeEffect_39 : decode cX1_takeEffect 39 = .ok (.iaload, 1) := by decide +kernel
theorem dX1_takeEffect_40 : decode cX1_takeEffect 40 = .ok (.ifCond .le 16, 3) := by decide +kernel
theorem dX1_takeEffect_43 : decode cX1_takeEffect 43 = .ok (.aload_n 0, 1) := by decide +kernel
theorem dX1_takeEffect_44 : decode cX1_takeEffect 44 = .ok (.getfield 21, 3) := by decide +kernel
theorem dX1_takeEffect_47 : decode cX1_takeEffect 47 = .ok (.iload_n 3, 1) := by decide +kernel
theorem dX1_takeEffect_48 : decode cX1_takeEffect 48 = .ok (.invokevirtual 137, 3) := by decide +kernel
theorem dX1_takeEffect_51 : decode cX1_takeEffect 51 = .ok (.aload_n 0, 1) := by decide +kernel
theorem dX1_takeEffect_52 : decode cX1_takeEffect 52 = .ok (.iload_n 3, 1) := by decide +kernel
theorem dX1_takeEffect_53 : decode cX1_takeEffect 53 = .ok (.invokevirtual 141, 3) := by decide +kernel
theorem dX1_takeEffect_56 : decode cX1_takeEffect 56 = .ok (.iinc 3 1, 3) := by decide +kernel
theorem dX1_takeEffect_59 : decode cX1_takeEffect 59 = .ok (.goto (-39), 3) := by decide +kernel
theorem dX1_takeEffect_62 : decode cX1_takeEffect 62 = .ok (.return_, 1) := by decide +kernel
def vb_X1_takeEffect_20 (Q : Mem → Prop) (rec : Nat → Mem → Int32 → Int32 → Prop) (γ : Mem) (w1 : Int32) (w3 : Int32) : Prop :=
  ((¬ w1 = 1) → (Q γ)) ∧ ((w1 = 1) → (((12 ≤ w3) → (Q γ)) ∧ ((¬ 12 ≤ w3) → (vp_in w3 12 ∧ ((((γ 7 w3.toNatClampNeg) ≤ 0) → (∀ v8 : Int32, v8 = w3 + 1 → (rec 0 γ w1 v8))) ∧ ((¬ (γ 7 w3.toNatClampNeg) ≤ 0) → (vc_X2_flipOne (fun γ10 => vc_X1_addIfDue (fun γ12 => ∀ v13 : Int32, v13 = w3 + 1 → (rec 0 γ12 w1 v13)) γ10 w3) γ w3)))))))
def vl_X1_takeEffect (Q : Mem → Prop) : Nat → Nat → Mem → Int32 → Int32 → Prop
  | 0, _, _, _, _ => False
  | n + 1, 0, γ, w1, w3 => vb_X1_takeEffect_20 Q (vl_X1_takeEffect Q n) γ w1 w3
  | _ + 1, _, _, _, _ => False
def vc_X1_takeEffect (Q : Mem → Prop) (γ : Mem) (x1 : Int32) (x2 : Int32) : Prop :=
  ∃ n : Nat, ((¬ x1 = 2) → (vl_X1_takeEffect Q n 0 γ x1 0)) ∧ ((x1 = 2) → (vp_in x2 4 ∧ ((∀ γ3 : Mem, γ3 = up γ 3 x2.toNatClampNeg ((γ 3 x2.toNatClampNeg) + 1) → (vl_X1_takeEffect Q n 0 γ3 x1 0)))))
set_option maxHeartbeats 8000000 in
set_option maxRecDepth 100000 in
theorem m_X1_takeEffect (l : Launch) (G : GG) (aG : Nat) (γ : Mem) (x1 : Int32) (x2 : Int32) (Q : Mem → Prop) (h : vc_X1_takeEffect Q γ x1 x2) : CtV l yX1_takeEffect cX1_takeEffect 4 { frames := 1, cells := 0, slots := 0, locals := 21 } [.ref (aG + 0), .int x1, .int x2] G (fun H => rg G LG aG γ H) (Q) (fun u H => rg G LG aG u H) (RA aG 22) := by
  unfold CtV
  refine met_start (y := yX1_takeEffect) (maxL := 4) (av := [.ref (aG + 0), .int x1, .int x2]) (G := G) (P := fun H => rg G LG aG γ H) (by decide) rfl (Nat.le_of_ble_eq_true rfl) (fun p e s m below meth c ls C hr hP hK hl => ?_)
  obtain ⟨hx, hb, hml, hown, hts, hlocks⟩ := id C
  have hG : rg G LG aG γ s.heap := hP
  have hS : va_S (RA aG 22) s.heap s.heap [] := va_S.rf
  have hl : lv_has ls 4 [(0, .ref (aG + 0)), (1, .int x1), (2, .int x2)] := hl
  have K : ∀ n : Nat, (∀ (γ : Mem) (w1 : Int32) (w3 : Int32) (H : Heap) (locs : List Loc) (ls : Array Slot), rg G LG aG γ H → va_S (RA aG 22) s.heap H locs → lv_has ls 4 [(0, .ref (aG + 0)), (1, .int w1), (3, .int w3)] → vl_X1_takeEffect Q n 0 γ w1 w3 → W p l e { frames := 1, cells := 0, slots := 0, locals := 21 } s m [.ref (aG + 0), .int x1, .int x2].toArray below meth c H locs 0 0 (MQ below (va_Qv (Q) (fun u t => (fun u H => rg G LG aG u H) u t.heap ∧ KK G t) (RA aG 22)) [.ref (aG + 0), .int x1, .int x2].toArray s 0 0 (RA aG 22)) (F0 m 20 ls [])) := by
    intro n
    induction n with
    | zero => exact fun _ _ _ _ _ _ _ _ _ h => h.elim
    | succ n ih =>
      · intro γ w1 w3 H locs ls hG hS hl h
        replace h : vb_X1_takeEffect_20 Q (vl_X1_takeEffect Q n) γ w1 w3 := h
        unfold vb_X1_takeEffect_20 at h
        refine lv_iload_n hx hb dX1_takeEffect_20 rfl (lv_at hl 1 rfl) ?_
        refine lv_iconst (v := 1) hx hb dX1_takeEffect_21 (by decide) ?_
        refine lv_icmp_ne (tgt := 62) hx hb dX1_takeEffect_22 (by decide) (fun c4 => ?_) (fun c4 => ?_)
        · replace h := h.1 c4
          exact g_vret (post := Q) (P' := fun u H => rg G LG aG u H) (u := γ) C hr hK hS h hG dX1_takeEffect_62
        · replace h := h.2 c4
          refine lv_iload_n hx hb dX1_takeEffect_25 rfl (lv_at hl 2 rfl) ?_
          refine lv_bipush (v := 12) hx hb dX1_takeEffect_26 (by decide) ?_
          refine lv_icmp_ge (tgt := 62) hx hb dX1_takeEffect_28 (by decide) (fun c5 => ?_) (fun c5 => ?_)
          · replace h := h.1 c5
            exact g_vret (post := Q) (P' := fun u H => rg G LG aG u H) (u := γ) C hr hK hS h hG dX1_takeEffect_62
          · replace h := h.2 c5
            refine lv_aload_n hx hb dX1_takeEffect_31 rfl (lv_at hl 0 rfl) ?_
            refine g_getR (a := aG) (k := 0) (o := 4) C hK hG fl_X1_21 rfl rfl dX1_takeEffect_32 ?_
            refine g_getR (a := aG) (k := 4) (o := 7) C hK hG fl_X1_148 rfl rfl dX1_takeEffect_35 ?_
            refine lv_iload_n hx hb dX1_takeEffect_38 rfl (lv_at hl 2 rfl) ?_
            obtain ⟨b6, h⟩ := h
            refine g_ald (a := aG) (k := 7) (n := 12) C hK hG rfl b6 dX1_takeEffect_39 ?_
            refine lv_if_le (tgt := 56) hx hb dX1_takeEffect_40 (by decide) (fun c7 => ?_) (fun c7 => ?_)
            · replace h := h.1 c7
              obtain ⟨v8, ev8⟩ : ∃ y : Int32, y = w3 + 1 := ⟨_, rfl⟩
              specialize h v8 ev8
              refine lv_iinc (v := v8) (lv' := [(3, .int v8), (0, .ref (aG + 0)), (1, .int w1)]) hx hb dX1_takeEffect_56 hl (k := 2) rfl (by rw [ev8]; rfl) (by decide) rfl (fun ls hl => ?_)
              refine lv_goto (tgt := 20) hx hb dX1_takeEffect_59 (by decide) ?_
              exact (ih) γ w1 v8 _ _ _ hG hS (lv_sub hl [1, 2, 0] rfl) h
            · replace h := h.2 c7
              refine lv_aload_n hx hb dX1_takeEffect_43 rfl (lv_at hl 0 rfl) ?_
              refine g_getR (a := aG) (k := 0) (o := 4) C hK hG fl_X1_21 rfl rfl dX1_takeEffect_44 ?_
              refine lv_iload_n hx hb dX1_takeEffect_47 rfl (lv_at hl 2 rfl) ?_
              refine g_vV C hK hl.1 (m_X2_flipOne l G aG γ w3 _ h) mw_X2_flipOne mi_X2_flipOne ml_X1_137 rfl ⟨rfl, rfl, Nat.le_of_ble_eq_true rfl, Nat.le_of_ble_eq_true rfl⟩ ⟨Nat.zero_le _, Nat.zero_le _⟩ (g_recv (a := aG) (k := 4) hK hG rfl rfl) hG hS (fun _ h => h) rfl (Nat.le_of_ble_eq_true rfl) dX1_takeEffect_48 (fun u H locs h hu _ hq hS => ?_)
              obtain ⟨γ10, rfl⟩ : ∃ z, z = u := ⟨_, rfl⟩
              have hG := hu
              refine lv_aload_n hx hb dX1_takeEffect_51 rfl (lv_at hl 0 rfl) ?_
              refine lv_iload_n hx hb dX1_takeEffect_52 rfl (lv_at hl 2 rfl) ?_
              refine g_vV C hK hl.1 (m_X1_addIfDue l G aG γ10 w3 _ h) mw_X1_addIfDue mi_X1_addIfDue ml_X1_141 rfl ⟨rfl, rfl, Nat.le_of_ble_eq_true rfl, Nat.le_of_ble_eq_true rfl⟩ ⟨Nat.zero_le _, Nat.zero_le _⟩ (g_recv (a := aG) (k := 0) hK hG rfl rfl) hG hS (fun _ h => h) rfl (Nat.le_of_ble_eq_true rfl) dX1_takeEffect_53 (fun u H locs h hu _ hq hS => ?_)
              obtain ⟨γ12, rfl⟩ : ∃ z, z = u := ⟨_, rfl⟩
              have hG := hu
              obtain ⟨v13, ev13⟩ : ∃ y : Int32, y = w3 + 1 := ⟨_, rfl⟩
              specialize h v13 ev13
              refine lv_iinc (v := v13) (lv' := [(3, .int v13), (0, .ref (aG + 0)), (1, .int w1)]) hx hb dX1_takeEffect_56 hl (k := 2) rfl (by rw [ev13]; rfl) (by decide) rfl (fun ls hl => ?_)
              refine lv_goto (tgt := 20) hx hb dX1_takeEffect_59 (by decide) ?_
              exact (ih) γ12 w1 v13 _ _ _ hG hS (lv_sub hl [1, 2, 0] rfl) h
  unfold vc_X1_takeEffect at h
  obtain ⟨n, h⟩ := h
  refine lv_iload_n hx hb dX1_takeEffect_0 rfl (lv_at hl 1 rfl) ?_
  refine lv_iconst (v := 2) hx hb dX1_takeEffect_1 (by decide) ?_
  refine lv_icmp_ne (tgt := 18) hx hb dX1_takeEffect_2 (by decide) (fun c1 => ?_) (fun c1 => ?_)
  · replace h := h.1 c1
    refine lv_iconst (v := 0) hx hb dX1_takeEffect_18 (by decide) ?_
    refine lv_istore_n (lv' := [(3, .int 0), (0, .ref (aG + 0)), (1, .int x1), (2, .int x2)]) hx hb dX1_takeEffect_19 rfl hl (by decide) rfl (fun ls hl => ?_)
    exact ((K n)) γ x1 0 _ _ _ hG hS (lv_sub hl [1, 2, 0] rfl) h
  · replace h := h.2 c1
    refine lv_aload_n hx hb dX1_takeEffect_5 rfl (lv_at hl 0 rfl) ?_
    refine g_getR (a := aG) (k := 0) (o := 1) C hK hG fl_X1_12 rfl rfl dX1_takeEffect_6 ?_
    refine g_getR (a := aG) (k := 1) (o := 3) C hK hG fl_X1_154 rfl rfl dX1_takeEffect_9 ?_
    refine lv_iload_n hx hb dX1_takeEffect_12 rfl (lv_at hl 2 rfl) ?_
    refine lv_dup2_11 hx hb dX1_takeEffect_13 rfl rfl ?_
    obtain ⟨b2, h⟩ := h
    refine g_ald (a := aG) (k := 3) (n := 4) C hK hG rfl b2 dX1_takeEffect_14 ?_
    refine lv_iconst (v := 1) hx hb dX1_takeEffect_15 (by decide) ?_
    refine lv_iadd hx hb dX1_takeEffect_16 ?_
    refine g_ast (a := aG) (k := 3) (n := 4) C hK hG hS rfl b2 (RA_in (by decide)) dX1_takeEffect_17 (fun γ3 H locs eγ3 hG hS hq => ?_)
    specialize h γ3 eγ3
    refine lv_iconst (v := 0) hx hb dX1_takeEffect_18 (by decide) ?_
    refine lv_istore_n (lv' := [(3, .int 0), (0, .ref (aG + 0)), (1, .int x1), (2, .int x2)]) hx hb dX1_takeEffect_19 rfl hl (by decide) rfl (fun ls hl => ?_)
    exact ((K n)) γ3 x1 0 _ _ _ hG hS (lv_sub hl [1, 2, 0] rfl) h
theorem dX1_finishDue_0 : decode cX1_finishDue 0 = .ok (.iconst 0, 1) := by decide +kernel
theorem dX1_finishDue_1 : decode cX1_finishDue 1 = .ok (.istore_n 1, 1) := by decide +kernel
theorem dX1_finishDue_2 : decode cX1_finishDue 2 = .ok (.iload_n 1, 1) := by decide +kernel
theorem dX1_finishDue_3 : decode cX1_finishDue 3 = .ok (.aload_n 0, 1) := by decide +kernel
theorem dX1_finishDue_4 : decode cX1_finishDue 4 = .ok (.getfield 175, 3) := by decide +kernel
theorem dX1_finishDue_7 : decode cX1_finishDue 7 = .ok (.if_icmp .ge 103, 3) := by decide +kernel
theorem dX1_finishDue_10 : decode cX1_finishDue 10 = .ok (.iload_n 1, 1) := by decide +kernel
theorem dX1_finishDue_11 : decode cX1_finishDue 11 = .ok (.bipush 12, 2) := by decide +kernel
theorem dX1_finishDue_13 : decode cX1_finishDue 13 = .ok (.if_icmp .ge 97, 3) := by decide +kernel
theorem dX1_finishDue_16 : decode cX1_finishDue 16 = .ok (.aload_n 0, 1) := by decide +kernel
theorem dX1_finishDue_17 : decode cX1_finishDue 17 = .ok (.getfield 39, 3) := by decide +kernel
theorem dX1_finishDue_20 : decode cX1_finishDue 20 = .ok (.iload_n 1, 1) := by decide +kernel
theorem dX1_finishDue_21 : decode cX1_finishDue 21 = .ok (.iaload, 1) := by decide +kernel
theorem dX1_finishDue_22 : decode cX1_finishDue 22 = .ok (.istore_n 2, 1) := by decide +kernel
theorem dX1_finishDue_23 : decode cX1_finishDue 23 = .ok (.aload_n 0, 1) := by decide +kernel
theorem dX1_finishDue_24 : decode cX1_finishDue 24 = .ok (.getfield 21, 3) := by decide +kernel
theorem dX1_finishDue_27 : decode cX1_finishDue 27 = .ok (.getfield 112, 3) := by decide +kernel
theorem dX1_finishDue_30 : decode cX1_finishDue 30 = .ok (.iload_n 2, 1) := by decide +kernel
theorem dX1_finishDue_31 : decode cX1_finishDue 31 = .ok (.iaload, 1) := by decide +kernel
theorem dX1_finishDue_32 : decode cX1_finishDue 32 = .ok (.istore_n 3, 1) := by decide +kernel
theorem dX1_finishDue_33 : decode cX1_finishDue 33 = .ok (.iinc 1 1, 3) := by decide +kernel
theorem dX1_finishDue_36 : decode cX1_finishDue 36 = .ok (.aload_n 0, 1) := by decide +kernel
theorem dX1_finishDue_37 : decode cX1_finishDue 37 = .ok (.iload_n 3, 1) := by decide +kernel
theorem dX1_finishDue_38 : decode cX1_finishDue 38 = .ok (.invokevirtual 124, 3) := by decide +kernel
theorem dX1_finishDue_41 : decode cX1_finishDue 41 = .ok (.ifCond .eq 66, 3) := by decide +kernel
theorem dX1_finishDue_44 : decode cX1_finishDue 44 = .ok (.aload_n 0, 1) := by decide +kernel
theorem dX1_finishDue_45 : decode cX1_finishDue 45 = .ok (.getfield 21, 3) := by decide +kernel
theorem dX1_finishDue_48 : decode cX1_finishDue 48 = .ok (.getfield 178, 3) := by decide +kernel
theorem dX1_finishDue_51 : decode cX1_finishDue 51 = .ok (.iload_n 2, 1) := by decide +kernel
theorem dX1_finishDue_52 : decode cX1_finishDue 52 = .ok (.dup2, 1) := by decide +kernel
theorem dX1_finishDue_53 : decode cX1_finishDue 53 = .ok (.iaload, 1) := by decide +kernel
theorem dX1_finishDue_54 : decode cX1_finishDue 54 = .ok (.iconst 1, 1) := by decide +kernel
theorem dX1_finishDue_55 : decode cX1_finishDue 55 = .ok (.iadd, 1) := by decide +kernel
theorem dX1_finishDue_56 : decode cX1_finishDue 56 = .ok (.iastore, 1) := by decide +kernel
theorem dX1_finishDue_57 : decode cX1_finishDue 57 = .ok (.aload_n 0, 1) := by decide +kernel
theorem dX1_finishDue_58 : decode cX1_finishDue 58 = .ok (.getfield 28, 3) := by decide +kernel
theorem dX1_finishDue_61 : decode cX1_finishDue 61 = .ok (.getfield 181, 3) := by decide +kernel
theorem dX1_finishDue_64 : decode cX1_finishDue 64 = .ok (.iload_n 3, 1) := by decide +kernel
theorem dX1_finishDue_65 : decode cX1_finishDue 65 = .ok (.dup2, 1) := by decide +kernel
theorem dX1_finishDue_66 : decode cX1_finishDue 66 = .ok (.iaload, 1) := by decide +kernel
theorem dX1_finishDue_67 : decode cX1_finishDue 67 = .ok (.iconst 1, 1) := by decide +kernel
theorem dX1_finishDue_68 : decode cX1_finishDue 68 = .ok (.iadd, 1) := by decide +kernel
theorem dX1_finishDue_69 : decode cX1_finishDue 69 = .ok (.iastore, 1) := by decide +kernel
theorem dX1_finishDue_70 : decode cX1_finishDue 70 = .ok (.aload_n 0, 1) := by decide +kernel
theorem dX1_finishDue_71 : decode cX1_finishDue 71 = .ok (.getfield 12, 3) := by decide +kernel
theorem dX1_finishDue_74 : decode cX1_finishDue 74 = .ok (.iload_n 2, 1) := by decide +kernel
theorem dX1_finishDue_75 : decode cX1_finishDue 75 = .ok (.invokestatic 118, 3) := by decide +kernel
theorem dX1_finishDue_78 : decode cX1_finishDue 78 = .ok (.aload_n 0, 1) := by decide +kernel
theorem dX1_finishDue_79 : decode cX1_finishDue 79 = .ok (.getfield 28, 3) := by decide +kernel
theorem dX1_finishDue_82 : decode cX1_finishDue 82 = .ok (.getfield 96, 3) := by decide +kernel
theorem dX1_finishDue_85 : decode cX1_finishDue 85 = .ok (.iload_n 3, 1) := by decide +kernel
theorem dX1_finishDue_86 : decode cX1_finishDue 86 = .ok (.iaload, 1) := by decide +kernel
theorem dX1_finishDue_87 : decode cX1_finishDue 87 = .ok (.invokevirtual 182, 3) := by decide +kernel
theorem dX1_finishDue_90 : decode cX1_finishDue 90 = .ok (.aload_n 0, 1) := by decide +kernel
theorem dX1_finishDue_91 : decode cX1_finishDue 91 = .ok (.aload_n 0, 1) := by decide +kernel
theorem dX1_finishDue_92 : decode cX1_finishDue 92 = .ok (.getfield 28, 3) := by decide +kernel
theorem dX1_finishDue_95 : decode cX1_finishDue 95 = .ok (.getfield 99, 3) := by decide +kernel
theorem dX1_finishDue_98 : decode cX1_finishDue 98 = .ok (.iload_n 3, 1) := by decide +kernel
theorem dX1_finishDue_99 : decode cX1_finishDue 99 = .ok (.iaload, 1) := by decide +kernel
theorem dX1_finishDue_100 : decode cX1_finishDue 100 = .ok (.iload_n 2, 1) := by decide +kernel
theorem dX1_finishDue_101 : decode cX1_finishDue 101 = .ok (.invokestatic 118, 3) := by decide +kernel
theorem dX1_finishDue_104 : decode cX1_finishDue 104 = .ok (.invokevirtual 184, 3) := by decide +kernel
theorem dX1_finishDue_107 : decode cX1_finishDue 107 = .ok (.goto (-105), 3) := by decide +kernel
theorem dX1_finishDue_110 : decode cX1_finishDue 110 = .ok (.aload_n 0, 1) := by decide +kernel
theorem dX1_finishDue_111 : decode cX1_finishDue 111 = .ok (.iconst 0, 1) := by decide +kernel
theorem dX1_finishDue_112 : decode cX1_finishDue 112 = .ok (.putfield 175, 3) := by decide +kernel
theorem dX1_finishDue_115 : decode cX1_finishDue 115 = .ok (.iload_n 1, 1) := by decide +kernel
theorem dX1_finishDue_116 : decode cX1_finishDue 116 = .ok (.ireturn, 1) := by decide +kernel
def vb_X1_finishDue_2 (Q : Int32 → Mem → Prop) (rec : Nat → Mem → Int32 → Prop) (γ : Mem) (w1 : Int32) : Prop :=
  (((γ 0 6) ≤ w1) → (∀ γ2 : Mem, γ2 = up γ 0 6 0 → (Q w1 γ2))) ∧ ((¬ (γ 0 6) ≤ w1) → (((12 ≤ w1) → (∀ γ4 : Mem, γ4 = up γ 0 6 0 → (Q w1 γ4))) ∧ ((¬ 12 ≤ w1) → (vp_in w1 12 ∧ (∀ v6 : Int32, v6 = (γ 21 w1.toNatClampNeg) → (vp_in v6 12 ∧ (∀ v8 : Int32, v8 = (γ 6 v6.toNatClampNeg) → (∀ v9 : Int32, v9 = w1 + 1 → (vc_X1_hasTask (fun r10 => ((r10 = 0) → (rec 0 γ v9)) ∧ ((¬ r10 = 0) → (((∀ γ12 : Mem, γ12 = up γ 9 v6.toNatClampNeg ((γ 9 v6.toNatClampNeg) + 1) → (vp_in v8 8 ∧ ((∀ γ14 : Mem, γ14 = up γ12 17 v8.toNatClampNeg ((γ12 17 v8.toNatClampNeg) + 1) → (vc_X7_playerWith (fun r15 => (vc_X5_gain (fun γ17 => (vc_X7_playerWith (fun r18 => vc_X1_takeEffect (fun γ20 => rec 0 γ20 v9) γ17 (γ17 16 v8.toNatClampNeg) r18) v6)) γ14 r15 (γ14 15 v8.toNatClampNeg))) v6))))))))) γ v8)))))))))
def vl_X1_finishDue (Q : Int32 → Mem → Prop) : Nat → Nat → Mem → Int32 → Prop
  | 0, _, _, _ => False
  | n + 1, 0, γ, w1 => vb_X1_finishDue_2 Q (vl_X1_finishDue Q n) γ w1
  | _ + 1, _, _, _ => False
def vc_X1_finishDue (Q : Int32 → Mem → Prop) (γ : Mem) : Prop :=
  ∃ n : Nat, vl_X1_finishDue Q n 0 γ 0
set_option maxHeartbeats 8000000 in
set_option maxRecDepth 100000 in
theorem m_X1_finishDue (l : Launch) (G : GG) (aG : Nat) (γ : Mem) (Q : Int32 → Mem → Prop) (h : vc_X1_finishDue Q γ) : CtI l yX1_finishDue cX1_finishDue 4 (some .int) { frames := 2, cells := 0, slots := 0, locals := 47 } [.ref (aG + 0)] G (fun H => rg G LG aG γ H) (Q) (fun u H => rg G LG aG u H) (RA aG 22) := by
  unfold CtI
  refine met_start (y := yX1_finishDue) (maxL := 4) (av := [.ref (aG + 0)]) (G := G) (P := fun H => rg G LG aG γ H) (by decide) rfl (Nat.le_of_ble_eq_true rfl) (fun p e s m below meth c ls C hr hP hK hl => ?_)
  obtain ⟨hx, hb, hml, hown, hts, hlocks⟩ := id C
  have hG : rg G LG aG γ s.heap := hP
  have hS : va_S (RA aG 22) s.heap s.heap [] := va_S.rf
  have hl : lv_has ls 4 [(0, .ref (aG + 0))] := hl
  have K : ∀ n : Nat, (∀ (γ : Mem) (w1 : Int32) (H : Heap) (locs : List Loc) (ls : Array Slot), rg G LG aG γ H → va_S (RA aG 22) s.heap H locs → lv_has ls 4 [(0, .ref (aG + 0)), (1, .int w1)] → vl_X1_finishDue Q n 0 γ w1 → W p l e { frames := 2, cells := 0, slots := 0, locals := 47 } s m [.ref (aG + 0)].toArray below meth c H locs 0 0 (MQ below (va_Qi (Q) (fun u t => (fun u H => rg G LG aG u H) u t.heap ∧ KK G t) (RA aG 22)) [.ref (aG + 0)].toArray s 0 0 (RA aG 22)) (F0 m 2 ls [])) := by
    intro n
    induction n with
    | zero => exact fun _ _ _ _ _ _ _ _ h => h.elim
    | succ n ih =>
      · intro γ w1 H locs ls hG hS hl h
        replace h : vb_X1_finishDue_2 Q (vl_X1_finishDue Q n) γ w1 := h
        unfold vb_X1_finishDue_2 at h
        refine lv_iload_n hx hb dX1_finishDue_2 rfl (lv_at hl 1 rfl) ?_
        refine lv_aload_n hx hb dX1_finishDue_3 rfl (lv_at hl 0 rfl) ?_
        refine g_getI (a := aG) (k := 0) C hK hG fl_X1_175 rfl rfl dX1_finishDue_4 ?_
        refine lv_icmp_ge (tgt := 110) hx hb dX1_finishDue_7 (by decide) (fun c1 => ?_) (fun c1 => ?_)
        · replace h := h.1 c1
          refine lv_aload_n hx hb dX1_finishDue_110 rfl (lv_at hl 0 rfl) ?_
          refine lv_iconst (v := 0) hx hb dX1_finishDue_111 (by decide) ?_
          refine g_put (a := aG) (k := 0) C hK hG hS fl_X1_175 fp_X1_6 rfl rfl (by rfl) (by rfl) (RA_in (by decide)) dX1_finishDue_112 (fun γ2 H locs eγ2 hG hS hq => ?_)
          specialize h γ2 eγ2
          refine lv_iload_n hx hb dX1_finishDue_115 rfl (lv_at hl 1 rfl) ?_
          exact g_iret (post := Q) (P' := fun u H => rg G LG aG u H) (r := w1) (u := γ2) C hr hK hS h hG dX1_finishDue_116
        · replace h := h.2 c1
          refine lv_iload_n hx hb dX1_finishDue_10 rfl (lv_at hl 1 rfl) ?_
          refine lv_bipush (v := 12) hx hb dX1_finishDue_11 (by decide) ?_
          refine lv_icmp_ge (tgt := 110) hx hb dX1_finishDue_13 (by decide) (fun c3 => ?_) (fun c3 => ?_)
          · replace h := h.1 c3
            refine lv_aload_n hx hb dX1_finishDue_110 rfl (lv_at hl 0 rfl) ?_
            refine lv_iconst (v := 0) hx hb dX1_finishDue_111 (by decide) ?_
            refine g_put (a := aG) (k := 0) C hK hG hS fl_X1_175 fp_X1_6 rfl rfl (by rfl) (by rfl) (RA_in (by decide)) dX1_finishDue_112 (fun γ4 H locs eγ4 hG hS hq => ?_)
            specialize h γ4 eγ4
            refine lv_iload_n hx hb dX1_finishDue_115 rfl (lv_at hl 1 rfl) ?_
            exact g_iret (post := Q) (P' := fun u H => rg G LG aG u H) (r := w1) (u := γ4) C hr hK hS h hG dX1_finishDue_116
          · replace h := h.2 c3
            refine lv_aload_n hx hb dX1_finishDue_16 rfl (lv_at hl 0 rfl) ?_
            refine g_getR (a := aG) (k := 0) (o := 21) C hK hG fl_X1_39 rfl rfl dX1_finishDue_17 ?_
            refine lv_iload_n hx hb dX1_finishDue_20 rfl (lv_at hl 1 rfl) ?_
            obtain ⟨b5, h⟩ := h
            refine g_ald (a := aG) (k := 21) (n := 12) C hK hG rfl b5 dX1_finishDue_21 ?_
            refine lv_topi (fun v6 ev6 => ?_)
            specialize h v6 ev6
            refine lv_istore_n (lv' := [(2, .int v6), (0, .ref (aG + 0)), (1, .int w1)]) hx hb dX1_finishDue_22 rfl hl (by decide) rfl (fun ls hl => ?_)
            refine lv_aload_n hx hb dX1_finishDue_23 rfl (lv_at hl 1 rfl) ?_
            refine g_getR (a := aG) (k := 0) (o := 4) C hK hG fl_X1_21 rfl rfl dX1_finishDue_24 ?_
            refine g_getR (a := aG) (k := 4) (o := 6) C hK hG fl_X1_112 rfl rfl dX1_finishDue_27 ?_
            refine lv_iload_n hx hb dX1_finishDue_30 rfl (lv_at hl 0 rfl) ?_
            obtain ⟨b7, h⟩ := h
            refine g_ald (a := aG) (k := 6) (n := 12) C hK hG rfl b7 dX1_finishDue_31 ?_
            refine lv_topi (fun v8 ev8 => ?_)
            specialize h v8 ev8
            refine lv_istore_n (lv' := [(3, .int v8), (2, .int v6), (0, .ref (aG + 0)), (1, .int w1)]) hx hb dX1_finishDue_32 rfl hl (by decide) rfl (fun ls hl => ?_)
            obtain ⟨v9, ev9⟩ : ∃ y : Int32, y = w1 + 1 := ⟨_, rfl⟩
            specialize h v9 ev9
            refine lv_iinc (v := v9) (lv' := [(1, .int v9), (3, .int v8), (2, .int v6), (0, .ref (aG + 0))]) hx hb dX1_finishDue_33 hl (k := 3) rfl (by rw [ev9]; rfl) (by decide) rfl (fun ls hl => ?_)
            refine lv_aload_n hx hb dX1_finishDue_36 rfl (lv_at hl 3 rfl) ?_
            refine lv_iload_n hx hb dX1_finishDue_37 rfl (lv_at hl 1 rfl) ?_
            refine g_vI C hK hl.1 (m_X1_hasTask l G aG γ v8 _ h) mw_X1_hasTask mi_X1_hasTask ml_X1_124 rfl ⟨rfl, rfl, Nat.le_of_ble_eq_true rfl, Nat.le_of_ble_eq_true rfl⟩ ⟨Nat.zero_le _, Nat.zero_le _⟩ (g_recv (a := aG) (k := 0) hK hG rfl rfl) hG hS (fun _ h => h.elim) rfl (Nat.le_of_ble_eq_true rfl) dX1_finishDue_38 (fun r10 u H locs h hu _ hq hS => ?_)
            have hG := hG.past hq (fun _ _ h => h)
            refine lv_if_eq (tgt := 107) hx hb dX1_finishDue_41 (by decide) (fun c11 => ?_) (fun c11 => ?_)
            · replace h := h.1 c11
              refine lv_goto (tgt := 2) hx hb dX1_finishDue_107 (by decide) ?_
              exact (ih) γ v9 _ _ _ hG hS (lv_sub hl [3, 0] rfl) h
            · replace h := h.2 c11
              refine lv_aload_n hx hb dX1_finishDue_44 rfl (lv_at hl 3 rfl) ?_
              refine g_getR (a := aG) (k := 0) (o := 4) C hK hG fl_X1_21 rfl rfl dX1_finishDue_45 ?_
              refine g_getR (a := aG) (k := 4) (o := 9) C hK hG fl_X1_178 rfl rfl dX1_finishDue_48 ?_
              refine lv_iload_n hx hb dX1_finishDue_51 rfl (lv_at hl 2 rfl) ?_
              refine lv_dup2_11 hx hb dX1_finishDue_52 rfl rfl ?_
              refine g_ald (a := aG) (k := 9) (n := 12) C hK hG rfl b7 dX1_finishDue_53 ?_
              refine lv_iconst (v := 1) hx hb dX1_finishDue_54 (by decide) ?_
              refine lv_iadd hx hb dX1_finishDue_55 ?_
              refine g_ast (a := aG) (k := 9) (n := 12) C hK hG hS rfl b7 (RA_in (by decide)) dX1_finishDue_56 (fun γ12 H locs eγ12 hG hS hq => ?_)
              specialize h γ12 eγ12
              refine lv_aload_n hx hb dX1_finishDue_57 rfl (lv_at hl 3 rfl) ?_
              refine g_getR (a := aG) (k := 0) (o := 12) C hK hG fl_X1_28 rfl rfl dX1_finishDue_58 ?_
              refine g_getR (a := aG) (k := 12) (o := 17) C hK hG fl_X1_181 rfl rfl dX1_finishDue_61 ?_
              refine lv_iload_n hx hb dX1_finishDue_64 rfl (lv_at hl 1 rfl) ?_
              refine lv_dup2_11 hx hb dX1_finishDue_65 rfl rfl ?_
              obtain ⟨b13, h⟩ := h
              refine g_ald (a := aG) (k := 17) (n := 8) C hK hG rfl b13 dX1_finishDue_66 ?_
              refine lv_iconst (v := 1) hx hb dX1_finishDue_67 (by decide) ?_
              refine lv_iadd hx hb dX1_finishDue_68 ?_
              refine g_ast (a := aG) (k := 17) (n := 8) C hK hG hS rfl b13 (RA_in (by decide)) dX1_finishDue_69 (fun γ14 H locs eγ14 hG hS hq => ?_)
              specialize h γ14 eγ14
              refine lv_aload_n hx hb dX1_finishDue_70 rfl (lv_at hl 3 rfl) ?_
              refine g_getR (a := aG) (k := 0) (o := 1) C hK hG fl_X1_12 rfl rfl dX1_finishDue_71 ?_
              refine lv_iload_n hx hb dX1_finishDue_74 rfl (lv_at hl 2 rfl) ?_
              refine g_nI C hK hl.1 (m_X7_playerWith l G v6 _ h) mw_X7_playerWith ms_X7_playerWith nl_X1_118 rfl ⟨rfl, rfl, Nat.le_of_ble_eq_true rfl, Nat.le_of_ble_eq_true rfl⟩ ⟨Nat.zero_le _, Nat.zero_le _⟩ trivial hS (fun _ h => h.elim) rfl (Nat.le_of_ble_eq_true rfl) dX1_finishDue_75 (fun r15 u H locs h hu _ hq hS => ?_)
              have hG := hG.past hq (fun _ _ h => h)
              refine lv_aload_n hx hb dX1_finishDue_78 rfl (lv_at hl 3 rfl) ?_
              refine g_getR (a := aG) (k := 0) (o := 12) C hK hG fl_X1_28 rfl rfl dX1_finishDue_79 ?_
              refine g_getR (a := aG) (k := 12) (o := 15) C hK hG fl_X1_96 rfl rfl dX1_finishDue_82 ?_
              refine lv_iload_n hx hb dX1_finishDue_85 rfl (lv_at hl 1 rfl) ?_
              refine g_ald (a := aG) (k := 15) (n := 8) C hK hG rfl b13 dX1_finishDue_86 ?_
              refine g_vV C hK hl.1 (m_X5_gain l G aG γ14 r15 (γ14 15 v8.toNatClampNeg) _ h) mw_X5_gain mi_X5_gain ml_X1_182 rfl ⟨rfl, rfl, Nat.le_of_ble_eq_true rfl, Nat.le_of_ble_eq_true rfl⟩ ⟨Nat.zero_le _, Nat.zero_le _⟩ (g_recv (a := aG) (k := 1) hK hG rfl rfl) hG hS (fun _ h => h) rfl (Nat.le_of_ble_eq_true rfl) dX1_finishDue_87 (fun u H locs h hu _ hq hS => ?_)
              obtain ⟨γ17, rfl⟩ : ∃ z, z = u := ⟨_, rfl⟩
              have hG := hu
              refine lv_aload_n hx hb dX1_finishDue_90 rfl (lv_at hl 3 rfl) ?_
              refine lv_aload_n hx hb dX1_finishDue_91 rfl (lv_at hl 3 rfl) ?_
              refine g_getR (a := aG) (k := 0) (o := 12) C hK hG fl_X1_28 rfl rfl dX1_finishDue_92 ?_
              refine g_getR (a := aG) (k := 12) (o := 16) C hK hG fl_X1_99 rfl rfl dX1_finishDue_95 ?_
              refine lv_iload_n hx hb dX1_finishDue_98 rfl (lv_at hl 1 rfl) ?_
              refine g_ald (a := aG) (k := 16) (n := 8) C hK hG rfl b13 dX1_finishDue_99 ?_
              refine lv_iload_n hx hb dX1_finishDue_100 rfl (lv_at hl 2 rfl) ?_
              refine g_nI C hK hl.1 (m_X7_playerWith l G v6 _ h) mw_X7_playerWith ms_X7_playerWith nl_X1_118 rfl ⟨rfl, rfl, Nat.le_of_ble_eq_true rfl, Nat.le_of_ble_eq_true rfl⟩ ⟨Nat.zero_le _, Nat.zero_le _⟩ trivial hS (fun _ h => h.elim) rfl (Nat.le_of_ble_eq_true rfl) dX1_finishDue_101 (fun r18 u H locs h hu _ hq hS => ?_)
              have hG := hG.past hq (fun _ _ h => h)
              refine g_vV C hK hl.1 (m_X1_takeEffect l G aG γ17 (γ17 16 v8.toNatClampNeg) r18 _ h) mw_X1_takeEffect mi_X1_takeEffect ml_X1_184 rfl ⟨rfl, rfl, Nat.le_of_ble_eq_true rfl, Nat.le_of_ble_eq_true rfl⟩ ⟨Nat.zero_le _, Nat.zero_le _⟩ (g_recv (a := aG) (k := 0) hK hG rfl rfl) hG hS (fun _ h => h) rfl (Nat.le_of_ble_eq_true rfl) dX1_finishDue_104 (fun u H locs h hu _ hq hS => ?_)
              obtain ⟨γ20, rfl⟩ : ∃ z, z = u := ⟨_, rfl⟩
              have hG := hu
              refine lv_goto (tgt := 2) hx hb dX1_finishDue_107 (by decide) ?_
              exact (ih) γ20 v9 _ _ _ hG hS (lv_sub hl [3, 0] rfl) h
  unfold vc_X1_finishDue at h
  obtain ⟨n, h⟩ := h
  refine lv_iconst (v := 0) hx hb dX1_finishDue_0 (by decide) ?_
  refine lv_istore_n (lv' := [(1, .int 0), (0, .ref (aG + 0))]) hx hb dX1_finishDue_1 rfl hl (by decide) rfl (fun ls hl => ?_)
  exact ((K n)) γ 0 _ _ _ hG hS (lv_sub hl [1, 0] rfl) h
theorem dX1_flipByHand_0 : decode cX1_flipByHand 0 = .ok (.aload_n 0, 1) := by decide +kernel
theorem dX1_flipByHand_1 : decode cX1_flipByHand 1 = .ok (.iload_n 1, 1) := by decide +kernel
theorem dX1_flipByHand_2 : decode cX1_flipByHand 2 = .ok (.iload_n 2, 1) := by decide +kernel
theorem dX1_flipByHand_3 : decode cX1_flipByHand 3 = .ok (.invokevirtual 74, 3) := by decide +kernel
theorem dX1_flipByHand_6 : decode cX1_flipByHand 6 = .ok (.ifCond .ne 6, 3) := by decide +kernel
theorem dX1_flipByHand_9 : decode cX1_flipByHand 9 = .ok (.ldc 78, 2) := by decide +kernel
theorem dX1_flipByHand_11 : decode cX1_flipByHand 11 = .ok (.ireturn, 1) := by decide +kernel
theorem dX1_flipByHand_12 : decode cX1_flipByHand 12 = .ok (.iload_n 1, 1) := by decide +kernel
theorem dX1_flipByHand_13 : decode cX1_flipByHand 13 = .ok (.iload_n 2, 1) := by decide +kernel
theorem dX1_flipByHand_14 : decode cX1_flipByHand 14 = .ok (.invokestatic 79, 3) := by decide +kernel
theorem dX1_flipByHand_17 : decode cX1_flipByHand 17 = .ok (.istore_n 3, 1) := by decide +kernel
theorem dX1_flipByHand_18 : decode cX1_flipByHand 18 = .ok (.aload_n 0, 1) := by decide +kernel
theorem dX1_flipByHand_19 : decode cX1_flipByHand 19 = .ok (.getfield 21, 3) := by decide +kernel
theorem dX1_flipByHand_22 : decode cX1_flipByHand 22 = .ok (.iload_n 3, 1) := by decide +kernel
theorem dX1_flipByHand_23 : decode cX1_flipByHand 23 = .ok (.invokevirtual 83, 3) := by decide +kernel
theorem dX1_flipByHand_26 : decode cX1_flipByHand 26 = .ok (.ifCond .eq 6, 3) := by decide +kernel
theorem dX1_flipByHand_29 : decode cX1_flipByHand 29 = .ok (.ldc 86, 2) := by decide +kernel
theorem dX1_flipByHand_31 : decode cX1_flipByHand 31 = .ok (.ireturn, 1) := by decide +kernel
theorem dX1_flipByHand_32 : decode cX1_flipByHand 32 = .ok (.aload_n 0, 1) := by decide +kernel
theorem dX1_flipByHand_33 : decode cX1_flipByHand 33 = .ok (.getfield 21, 3) := by decide +kernel
theorem dX1_flipByHand_36 : decode cX1_flipByHand 36 = .ok (.iload_n 3, 1) := by decide +kernel
theorem dX1_flipByHand_37 : decode cX1_flipByHand 37 = .ok (.invokevirtual 137, 3) := by decide +kernel
theorem dX1_flipByHand_40 : decode cX1_flipByHand 40 = .ok (.aload_n 0, 1) := by decide +kernel
theorem dX1_flipByHand_41 : decode cX1_flipByHand 41 = .ok (.iload_n 3, 1) := by decide +kernel
theorem dX1_flipByHand_42 : decode cX1_flipByHand 42 = .ok (.invokevirtual 141, 3) := by decide +kernel
theorem dX1_flipByHand_45 : decode cX1_flipByHand 45 = .ok (.aload_n 0, 1) := by decide +kernel
theorem dX1_flipByHand_46 : decode cX1_flipByHand 46 = .ok (.invokevirtual 144, 3) := by decide +kernel
theorem dX1_flipByHand_49 : decode cX1_flipByHand 49 = .ok (.pop, 1) := by decide +kernel
theorem dX1_flipByHand_50 : decode cX1_flipByHand 50 = .ok (.aload_n 0, 1) := by decide +kernel
theorem dX1_flipByHand_51 : decode cX1_flipByHand 51 = .ok (.getfield 21, 3) := by decide +kernel
theorem dX1_flipByHand_54 : decode cX1_flipByHand 54 = .ok (.getfield 148, 3) := by decide +kernel
theorem dX1_flipByHand_57 : decode cX1_flipByHand 57 = .ok (.iload_n 3, 1) := by decide +kernel
theorem dX1_flipByHand_58 : decode cX1_flipByHand 58 = .ok (.iaload, 1) := by decide +kernel
theorem dX1_flipByHand_59 : decode cX1_flipByHand 59 = .ok (.ireturn, 1) := by decide +kernel
def vc_X1_flipByHand (Q : Int32 → Mem → Prop) (γ : Mem) (x1 : Int32) (x2 : Int32) : Prop :=
  vc_X1_hasWorker (fun r1 => ((¬ r1 = 0) → (vc_X7_glassOf (fun r3 => vc_X2_isOut (fun r4 => ((r4 = 0) → (vc_X2_flipOne (fun γ7 => vc_X1_addIfDue (fun γ9 => vc_X1_finishDue (fun r10 γ11 => vp_in r3 12 ∧ (Q (γ11 7 r3.toNatClampNeg) γ11)) γ9) γ7 r3) γ r3)) ∧ ((¬ r4 = 0) → (Q (-1000002) γ))) γ r3) x1 x2)) ∧ ((r1 = 0) → (Q (-1000001) γ))) γ x1 x2
set_option maxHeartbeats 8000000 in
set_option maxRecDepth 100000 in
theorem m_X1_flipByHand (l : Launch) (G : GG) (aG : Nat) (γ : Mem) (x1 : Int32) (x2 : Int32) (Q : Int32 → Mem → Prop) (h : vc_X1_flipByHand Q γ x1 x2) : CtI l yX1_flipByHand cX1_flipByHand 4 (some .int) { frames := 3, cells := 0, slots := 0, locals := 70 } [.ref (aG + 0), .int x1, .int x2] G (fun H => rg G LG aG γ H) (Q) (fun u H => rg G LG aG u H) (RA aG 22) := by
  unfold CtI
  refine met_start (y := yX1_flipByHand) (maxL := 4) (av := [.ref (aG + 0), .int x1, .int x2]) (G := G) (P := fun H => rg G LG aG γ H) (by decide) rfl (Nat.le_of_ble_eq_true rfl) (fun p e s m below meth c ls C hr hP hK hl => ?_)
  obtain ⟨hx, hb, hml, hown, hts, hlocks⟩ := id C
  have hG : rg G LG aG γ s.heap := hP
  have hS : va_S (RA aG 22) s.heap s.heap [] := va_S.rf
  have hl : lv_has ls 4 [(0, .ref (aG + 0)), (1, .int x1), (2, .int x2)] := hl
  unfold vc_X1_flipByHand at h
  refine lv_aload_n hx hb dX1_flipByHand_0 rfl (lv_at hl 0 rfl) ?_
  refine lv_iload_n hx hb dX1_flipByHand_1 rfl (lv_at hl 1 rfl) ?_
  refine lv_iload_n hx hb dX1_flipByHand_2 rfl (lv_at hl 2 rfl) ?_
  refine g_vI C hK hl.1 (m_X1_hasWorker l G aG γ x1 x2 _ h) mw_X1_hasWorker mi_X1_hasWorker ml_X1_74 rfl ⟨rfl, rfl, Nat.le_of_ble_eq_true rfl, Nat.le_of_ble_eq_true rfl⟩ ⟨Nat.zero_le _, Nat.zero_le _⟩ (g_recv (a := aG) (k := 0) hK hG rfl rfl) hG hS (fun _ h => h.elim) rfl (Nat.le_of_ble_eq_true rfl) dX1_flipByHand_3 (fun r1 u H locs h hu _ hq hS => ?_)
  have hG := hG.past hq (fun _ _ h => h)
  refine lv_if_ne (tgt := 12) hx hb dX1_flipByHand_6 (by decide) (fun c2 => ?_) (fun c2 => ?_)
  · replace h := h.1 c2
    refine lv_iload_n hx hb dX1_flipByHand_12 rfl (lv_at hl 1 rfl) ?_
    refine lv_iload_n hx hb dX1_flipByHand_13 rfl (lv_at hl 2 rfl) ?_
    refine g_nI C hK hl.1 (m_X7_glassOf l G x1 x2 _ h) mw_X7_glassOf ms_X7_glassOf nl_X1_79 rfl ⟨rfl, rfl, Nat.le_of_ble_eq_true rfl, Nat.le_of_ble_eq_true rfl⟩ ⟨Nat.zero_le _, Nat.zero_le _⟩ trivial hS (fun _ h => h.elim) rfl (Nat.le_of_ble_eq_true rfl) dX1_flipByHand_14 (fun r3 u H locs h hu _ hq hS => ?_)
    have hG := hG.past hq (fun _ _ h => h)
    refine lv_istore_n (lv' := [(3, .int r3), (0, .ref (aG + 0)), (1, .int x1), (2, .int x2)]) hx hb dX1_flipByHand_17 rfl hl (by decide) rfl (fun ls hl => ?_)
    refine lv_aload_n hx hb dX1_flipByHand_18 rfl (lv_at hl 1 rfl) ?_
    refine g_getR (a := aG) (k := 0) (o := 4) C hK hG fl_X1_21 rfl rfl dX1_flipByHand_19 ?_
    refine lv_iload_n hx hb dX1_flipByHand_22 rfl (lv_at hl 0 rfl) ?_
    refine g_vI C hK hl.1 (m_X2_isOut l G aG γ r3 _ h) mw_X2_isOut mi_X2_isOut ml_X1_83 rfl ⟨rfl, rfl, Nat.le_of_ble_eq_true rfl, Nat.le_of_ble_eq_true rfl⟩ ⟨Nat.zero_le _, Nat.zero_le _⟩ (g_recv (a := aG) (k := 4) hK hG rfl rfl) hG hS (fun _ h => h.elim) rfl (Nat.le_of_ble_eq_true rfl) dX1_flipByHand_23 (fun r4 u H locs h hu _ hq hS => ?_)
    have hG := hG.past hq (fun _ _ h => h)
    refine lv_if_eq (tgt := 32) hx hb dX1_flipByHand_26 (by decide) (fun c5 => ?_) (fun c5 => ?_)
    · replace h := h.1 c5
      refine lv_aload_n hx hb dX1_flipByHand_32 rfl (lv_at hl 1 rfl) ?_
      refine g_getR (a := aG) (k := 0) (o := 4) C hK hG fl_X1_21 rfl rfl dX1_flipByHand_33 ?_
      refine lv_iload_n hx hb dX1_flipByHand_36 rfl (lv_at hl 0 rfl) ?_
      refine g_vV C hK hl.1 (m_X2_flipOne l G aG γ r3 _ h) mw_X2_flipOne mi_X2_flipOne ml_X1_137 rfl ⟨rfl, rfl, Nat.le_of_ble_eq_true rfl, Nat.le_of_ble_eq_true rfl⟩ ⟨Nat.zero_le _, Nat.zero_le _⟩ (g_recv (a := aG) (k := 4) hK hG rfl rfl) hG hS (fun _ h => h) rfl (Nat.le_of_ble_eq_true rfl) dX1_flipByHand_37 (fun u H locs h hu _ hq hS => ?_)
      obtain ⟨γ7, rfl⟩ : ∃ z, z = u := ⟨_, rfl⟩
      have hG := hu
      refine lv_aload_n hx hb dX1_flipByHand_40 rfl (lv_at hl 1 rfl) ?_
      refine lv_iload_n hx hb dX1_flipByHand_41 rfl (lv_at hl 0 rfl) ?_
      refine g_vV C hK hl.1 (m_X1_addIfDue l G aG γ7 r3 _ h) mw_X1_addIfDue mi_X1_addIfDue ml_X1_141 rfl ⟨rfl, rfl, Nat.le_of_ble_eq_true rfl, Nat.le_of_ble_eq_true rfl⟩ ⟨Nat.zero_le _, Nat.zero_le _⟩ (g_recv (a := aG) (k := 0) hK hG rfl rfl) hG hS (fun _ h => h) rfl (Nat.le_of_ble_eq_true rfl) dX1_flipByHand_42 (fun u H locs h hu _ hq hS => ?_)
      obtain ⟨γ9, rfl⟩ : ∃ z, z = u := ⟨_, rfl⟩
      have hG := hu
      refine lv_aload_n hx hb dX1_flipByHand_45 rfl (lv_at hl 1 rfl) ?_
      refine g_vI C hK hl.1 (m_X1_finishDue l G aG γ9 _ h) mw_X1_finishDue mi_X1_finishDue ml_X1_144 rfl ⟨rfl, rfl, Nat.le_of_ble_eq_true rfl, Nat.le_of_ble_eq_true rfl⟩ ⟨Nat.zero_le _, Nat.zero_le _⟩ (g_recv (a := aG) (k := 0) hK hG rfl rfl) hG hS (fun _ h => h) rfl (Nat.le_of_ble_eq_true rfl) dX1_flipByHand_46 (fun r10 u H locs h hu _ hq hS => ?_)
      obtain ⟨γ11, rfl⟩ : ∃ z, z = u := ⟨_, rfl⟩
      have hG := hu
      refine lv_pop hx hb dX1_flipByHand_49 rfl ?_
      refine lv_aload_n hx hb dX1_flipByHand_50 rfl (lv_at hl 1 rfl) ?_
      refine g_getR (a := aG) (k := 0) (o := 4) C hK hG fl_X1_21 rfl rfl dX1_flipByHand_51 ?_
      refine g_getR (a := aG) (k := 4) (o := 7) C hK hG fl_X1_148 rfl rfl dX1_flipByHand_54 ?_
      refine lv_iload_n hx hb dX1_flipByHand_57 rfl (lv_at hl 0 rfl) ?_
      obtain ⟨b12, h⟩ := h
      refine g_ald (a := aG) (k := 7) (n := 12) C hK hG rfl b12 dX1_flipByHand_58 ?_
      exact g_iret (post := Q) (P' := fun u H => rg G LG aG u H) (r := (γ11 7 r3.toNatClampNeg)) (u := γ11) C hr hK hS h hG dX1_flipByHand_59
    · replace h := h.2 c5
      refine g_ldc C kc_X1_86 dX1_flipByHand_29 ?_
      exact g_iret (post := Q) (P' := fun u H => rg G LG aG u H) (r := (-1000002)) (u := γ) C hr hK hS h hG dX1_flipByHand_31
  · replace h := h.2 c2
    refine g_ldc C kc_X1_78 dX1_flipByHand_9 ?_
    exact g_iret (post := Q) (P' := fun u H => rg G LG aG u H) (r := (-1000001)) (u := γ) C hr hK hS h hG dX1_flipByHand_11
theorem dX1_buyContract_0 : decode cX1_buyContract 0 = .ok (.aload_n 0, 1) := by decide +kernel
theorem dX1_buyContract_1 : decode cX1_buyContract 1 = .ok (.iload_n 1, 1) := by decide +kernel
theorem dX1_buyContract_2 : decode cX1_buyContract 2 = .ok (.invokevirtual 67, 3) := by decide +kernel
theorem dX1_buyContract_5 : decode cX1_buyContract 5 = .ok (.ifCond .eq 11, 3) := by decide +kernel
theorem dX1_buyContract_8 : decode cX1_buyContract 8 = .ok (.aload_n 0, 1) := by decide +kernel
theorem dX1_buyContract_9 : decode cX1_buyContract 9 = .ok (.iload_n 2, 1) := by decide +kernel
theorem dX1_buyContract_10 : decode cX1_buyContract 10 = .ok (.invokevirtual 151, 3) := by decide +kernel
theorem dX1_buyContract_13 : decode cX1_buyContract 13 = .ok (.ifCond .ne 6, 3) := by decide +kernel
theorem dX1_buyContract_16 : decode cX1_buyContract 16 = .ok (.ldc 78, 2) := by decide +kernel
theorem dX1_buyContract_18 : decode cX1_buyContract 18 = .ok (.ireturn, 1) := by decide +kernel
theorem dX1_buyContract_19 : decode cX1_buyContract 19 = .ok (.aload_n 0, 1) := by decide +kernel
theorem dX1_buyContract_20 : decode cX1_buyContract 20 = .ok (.getfield 35, 3) := by decide +kernel
theorem dX1_buyContract_23 : decode cX1_buyContract 23 = .ok (.getfield 102, 3) := by decide +kernel
theorem dX1_buyContract_26 : decode cX1_buyContract 26 = .ok (.iload_n 2, 1) := by decide +kernel
theorem dX1_buyContract_27 : decode cX1_buyContract 27 = .ok (.iaload, 1) := by decide +kernel
theorem dX1_buyContract_28 : decode cX1_buyContract 28 = .ok (.istore_n 3, 1) := by decide +kernel
theorem dX1_buyContract_29 : decode cX1_buyContract 29 = .ok (.aload_n 0, 1) := by decide +kernel
theorem dX1_buyContract_30 : decode cX1_buyContract 30 = .ok (.getfield 12, 3) := by decide +kernel
theorem dX1_buyContract_33 : decode cX1_buyContract 33 = .ok (.iload_n 1, 1) := by decide +kernel
theorem dX1_buyContract_34 : decode cX1_buyContract 34 = .ok (.iload_n 3, 1) := by decide +kernel
theorem dX1_buyContract_35 : decode cX1_buyContract 35 = .ok (.invokevirtual 121, 3) := by decide +kernel
theorem dX1_buyContract_38 : decode cX1_buyContract 38 = .ok (.ifCond .ne 6, 3) := by decide +kernel
theorem dX1_buyContract_41 : decode cX1_buyContract 41 = .ok (.ldc 86, 2) := by decide +kernel
theorem dX1_buyContract_43 : decode cX1_buyContract 43 = .ok (.ireturn, 1) := by decide +kernel
theorem dX1_buyContract_44 : decode cX1_buyContract 44 = .ok (.aload_n 0, 1) := by decide +kernel
theorem dX1_buyContract_45 : decode cX1_buyContract 45 = .ok (.getfield 12, 3) := by decide +kernel
theorem dX1_buyContract_48 : decode cX1_buyContract 48 = .ok (.iload_n 1, 1) := by decide +kernel
theorem dX1_buyContract_49 : decode cX1_buyContract 49 = .ok (.iload_n 3, 1) := by decide +kernel
theorem dX1_buyContract_50 : decode cX1_buyContract 50 = .ok (.invokevirtual 130, 3) := by decide +kernel
theorem dX1_buyContract_53 : decode cX1_buyContract 53 = .ok (.aload_n 0, 1) := by decide +kernel
theorem dX1_buyContract_54 : decode cX1_buyContract 54 = .ok (.getfield 12, 3) := by decide +kernel
theorem dX1_buyContract_57 : decode cX1_buyContract 57 = .ok (.getfield 154, 3) := by decide +kernel
theorem dX1_buyContract_60 : decode cX1_buyContract 60 = .ok (.iload_n 1, 1) := by decide +kernel
theorem dX1_buyContract_61 : decode cX1_buyContract 61 = .ok (.dup2, 1) := by decide +kernel
theorem dX1_buyContract_62 : decode cX1_buyContract 62 = .ok (.iaload, 1) := by decide +kernel
theorem dX1_buyContract_63 : decode cX1_buyContract 63 = .ok (.aload_n 0, 1) := by decide +kernel
theorem dX1_buyContract_64 : decode cX1_buyContract 64 = .ok (.getfield 35, 3) := by decide +kernel
theorem dX1_buyContract_67 : decode cX1_buyContract 67 = .ok (.getfield 105, 3) := by decide +kernel
theorem dX1_buyContract_70 : decode cX1_buyContract 70 = .ok (.iload_n 2, 1) := by decide +kernel
theorem dX1_buyContract_71 : decode cX1_buyContract 71 = .ok (.iaload, 1) := by decide +kernel
theorem dX1_buyContract_72 : decode cX1_buyContract 72 = .ok (.iadd, 1) := by decide +kernel
theorem dX1_buyContract_73 : decode cX1_buyContract 73 = .ok (.iastore, 1) := by decide +kernel
theorem dX1_buyContract_74 : decode cX1_buyContract 74 = .ok (.aload_n 0, 1) := by decide +kernel
theorem dX1_buyContract_75 : decode cX1_buyContract 75 = .ok (.getfield 35, 3) := by decide +kernel
theorem dX1_buyContract_78 : decode cX1_buyContract 78 = .ok (.iload_n 2, 1) := by decide +kernel
theorem dX1_buyContract_79 : decode cX1_buyContract 79 = .ok (.invokevirtual 155, 3) := by decide +kernel
theorem dX1_buyContract_82 : decode cX1_buyContract 82 = .ok (.aload_n 0, 1) := by decide +kernel
theorem dX1_buyContract_83 : decode cX1_buyContract 83 = .ok (.getfield 12, 3) := by decide +kernel
theorem dX1_buyContract_86 : decode cX1_buyContract 86 = .ok (.getfield 154, 3) := by decide +kernel
theorem dX1_buyContract_89 : decode cX1_buyContract 89 = .ok (.iload_n 1, 1) := by decide +kernel
theorem dX1_buyContract_90 : decode cX1_buyContract 90 = .ok (.iaload, 1) := by decide +kernel
theorem dX1_buyContract_91 : decode cX1_buyContract 91 = .ok (.ireturn, 1) := by decide +kernel
def vc_X1_buyContract (Q : Int32 → Mem → Prop) (γ : Mem) (x1 : Int32) (x2 : Int32) : Prop :=
  vc_X1_hasPlayer (fun r1 => ((r1 = 0) → (Q (-1000001) γ)) ∧ ((¬ r1 = 0) → (vc_X1_hasContract (fun r3 => ((¬ r3 = 0) → (vp_in x2 6 ∧ (∀ v6 : Int32, v6 = (γ 19 x2.toNatClampNeg) → (vc_X5_have (fun r7 => ((¬ r7 = 0) → (vc_X5_pay (fun γ10 => vp_in x1 4 ∧ (((∀ γ12 : Mem, γ12 = up γ10 3 x1.toNatClampNeg ((γ10 3 x1.toNatClampNeg) + (γ10 20 x2.toNatClampNeg)) → (vc_X0_remove (fun γ14 => (Q (γ14 3 x1.toNatClampNeg) γ14)) γ12 x2))))) γ x1 v6)) ∧ ((r7 = 0) → (Q (-1000002) γ))) γ x1 v6)))) ∧ ((r3 = 0) → (Q (-1000001) γ))) γ x2))) γ x1
set_option maxHeartbeats 8000000 in
set_option maxRecDepth 100000 in
theorem m_X1_buyContract (l : Launch) (G : GG) (aG : Nat) (γ : Mem) (x1 : Int32) (x2 : Int32) (Q : Int32 → Mem → Prop) (h : vc_X1_buyContract Q γ x1 x2) : CtI l yX1_buyContract cX1_buyContract 4 (some .int) { frames := 2, cells := 0, slots := 0, locals := 45 } [.ref (aG + 0), .int x1, .int x2] G (fun H => rg G LG aG γ H) (Q) (fun u H => rg G LG aG u H) (RA aG 22) := by
  unfold CtI
  refine met_start (y := yX1_buyContract) (maxL := 4) (av := [.ref (aG + 0), .int x1, .int x2]) (G := G) (P := fun H => rg G LG aG γ H) (by decide) rfl (Nat.le_of_ble_eq_true rfl) (fun p e s m below meth c ls C hr hP hK hl => ?_)
  obtain ⟨hx, hb, hml, hown, hts, hlocks⟩ := id C
  have hG : rg G LG aG γ s.heap := hP
  have hS : va_S (RA aG 22) s.heap s.heap [] := va_S.rf
  have hl : lv_has ls 4 [(0, .ref (aG + 0)), (1, .int x1), (2, .int x2)] := hl
  unfold vc_X1_buyContract at h
  refine lv_aload_n hx hb dX1_buyContract_0 rfl (lv_at hl 0 rfl) ?_
  refine lv_iload_n hx hb dX1_buyContract_1 rfl (lv_at hl 1 rfl) ?_
  refine g_vI C hK hl.1 (m_X1_hasPlayer l G aG γ x1 _ h) mw_X1_hasPlayer mi_X1_hasPlayer ml_X1_67 rfl ⟨rfl, rfl, Nat.le_of_ble_eq_true rfl, Nat.le_of_ble_eq_true rfl⟩ ⟨Nat.zero_le _, Nat.zero_le _⟩ (g_recv (a := aG) (k := 0) hK hG rfl rfl) hG hS (fun _ h => h.elim) rfl (Nat.le_of_ble_eq_true rfl) dX1_buyContract_2 (fun r1 u H locs h hu _ hq hS => ?_)
  have hG := hG.past hq (fun _ _ h => h)
  refine lv_if_eq (tgt := 16) hx hb dX1_buyContract_5 (by decide) (fun c2 => ?_) (fun c2 => ?_)
  · replace h := h.1 c2
    refine g_ldc C kc_X1_78 dX1_buyContract_16 ?_
    exact g_iret (post := Q) (P' := fun u H => rg G LG aG u H) (r := (-1000001)) (u := γ) C hr hK hS h hG dX1_buyContract_18
  · replace h := h.2 c2
    refine lv_aload_n hx hb dX1_buyContract_8 rfl (lv_at hl 0 rfl) ?_
    refine lv_iload_n hx hb dX1_buyContract_9 rfl (lv_at hl 2 rfl) ?_
    refine g_vI C hK hl.1 (m_X1_hasContract l G aG γ x2 _ h) mw_X1_hasContract mi_X1_hasContract ml_X1_151 rfl ⟨rfl, rfl, Nat.le_of_ble_eq_true rfl, Nat.le_of_ble_eq_true rfl⟩ ⟨Nat.zero_le _, Nat.zero_le _⟩ (g_recv (a := aG) (k := 0) hK hG rfl rfl) hG hS (fun _ h => h.elim) rfl (Nat.le_of_ble_eq_true rfl) dX1_buyContract_10 (fun r3 u H locs h hu _ hq hS => ?_)
    have hG := hG.past hq (fun _ _ h => h)
    refine lv_if_ne (tgt := 19) hx hb dX1_buyContract_13 (by decide) (fun c4 => ?_) (fun c4 => ?_)
    · replace h := h.1 c4
      refine lv_aload_n hx hb dX1_buyContract_19 rfl (lv_at hl 0 rfl) ?_
      refine g_getR (a := aG) (k := 0) (o := 18) C hK hG fl_X1_35 rfl rfl dX1_buyContract_20 ?_
      refine g_getR (a := aG) (k := 18) (o := 19) C hK hG fl_X1_102 rfl rfl dX1_buyContract_23 ?_
      refine lv_iload_n hx hb dX1_buyContract_26 rfl (lv_at hl 2 rfl) ?_
      obtain ⟨b5, h⟩ := h
      refine g_ald (a := aG) (k := 19) (n := 6) C hK hG rfl b5 dX1_buyContract_27 ?_
      refine lv_topi (fun v6 ev6 => ?_)
      specialize h v6 ev6
      refine lv_istore_n (lv' := [(3, .int v6), (0, .ref (aG + 0)), (1, .int x1), (2, .int x2)]) hx hb dX1_buyContract_28 rfl hl (by decide) rfl (fun ls hl => ?_)
      refine lv_aload_n hx hb dX1_buyContract_29 rfl (lv_at hl 1 rfl) ?_
      refine g_getR (a := aG) (k := 0) (o := 1) C hK hG fl_X1_12 rfl rfl dX1_buyContract_30 ?_
      refine lv_iload_n hx hb dX1_buyContract_33 rfl (lv_at hl 2 rfl) ?_
      refine lv_iload_n hx hb dX1_buyContract_34 rfl (lv_at hl 0 rfl) ?_
      refine g_vI C hK hl.1 (m_X5_have l G aG γ x1 v6 _ h) mw_X5_have mi_X5_have ml_X1_121 rfl ⟨rfl, rfl, Nat.le_of_ble_eq_true rfl, Nat.le_of_ble_eq_true rfl⟩ ⟨Nat.zero_le _, Nat.zero_le _⟩ (g_recv (a := aG) (k := 1) hK hG rfl rfl) hG hS (fun _ h => h.elim) rfl (Nat.le_of_ble_eq_true rfl) dX1_buyContract_35 (fun r7 u H locs h hu _ hq hS => ?_)
      have hG := hG.past hq (fun _ _ h => h)
      refine lv_if_ne (tgt := 44) hx hb dX1_buyContract_38 (by decide) (fun c8 => ?_) (fun c8 => ?_)
      · replace h := h.1 c8
        refine lv_aload_n hx hb dX1_buyContract_44 rfl (lv_at hl 1 rfl) ?_
        refine g_getR (a := aG) (k := 0) (o := 1) C hK hG fl_X1_12 rfl rfl dX1_buyContract_45 ?_
        refine lv_iload_n hx hb dX1_buyContract_48 rfl (lv_at hl 2 rfl) ?_
        refine lv_iload_n hx hb dX1_buyContract_49 rfl (lv_at hl 0 rfl) ?_
        refine g_vV C hK hl.1 (m_X5_pay l G aG γ x1 v6 _ h) mw_X5_pay mi_X5_pay ml_X1_130 rfl ⟨rfl, rfl, Nat.le_of_ble_eq_true rfl, Nat.le_of_ble_eq_true rfl⟩ ⟨Nat.zero_le _, Nat.zero_le _⟩ (g_recv (a := aG) (k := 1) hK hG rfl rfl) hG hS (fun _ h => h) rfl (Nat.le_of_ble_eq_true rfl) dX1_buyContract_50 (fun u H locs h hu _ hq hS => ?_)
        obtain ⟨γ10, rfl⟩ : ∃ z, z = u := ⟨_, rfl⟩
        have hG := hu
        refine lv_aload_n hx hb dX1_buyContract_53 rfl (lv_at hl 1 rfl) ?_
        refine g_getR (a := aG) (k := 0) (o := 1) C hK hG fl_X1_12 rfl rfl dX1_buyContract_54 ?_
        refine g_getR (a := aG) (k := 1) (o := 3) C hK hG fl_X1_154 rfl rfl dX1_buyContract_57 ?_
        refine lv_iload_n hx hb dX1_buyContract_60 rfl (lv_at hl 2 rfl) ?_
        refine lv_dup2_11 hx hb dX1_buyContract_61 rfl rfl ?_
        obtain ⟨b11, h⟩ := h
        refine g_ald (a := aG) (k := 3) (n := 4) C hK hG rfl b11 dX1_buyContract_62 ?_
        refine lv_aload_n hx hb dX1_buyContract_63 rfl (lv_at hl 1 rfl) ?_
        refine g_getR (a := aG) (k := 0) (o := 18) C hK hG fl_X1_35 rfl rfl dX1_buyContract_64 ?_
        refine g_getR (a := aG) (k := 18) (o := 20) C hK hG fl_X1_105 rfl rfl dX1_buyContract_67 ?_
        refine lv_iload_n hx hb dX1_buyContract_70 rfl (lv_at hl 3 rfl) ?_
        refine g_ald (a := aG) (k := 20) (n := 6) C hK hG rfl b5 dX1_buyContract_71 ?_
        refine lv_iadd hx hb dX1_buyContract_72 ?_
        refine g_ast (a := aG) (k := 3) (n := 4) C hK hG hS rfl b11 (RA_in (by decide)) dX1_buyContract_73 (fun γ12 H locs eγ12 hG hS hq => ?_)
        specialize h γ12 eγ12
        refine lv_aload_n hx hb dX1_buyContract_74 rfl (lv_at hl 1 rfl) ?_
        refine g_getR (a := aG) (k := 0) (o := 18) C hK hG fl_X1_35 rfl rfl dX1_buyContract_75 ?_
        refine lv_iload_n hx hb dX1_buyContract_78 rfl (lv_at hl 3 rfl) ?_
        refine g_vV C hK hl.1 (m_X0_remove l G aG γ12 x2 _ h) mw_X0_remove mi_X0_remove ml_X1_155 rfl ⟨rfl, rfl, Nat.le_of_ble_eq_true rfl, Nat.le_of_ble_eq_true rfl⟩ ⟨Nat.zero_le _, Nat.zero_le _⟩ (g_recv (a := aG) (k := 18) hK hG rfl rfl) hG hS (fun _ h => h) rfl (Nat.le_of_ble_eq_true rfl) dX1_buyContract_79 (fun u H locs h hu _ hq hS => ?_)
        obtain ⟨γ14, rfl⟩ : ∃ z, z = u := ⟨_, rfl⟩
        have hG := hu
        refine lv_aload_n hx hb dX1_buyContract_82 rfl (lv_at hl 1 rfl) ?_
        refine g_getR (a := aG) (k := 0) (o := 1) C hK hG fl_X1_12 rfl rfl dX1_buyContract_83 ?_
        refine g_getR (a := aG) (k := 1) (o := 3) C hK hG fl_X1_154 rfl rfl dX1_buyContract_86 ?_
        refine lv_iload_n hx hb dX1_buyContract_89 rfl (lv_at hl 2 rfl) ?_
        refine g_ald (a := aG) (k := 3) (n := 4) C hK hG rfl b11 dX1_buyContract_90 ?_
        exact g_iret (post := Q) (P' := fun u H => rg G LG aG u H) (r := (γ14 3 x1.toNatClampNeg)) (u := γ14) C hr hK hS h hG dX1_buyContract_91
      · replace h := h.2 c8
        refine g_ldc C kc_X1_86 dX1_buyContract_41 ?_
        exact g_iret (post := Q) (P' := fun u H => rg G LG aG u H) (r := (-1000002)) (u := γ) C hr hK hS h hG dX1_buyContract_43
    · replace h := h.2 c4
      refine g_ldc C kc_X1_78 dX1_buyContract_16 ?_
      exact g_iret (post := Q) (P' := fun u H => rg G LG aG u H) (r := (-1000001)) (u := γ) C hr hK hS h hG dX1_buyContract_18
theorem dX1_advance_0 : decode cX1_advance 0 = .ok (.iconst 0, 1) := by decide +kernel
theorem dX1_advance_1 : decode cX1_advance 1 = .ok (.istore_n 2, 1) := by decide +kernel
theorem dX1_advance_2 : decode cX1_advance 2 = .ok (.iconst 0, 1) := by decide +kernel
theorem dX1_advance_3 : decode cX1_advance 3 = .ok (.istore_n 3, 1) := by decide +kernel
theorem dX1_advance_4 : decode cX1_advance 4 = .ok (.iload_n 3, 1) := by decide +kernel
theorem dX1_advance_5 : decode cX1_advance 5 = .ok (.iload_n 1, 1) := by decide +kernel
theorem dX1_advance_6 : decode cX1_advance 6 = .ok (.if_icmp .ge 141, 3) := by decide +kernel
theorem dX1_advance_9 : decode cX1_advance 9 = .ok (.iconst 1, 1) := by decide +kernel
theorem dX1_advance_10 : decode cX1_advance 10 = .ok (.iload_n 1, 1) := by decide +kernel
theorem dX1_advance_11 : decode cX1_advance 11 = .ok (.iload_n 3, 1) := by decide +kernel
theorem dX1_advance_12 : decode cX1_advance 12 = .ok (.isub, 1) := by decide +kernel
theorem dX1_advance_13 : decode cX1_advance 13 = .ok (.aload_n 0, 1) := by decide +kernel
theorem dX1_advance_14 : decode cX1_advance 14 = .ok (.getfield 21, 3) := by decide +kernel
theorem dX1_advance_17 : decode cX1_advance 17 = .ok (.invokevirtual 161, 3) := by decide +kernel
theorem dX1_advance_20 : decode cX1_advance 20 = .ok (.invokestatic 164, 3) := by decide +kernel
theorem dX1_advance_23 : decode cX1_advance 23 = .ok (.invokestatic 169, 3) := by decide +kernel
theorem dX1_advance_26 : decode cX1_advance 26 = .ok (.istore 4, 2) := by decide +kernel
theorem dX1_advance_28 : decode cX1_advance 28 = .ok (.iconst 0, 1) := by decide +kernel
theorem dX1_advance_29 : decode cX1_advance 29 = .ok (.istore 5, 2) := by decide +kernel
theorem dX1_advance_31 : decode cX1_advance 31 = .ok (.iload 5, 2) := by decide +kernel
theorem dX1_advance_33 : decode cX1_advance 33 = .ok (.iconst 3, 1) := by decide +kernel
theorem dX1_advance_34 : decode cX1_advance 34 = .ok (.aload_n 0, 1) := by decide +kernel
theorem dX1_advance_35 : decode cX1_advance 35 = .ok (.getfield 12, 3) := by decide +kernel
theorem dX1_advance_38 : decode cX1_advance 38 = .ok (.getfield 60, 3) := by decide +kernel
theorem dX1_advance_41 : decode cX1_advance 41 = .ok (.imul, 1) := by decide +kernel
theorem dX1_advance_42 : decode cX1_advance 42 = .ok (.if_icmp .ge 79, 3) := by decide +kernel
theorem dX1_advance_45 : decode cX1_advance 45 = .ok (.iload 5, 2) := by decide +kernel
theorem dX1_advance_47 : decode cX1_advance 47 = .ok (.bipush 12, 2) := by decide +kernel
theorem dX1_advance_49 : decode cX1_advance 49 = .ok (.if_icmp .ge 72, 3) := by decide +kernel
theorem dX1_advance_52 : decode cX1_advance 52 = .ok (.aload_n 0, 1) := by decide +kernel
theorem dX1_advance_53 : decode cX1_advance 53 = .ok (.getfield 21, 3) := by decide +kernel
theorem dX1_advance_56 : decode cX1_advance 56 = .ok (.iload 5, 2) := by decide +kernel
theorem dX1_advance_58 : decode cX1_advance 58 = .ok (.invokevirtual 83, 3) := by decide +kernel
theorem dX1_advance_61 : decode cX1_advance 61 = .ok (.ifCond .eq 21, 3) := by decide +kernel
theorem dX1_advance_64 : decode cX1_advance 64 = .ok (.aload_n 0, 1) := by decide +kernel
theorem dX1_advance_65 : decode cX1_advance 65 = .ok (.getfield 21, 3) := by decide +kernel
theorem dX1_advance_68 : decode cX1_advance 68 = .ok (.getfield 172, 3) := by decide +kernel
theorem dX1_advance_71 : decode cX1_advance 71 = .ok (.iload 5, 2) := by decide +kernel
theorem dX1_advance_73 : decode cX1_advance 73 = .ok (.dup2, 1) := by decide +kernel
theorem dX1_advance_74 : decode cX1_advance 74 = .ok (.iaload, 1) := by decide +kernel
theorem dX1_advance_75 : decode cX1_advance 75 = .ok (.iload 4, 2) := by decide +kernel
theorem dX1_advance_77 : decode cX1_advance 77 = .ok (.iadd, 1) := by decide +kernel
theorem dX1_advance_78 : decode cX1_advance 78 = .ok (.iastore, 1) := by decide +kernel
theorem dX1_advance_79 : decode cX1_advance 79 = .ok (.goto 36, 3) := by decide +kernel
theorem dX1_advance_82 : decode cX1_advance 82 = .ok (.aload_n 0, 1) := by decide +kernel
theorem dX1_advance_83 : decode cX1_advance 83 = .ok (.getfield 21, 3) := by decide +kernel
theorem dX1_advance_86 : decode cX1_advance 86 = .ok (.getfield 148, 3) := by decide +kernel
theorem dX1_advance_89 : decode cX1_advance 89 = .ok (.iload 5, 2) := by decide +kernel
theorem dX1_advance_91 : decode cX1_advance 91 = .ok (.iconst 0, 1) := by decide +kernel
theorem dX1_advance_92 : decode cX1_advance 92 = .ok (.aload_n 0, 1) := by decide +kernel
theorem dX1_advance_93 : decode cX1_advance 93 = .ok (.getfield 21, 3) := by decide +kernel
theorem dX1_advance_96 : decode cX1_advance 96 = .ok (.getfield 148, 3) := by decide +kernel
theorem dX1_advance_99 : decode cX1_advance 99 = .ok (.iload 5, 2) := by decide +kernel
theorem dX1_advance_101 : decode cX1_advance 101 = .ok (.iaload, 1) := by decide +kernel
theorem dX1_advance_102 : decode cX1_advance 102 = .ok (.iload 4, 2) := by decide +kernel
theorem dX1_advance_104 : decode cX1_advance 104 = .ok (.isub, 1) := by decide +kernel
theorem dX1_advance_105 : decode cX1_advance 105 = .ok (.invokestatic 169, 3) := by decide +kernel
theorem dX1_advance_108 : decode cX1_advance 108 = .ok (.iastore, 1) := by decide +kernel
theorem dX1_advance_109 : decode cX1_advance 109 = .ok (.aload_n 0, 1) := by decide +kernel
theorem dX1_advance_110 : decode cX1_advance 110 = .ok (.iload 5, 2) := by decide +kernel
theorem dX1_advance_112 : decode cX1_advance 112 = .ok (.invokevirtual 141, 3) := by decide +kernel
theorem dX1_advance_115 : decode cX1_advance 115 = .ok (.iinc 5 1, 3) := by decide +kernel
theorem dX1_advance_118 : decode cX1_advance 118 = .ok (.goto (-87), 3) := by decide +kernel
theorem dX1_advance_121 : decode cX1_advance 121 = .ok (.aload_n 0, 1) := by decide +kernel
theorem dX1_advance_122 : decode cX1_advance 122 = .ok (.dup, 1) := by decide +kernel
theorem dX1_advance_123 : decode cX1_advance 123 = .ok (.getfield 43, 3) := by decide +kernel
theorem dX1_advance_126 : decode cX1_advance 126 = .ok (.iload 4, 2) := by decide +kernel
theorem dX1_advance_128 : decode cX1_advance 128 = .ok (.iadd, 1) := by decide +kernel
theorem dX1_advance_129 : decode cX1_advance 129 = .ok (.putfield 43, 3) := by decide +kernel
theorem dX1_advance_132 : decode cX1_advance 132 = .ok (.iload_n 3, 1) := by decide +kernel
theorem dX1_advance_133 : decode cX1_advance 133 = .ok (.iload 4, 2) := by decide +kernel
theorem dX1_advance_135 : decode cX1_advance 135 = .ok (.iadd, 1) := by decide +kernel
theorem dX1_advance_136 : decode cX1_advance 136 = .ok (.istore_n 3, 1) := by decide +kernel
theorem dX1_advance_137 : decode cX1_advance 137 = .ok (.iload_n 2, 1) := by decide +kernel
theorem dX1_advance_138 : decode cX1_advance 138 = .ok (.aload_n 0, 1) := by decide +kernel
theorem dX1_advance_139 : decode cX1_advance 139 = .ok (.invokevirtual 144, 3) := by decide +kernel
theorem dX1_advance_142 : decode cX1_advance 142 = .ok (.iadd, 1) := by decide +kernel
theorem dX1_advance_143 : decode cX1_advance 143 = .ok (.istore_n 2, 1) := by decide +kernel
theorem dX1_advance_144 : decode cX1_advance 144 = .ok (.goto (-140), 3) := by decide +kernel
theorem dX1_advance_147 : decode cX1_advance 147 = .ok (.iload_n 2, 1) := by decide +kernel
theorem dX1_advance_148 : decode cX1_advance 148 = .ok (.ireturn, 1) := by decide +kernel
def vb_X1_advance_4 (Q : Int32 → Mem → Prop) (rec : Nat → Mem → Int32 → Int32 → Int32 → Int32 → Int32 → Prop) (γ : Mem) (w1 : Int32) (w2 : Int32) (w3 : Int32) : Prop :=
  ((w1 ≤ w3) → (Q w2 γ)) ∧ ((¬ w1 ≤ w3) → (vc_X2_untilNextOut (fun r2 => ∀ v3 : Int32, v3 = (if r2 < (w1 - w3) then r2 else (w1 - w3)) → (∀ v4 : Int32, v4 = (if 1 < v3 then v3 else 1) → (rec 1 γ w1 w2 w3 v4 0))) γ))
def vb_X1_advance_31 (Q : Int32 → Mem → Prop) (rec : Nat → Mem → Int32 → Int32 → Int32 → Int32 → Int32 → Prop) (γ : Mem) (w1 : Int32) (w2 : Int32) (w3 : Int32) (w4 : Int32) (w5 : Int32) : Prop :=
  (((3 * (γ 1 0)) ≤ w5) → (rec 2 γ w1 w2 w3 w4 0)) ∧ ((¬ (3 * (γ 1 0)) ≤ w5) → (((12 ≤ w5) → (rec 2 γ w1 w2 w3 w4 0)) ∧ ((¬ 12 ≤ w5) → (vc_X2_isOut (fun r7 => ((r7 = 0) → (vp_in w5 12 ∧ (∀ v10 : Int32, v10 = (if 0 < ((γ 7 w5.toNatClampNeg) - w4) then ((γ 7 w5.toNatClampNeg) - w4) else 0) → ((∀ γ11 : Mem, γ11 = up γ 7 w5.toNatClampNeg v10 → (vc_X1_addIfDue (fun γ13 => ∀ v14 : Int32, v14 = w5 + 1 → (rec 1 γ13 w1 w2 w3 w4 v14)) γ11 w5)))))) ∧ ((¬ r7 = 0) → (vp_in w5 12 ∧ ((∀ γ16 : Mem, γ16 = up γ 10 w5.toNatClampNeg ((γ 10 w5.toNatClampNeg) + w4) → (∀ v17 : Int32, v17 = w5 + 1 → (rec 1 γ16 w1 w2 w3 w4 v17))))))) γ w5))))
def vb_X1_advance_121 (Q : Int32 → Mem → Prop) (rec : Nat → Mem → Int32 → Int32 → Int32 → Int32 → Int32 → Prop) (γ : Mem) (w1 : Int32) (w2 : Int32) (w3 : Int32) (w4 : Int32) : Prop :=
  ∀ γ18 : Mem, γ18 = up γ 0 0 ((γ 0 0) + w4) → (∀ v19 : Int32, v19 = (w3 + w4) → (vc_X1_finishDue (fun r20 γ21 => ∀ v22 : Int32, v22 = (w2 + r20) → (rec 0 γ21 w1 v22 v19 0 0)) γ18))
def vl_X1_advance (Q : Int32 → Mem → Prop) : Nat → Nat → Mem → Int32 → Int32 → Int32 → Int32 → Int32 → Prop
  | 0, _, _, _, _, _, _, _ => False
  | n + 1, 0, γ, w1, w2, w3, _, _ => vb_X1_advance_4 Q (vl_X1_advance Q n) γ w1 w2 w3
  | n + 1, 1, γ, w1, w2, w3, w4, w5 => vb_X1_advance_31 Q (vl_X1_advance Q n) γ w1 w2 w3 w4 w5
  | n + 1, 2, γ, w1, w2, w3, w4, _ => vb_X1_advance_121 Q (vl_X1_advance Q n) γ w1 w2 w3 w4
  | _ + 1, _, _, _, _, _, _, _ => False
def vc_X1_advance (Q : Int32 → Mem → Prop) (γ : Mem) (x1 : Int32) : Prop :=
  ∃ n : Nat, vl_X1_advance Q n 0 γ x1 0 0 0 0
set_option maxHeartbeats 8000000 in
set_option maxRecDepth 100000 in
theorem m_X1_advance (l : Launch) (G : GG) (aG : Nat) (γ : Mem) (x1 : Int32) (Q : Int32 → Mem → Prop) (h : vc_X1_advance Q γ x1) : CtI l yX1_advance cX1_advance 6 (some .int) { frames := 3, cells := 0, slots := 0, locals := 70 } [.ref (aG + 0), .int x1] G (fun H => rg G LG aG γ H) (Q) (fun u H => rg G LG aG u H) (RA aG 22) := by
  unfold CtI
  refine met_start (y := yX1_advance) (maxL := 6) (av := [.ref (aG + 0), .int x1]) (G := G) (P := fun H => rg G LG aG γ H) (by decide) rfl (Nat.le_of_ble_eq_true rfl) (fun p e s m below meth c ls C hr hP hK hl => ?_)
  obtain ⟨hx, hb, hml, hown, hts, hlocks⟩ := id C
  have hG : rg G LG aG γ s.heap := hP
  have hS : va_S (RA aG 22) s.heap s.heap [] := va_S.rf
  have hl : lv_has ls 6 [(0, .ref (aG + 0)), (1, .int x1)] := hl
  have K : ∀ n : Nat, (∀ (γ : Mem) (w1 : Int32) (w2 : Int32) (w3 : Int32) (H : Heap) (locs : List Loc) (ls : Array Slot), rg G LG aG γ H → va_S (RA aG 22) s.heap H locs → lv_has ls 6 [(0, .ref (aG + 0)), (1, .int w1), (2, .int w2), (3, .int w3)] → vl_X1_advance Q n 0 γ w1 w2 w3 0 0 → W p l e { frames := 3, cells := 0, slots := 0, locals := 70 } s m [.ref (aG + 0), .int x1].toArray below meth c H locs 0 0 (MQ below (va_Qi (Q) (fun u t => (fun u H => rg G LG aG u H) u t.heap ∧ KK G t) (RA aG 22)) [.ref (aG + 0), .int x1].toArray s 0 0 (RA aG 22)) (F0 m 4 ls [])) ∧ (∀ (γ : Mem) (w1 : Int32) (w2 : Int32) (w3 : Int32) (w4 : Int32) (w5 : Int32) (H : Heap) (locs : List Loc) (ls : Array Slot), rg G LG aG γ H → va_S (RA aG 22) s.heap H locs → lv_has ls 6 [(0, .ref (aG + 0)), (1, .int w1), (2, .int w2), (3, .int w3), (4, .int w4), (5, .int w5)] → vl_X1_advance Q n 1 γ w1 w2 w3 w4 w5 → W p l e { frames := 3, cells := 0, slots := 0, locals := 70 } s m [.ref (aG + 0), .int x1].toArray below meth c H locs 0 0 (MQ below (va_Qi (Q) (fun u t => (fun u H => rg G LG aG u H) u t.heap ∧ KK G t) (RA aG 22)) [.ref (aG + 0), .int x1].toArray s 0 0 (RA aG 22)) (F0 m 31 ls [])) ∧ (∀ (γ : Mem) (w1 : Int32) (w2 : Int32) (w3 : Int32) (w4 : Int32) (H : Heap) (locs : List Loc) (ls : Array Slot), rg G LG aG γ H → va_S (RA aG 22) s.heap H locs → lv_has ls 6 [(0, .ref (aG + 0)), (1, .int w1), (2, .int w2), (3, .int w3), (4, .int w4)] → vl_X1_advance Q n 2 γ w1 w2 w3 w4 0 → W p l e { frames := 3, cells := 0, slots := 0, locals := 70 } s m [.ref (aG + 0), .int x1].toArray below meth c H locs 0 0 (MQ below (va_Qi (Q) (fun u t => (fun u H => rg G LG aG u H) u t.heap ∧ KK G t) (RA aG 22)) [.ref (aG + 0), .int x1].toArray s 0 0 (RA aG 22)) (F0 m 121 ls [])) := by
    intro n
    induction n with
    | zero => exact ⟨fun _ _ _ _ _ _ _ _ _ _ h => h.elim, fun _ _ _ _ _ _ _ _ _ _ _ _ h => h.elim, fun _ _ _ _ _ _ _ _ _ _ _ h => h.elim⟩
    | succ n ih =>
      refine ⟨?_, ?_, ?_⟩
      · intro γ w1 w2 w3 H locs ls hG hS hl h
        replace h : vb_X1_advance_4 Q (vl_X1_advance Q n) γ w1 w2 w3 := h
        unfold vb_X1_advance_4 at h
        refine lv_iload_n hx hb dX1_advance_4 rfl (lv_at hl 3 rfl) ?_
        refine lv_iload_n hx hb dX1_advance_5 rfl (lv_at hl 1 rfl) ?_
        refine lv_icmp_ge (tgt := 147) hx hb dX1_advance_6 (by decide) (fun c1 => ?_) (fun c1 => ?_)
        · replace h := h.1 c1
          refine lv_iload_n hx hb dX1_advance_147 rfl (lv_at hl 2 rfl) ?_
          exact g_iret (post := Q) (P' := fun u H => rg G LG aG u H) (r := w2) (u := γ) C hr hK hS h hG dX1_advance_148
        · replace h := h.2 c1
          refine lv_iconst (v := 1) hx hb dX1_advance_9 (by decide) ?_
          refine lv_iload_n hx hb dX1_advance_10 rfl (lv_at hl 1 rfl) ?_
          refine lv_iload_n hx hb dX1_advance_11 rfl (lv_at hl 3 rfl) ?_
          refine lv_isub hx hb dX1_advance_12 ?_
          refine lv_aload_n hx hb dX1_advance_13 rfl (lv_at hl 0 rfl) ?_
          refine g_getR (a := aG) (k := 0) (o := 4) C hK hG fl_X1_21 rfl rfl dX1_advance_14 ?_
          refine g_vI C hK hl.1 (m_X2_untilNextOut l G aG γ _ h) mw_X2_untilNextOut mi_X2_untilNextOut ml_X1_161 rfl ⟨rfl, rfl, Nat.le_of_ble_eq_true rfl, Nat.le_of_ble_eq_true rfl⟩ ⟨Nat.zero_le _, Nat.zero_le _⟩ (g_recv (a := aG) (k := 4) hK hG rfl rfl) hG hS (fun _ h => h.elim) rfl (Nat.le_of_ble_eq_true rfl) dX1_advance_17 (fun r2 u H locs h hu _ hq hS => ?_)
          have hG := hG.past hq (fun _ _ h => h)
          refine va_mmin hx hb (hml.trans hl.1.symm) hown (hts _ ml_X1_164) (hts _ math_min_s) (hts _ math_i) (hts _ math_min_c) (Nat.le_of_ble_eq_true rfl) (Nat.le_of_ble_eq_true rfl) (Nat.zero_le _) (Nat.zero_le _) dX1_advance_20 ?_
          refine lv_topi (fun v3 ev3 => ?_)
          specialize h v3 ev3
          refine va_mmax hx hb (hml.trans hl.1.symm) hown (hts _ ml_X1_169) (hts _ math_max_s) (hts _ math_i) (hts _ math_max_c) (Nat.le_of_ble_eq_true rfl) (Nat.le_of_ble_eq_true rfl) (Nat.zero_le _) (Nat.zero_le _) dX1_advance_23 ?_
          refine lv_topi (fun v4 ev4 => ?_)
          specialize h v4 ev4
          refine lv_istore (lv' := [(4, .int v4), (0, .ref (aG + 0)), (1, .int w1), (2, .int w2), (3, .int w3)]) hx hb dX1_advance_26 hl (by decide) rfl (fun ls hl => ?_)
          refine lv_iconst (v := 0) hx hb dX1_advance_28 (by decide) ?_
          refine lv_istore (lv' := [(5, .int 0), (4, .int v4), (0, .ref (aG + 0)), (1, .int w1), (2, .int w2), (3, .int w3)]) hx hb dX1_advance_29 hl (by decide) rfl (fun ls hl => ?_)
          exact (ih.2.1) γ w1 w2 w3 v4 0 _ _ _ hG hS (lv_sub hl [2, 3, 4, 5, 1, 0] rfl) h
      · intro γ w1 w2 w3 w4 w5 H locs ls hG hS hl h
        replace h : vb_X1_advance_31 Q (vl_X1_advance Q n) γ w1 w2 w3 w4 w5 := h
        unfold vb_X1_advance_31 at h
        refine lv_iload hx hb dX1_advance_31 (lv_at hl 5 rfl) ?_
        refine lv_iconst (v := 3) hx hb dX1_advance_33 (by decide) ?_
        refine lv_aload_n hx hb dX1_advance_34 rfl (lv_at hl 0 rfl) ?_
        refine g_getR (a := aG) (k := 0) (o := 1) C hK hG fl_X1_12 rfl rfl dX1_advance_35 ?_
        refine g_getI (a := aG) (k := 1) C hK hG fl_X1_60 rfl rfl dX1_advance_38 ?_
        refine lv_imul hx hb dX1_advance_41 ?_
        refine lv_icmp_ge (tgt := 121) hx hb dX1_advance_42 (by decide) (fun c5 => ?_) (fun c5 => ?_)
        · replace h := h.1 c5
          exact (ih.2.2) γ w1 w2 w3 w4 _ _ _ hG hS (lv_sub hl [0, 1, 2, 3, 4] rfl) h
        · replace h := h.2 c5
          refine lv_iload hx hb dX1_advance_45 (lv_at hl 5 rfl) ?_
          refine lv_bipush (v := 12) hx hb dX1_advance_47 (by decide) ?_
          refine lv_icmp_ge (tgt := 121) hx hb dX1_advance_49 (by decide) (fun c6 => ?_) (fun c6 => ?_)
          · replace h := h.1 c6
            exact (ih.2.2) γ w1 w2 w3 w4 _ _ _ hG hS (lv_sub hl [0, 1, 2, 3, 4] rfl) h
          · replace h := h.2 c6
            refine lv_aload_n hx hb dX1_advance_52 rfl (lv_at hl 0 rfl) ?_
            refine g_getR (a := aG) (k := 0) (o := 4) C hK hG fl_X1_21 rfl rfl dX1_advance_53 ?_
            refine lv_iload hx hb dX1_advance_56 (lv_at hl 5 rfl) ?_
            refine g_vI C hK hl.1 (m_X2_isOut l G aG γ w5 _ h) mw_X2_isOut mi_X2_isOut ml_X1_83 rfl ⟨rfl, rfl, Nat.le_of_ble_eq_true rfl, Nat.le_of_ble_eq_true rfl⟩ ⟨Nat.zero_le _, Nat.zero_le _⟩ (g_recv (a := aG) (k := 4) hK hG rfl rfl) hG hS (fun _ h => h.elim) rfl (Nat.le_of_ble_eq_true rfl) dX1_advance_58 (fun r7 u H locs h hu _ hq hS => ?_)
            have hG := hG.past hq (fun _ _ h => h)
            refine lv_if_eq (tgt := 82) hx hb dX1_advance_61 (by decide) (fun c8 => ?_) (fun c8 => ?_)
            · replace h := h.1 c8
              refine lv_aload_n hx hb dX1_advance_82 rfl (lv_at hl 0 rfl) ?_
              refine g_getR (a := aG) (k := 0) (o := 4) C hK hG fl_X1_21 rfl rfl dX1_advance_83 ?_
              refine g_getR (a := aG) (k := 4) (o := 7) C hK hG fl_X1_148 rfl rfl dX1_advance_86 ?_
              refine lv_iload hx hb dX1_advance_89 (lv_at hl 5 rfl) ?_
              refine lv_iconst (v := 0) hx hb dX1_advance_91 (by decide) ?_
              refine lv_aload_n hx hb dX1_advance_92 rfl (lv_at hl 0 rfl) ?_
              refine g_getR (a := aG) (k := 0) (o := 4) C hK hG fl_X1_21 rfl rfl dX1_advance_93 ?_
              refine g_getR (a := aG) (k := 4) (o := 7) C hK hG fl_X1_148 rfl rfl dX1_advance_96 ?_
              refine lv_iload hx hb dX1_advance_99 (lv_at hl 5 rfl) ?_
              obtain ⟨b9, h⟩ := h
              refine g_ald (a := aG) (k := 7) (n := 12) C hK hG rfl b9 dX1_advance_101 ?_
              refine lv_iload hx hb dX1_advance_102 (lv_at hl 4 rfl) ?_
              refine lv_isub hx hb dX1_advance_104 ?_
              refine va_mmax hx hb (hml.trans hl.1.symm) hown (hts _ ml_X1_169) (hts _ math_max_s) (hts _ math_i) (hts _ math_max_c) (Nat.le_of_ble_eq_true rfl) (Nat.le_of_ble_eq_true rfl) (Nat.zero_le _) (Nat.zero_le _) dX1_advance_105 ?_
              refine lv_topi (fun v10 ev10 => ?_)
              specialize h v10 ev10
              refine g_ast (a := aG) (k := 7) (n := 12) C hK hG hS rfl b9 (RA_in (by decide)) dX1_advance_108 (fun γ11 H locs eγ11 hG hS hq => ?_)
              specialize h γ11 eγ11
              refine lv_aload_n hx hb dX1_advance_109 rfl (lv_at hl 0 rfl) ?_
              refine lv_iload hx hb dX1_advance_110 (lv_at hl 5 rfl) ?_
              refine g_vV C hK hl.1 (m_X1_addIfDue l G aG γ11 w5 _ h) mw_X1_addIfDue mi_X1_addIfDue ml_X1_141 rfl ⟨rfl, rfl, Nat.le_of_ble_eq_true rfl, Nat.le_of_ble_eq_true rfl⟩ ⟨Nat.zero_le _, Nat.zero_le _⟩ (g_recv (a := aG) (k := 0) hK hG rfl rfl) hG hS (fun _ h => h) rfl (Nat.le_of_ble_eq_true rfl) dX1_advance_112 (fun u H locs h hu _ hq hS => ?_)
              obtain ⟨γ13, rfl⟩ : ∃ z, z = u := ⟨_, rfl⟩
              have hG := hu
              obtain ⟨v14, ev14⟩ : ∃ y : Int32, y = w5 + 1 := ⟨_, rfl⟩
              specialize h v14 ev14
              refine lv_iinc (v := v14) (lv' := [(5, .int v14), (0, .ref (aG + 0)), (1, .int w1), (2, .int w2), (3, .int w3), (4, .int w4)]) hx hb dX1_advance_115 hl (k := 5) rfl (by rw [ev14]; rfl) (by decide) rfl (fun ls hl => ?_)
              refine lv_goto (tgt := 31) hx hb dX1_advance_118 (by decide) ?_
              exact (ih.2.1) γ13 w1 w2 w3 w4 v14 _ _ _ hG hS (lv_sub hl [1, 2, 3, 4, 5, 0] rfl) h
            · replace h := h.2 c8
              refine lv_aload_n hx hb dX1_advance_64 rfl (lv_at hl 0 rfl) ?_
              refine g_getR (a := aG) (k := 0) (o := 4) C hK hG fl_X1_21 rfl rfl dX1_advance_65 ?_
              refine g_getR (a := aG) (k := 4) (o := 10) C hK hG fl_X1_172 rfl rfl dX1_advance_68 ?_
              refine lv_iload hx hb dX1_advance_71 (lv_at hl 5 rfl) ?_
              refine lv_dup2_11 hx hb dX1_advance_73 rfl rfl ?_
              obtain ⟨b15, h⟩ := h
              refine g_ald (a := aG) (k := 10) (n := 12) C hK hG rfl b15 dX1_advance_74 ?_
              refine lv_iload hx hb dX1_advance_75 (lv_at hl 4 rfl) ?_
              refine lv_iadd hx hb dX1_advance_77 ?_
              refine g_ast (a := aG) (k := 10) (n := 12) C hK hG hS rfl b15 (RA_in (by decide)) dX1_advance_78 (fun γ16 H locs eγ16 hG hS hq => ?_)
              specialize h γ16 eγ16
              refine lv_goto (tgt := 115) hx hb dX1_advance_79 (by decide) ?_
              obtain ⟨v17, ev17⟩ : ∃ y : Int32, y = w5 + 1 := ⟨_, rfl⟩
              specialize h v17 ev17
              refine lv_iinc (v := v17) (lv' := [(5, .int v17), (0, .ref (aG + 0)), (1, .int w1), (2, .int w2), (3, .int w3), (4, .int w4)]) hx hb dX1_advance_115 hl (k := 5) rfl (by rw [ev17]; rfl) (by decide) rfl (fun ls hl => ?_)
              refine lv_goto (tgt := 31) hx hb dX1_advance_118 (by decide) ?_
              exact (ih.2.1) γ16 w1 w2 w3 w4 v17 _ _ _ hG hS (lv_sub hl [1, 2, 3, 4, 5, 0] rfl) h
      · intro γ w1 w2 w3 w4 H locs ls hG hS hl h
        replace h : vb_X1_advance_121 Q (vl_X1_advance Q n) γ w1 w2 w3 w4 := h
        unfold vb_X1_advance_121 at h
        refine lv_aload_n hx hb dX1_advance_121 rfl (lv_at hl 0 rfl) ?_
        refine lv_dup hx hb dX1_advance_122 rfl ?_
        refine g_getI (a := aG) (k := 0) C hK hG fl_X1_43 rfl rfl dX1_advance_123 ?_
        refine lv_iload hx hb dX1_advance_126 (lv_at hl 4 rfl) ?_
        refine lv_iadd hx hb dX1_advance_128 ?_
        refine g_put (a := aG) (k := 0) C hK hG hS fl_X1_43 fp_X1_0 rfl rfl (by rfl) (by rfl) (RA_in (by decide)) dX1_advance_129 (fun γ18 H locs eγ18 hG hS hq => ?_)
        specialize h γ18 eγ18
        refine lv_iload_n hx hb dX1_advance_132 rfl (lv_at hl 3 rfl) ?_
        refine lv_iload hx hb dX1_advance_133 (lv_at hl 4 rfl) ?_
        refine lv_iadd hx hb dX1_advance_135 ?_
        refine lv_topi (fun v19 ev19 => ?_)
        specialize h v19 ev19
        refine lv_istore_n (lv' := [(3, .int v19), (0, .ref (aG + 0)), (1, .int w1), (2, .int w2), (4, .int w4)]) hx hb dX1_advance_136 rfl hl (by decide) rfl (fun ls hl => ?_)
        refine lv_iload_n hx hb dX1_advance_137 rfl (lv_at hl 3 rfl) ?_
        refine lv_aload_n hx hb dX1_advance_138 rfl (lv_at hl 1 rfl) ?_
        refine g_vI C hK hl.1 (m_X1_finishDue l G aG γ18 _ h) mw_X1_finishDue mi_X1_finishDue ml_X1_144 rfl ⟨rfl, rfl, Nat.le_of_ble_eq_true rfl, Nat.le_of_ble_eq_true rfl⟩ ⟨Nat.zero_le _, Nat.zero_le _⟩ (g_recv (a := aG) (k := 0) hK hG rfl rfl) hG hS (fun _ h => h) rfl (Nat.le_of_ble_eq_true rfl) dX1_advance_139 (fun r20 u H locs h hu _ hq hS => ?_)
        obtain ⟨γ21, rfl⟩ : ∃ z, z = u := ⟨_, rfl⟩
        have hG := hu
        refine lv_iadd hx hb dX1_advance_142 ?_
        refine lv_topi (fun v22 ev22 => ?_)
        specialize h v22 ev22
        refine lv_istore_n (lv' := [(2, .int v22), (3, .int v19), (0, .ref (aG + 0)), (1, .int w1), (4, .int w4)]) hx hb dX1_advance_143 rfl hl (by decide) rfl (fun ls hl => ?_)
        refine lv_goto (tgt := 4) hx hb dX1_advance_144 (by decide) ?_
        exact (ih.1) γ21 w1 v22 v19 _ _ _ hG hS (lv_sub hl [2, 3, 0, 1] rfl) h
  unfold vc_X1_advance at h
  obtain ⟨n, h⟩ := h
  refine lv_iconst (v := 0) hx hb dX1_advance_0 (by decide) ?_
  refine lv_istore_n (lv' := [(2, .int 0), (0, .ref (aG + 0)), (1, .int x1)]) hx hb dX1_advance_1 rfl hl (by decide) rfl (fun ls hl => ?_)
  refine lv_iconst (v := 0) hx hb dX1_advance_2 (by decide) ?_
  refine lv_istore_n (lv' := [(3, .int 0), (2, .int 0), (0, .ref (aG + 0)), (1, .int x1)]) hx hb dX1_advance_3 rfl hl (by decide) rfl (fun ls hl => ?_)
  exact ((K n).1) γ x1 0 0 _ _ _ hG hS (lv_sub hl [2, 3, 1, 0] rfl) h
