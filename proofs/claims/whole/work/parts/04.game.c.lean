theorem dX1_hasWorker_0 : decode cX1_hasWorker 0 = .ok (.aload_n 0, 1) := by decide +kernel
theorem dX1_hasWorker_1 : decode cX1_hasWorker 1 = .ok (.iload_n 1, 1) := by decide +kernel
theorem dX1_hasWorker_2 : decode cX1_hasWorker 2 = .ok (.invokevirtual 67, 3) := by decide +kernel
theorem dX1_hasWorker_5 : decode cX1_hasWorker 5 = .ok (.ifCond .eq 16, 3) := by decide +kernel
theorem dX1_hasWorker_8 : decode cX1_hasWorker 8 = .ok (.iload_n 2, 1) := by decide +kernel
theorem dX1_hasWorker_9 : decode cX1_hasWorker 9 = .ok (.iconst 0, 1) := by decide +kernel
theorem dX1_hasWorker_10 : decode cX1_hasWorker 10 = .ok (.iconst 2, 1) := by decide +kernel
theorem dX1_hasWorker_11 : decode cX1_hasWorker 11 = .ok (.invokestatic 63, 3) := by decide +kernel
theorem dX1_hasWorker_14 : decode cX1_hasWorker 14 = .ok (.ifCond .eq 7, 3) := by decide +kernel
theorem dX1_hasWorker_17 : decode cX1_hasWorker 17 = .ok (.iconst 1, 1) := by decide +kernel
theorem dX1_hasWorker_18 : decode cX1_hasWorker 18 = .ok (.goto 4, 3) := by decide +kernel
theorem dX1_hasWorker_21 : decode cX1_hasWorker 21 = .ok (.iconst 0, 1) := by decide +kernel
theorem dX1_hasWorker_22 : decode cX1_hasWorker 22 = .ok (.ireturn, 1) := by decide +kernel
def vc_X1_hasWorker (Q : Int32 → Prop) (γ : Mem) (x1 : Int32) (x2 : Int32) : Prop :=
  vc_X1_hasPlayer (fun r1 => ((r1 = 0) → (Q 0 )) ∧ ((¬ r1 = 0) → (vc_X7_within (fun r3 => ((r3 = 0) → (Q 0 )) ∧ ((¬ r3 = 0) → (Q 1 ))) x2 0 2))) γ x1
set_option maxHeartbeats 8000000 in
set_option maxRecDepth 100000 in
theorem m_X1_hasWorker (l : Launch) (G : GG) (aG : Nat) (γ : Mem) (x1 : Int32) (x2 : Int32) (Q : Int32 → Prop) (h : vc_X1_hasWorker Q γ x1 x2) : CtI l yX1_hasWorker cX1_hasWorker 3 (some .boolean) { frames := 2, cells := 0, slots := 0, locals := 43 } [.ref (aG + 0), .int x1, .int x2] G (fun H => rg G LG aG γ H) (fun r (_ : Unit) => Q r) (fun _ _ => True) (fun _ => False) := by
  unfold CtI
  refine met_start (y := yX1_hasWorker) (maxL := 3) (av := [.ref (aG + 0), .int x1, .int x2]) (G := G) (P := fun H => rg G LG aG γ H) (by decide) rfl (Nat.le_of_ble_eq_true rfl) (fun p e s m below meth c ls C hr hP hK hl => ?_)
  obtain ⟨hx, hb, hml, hown, hts, hlocks⟩ := id C
  have hG : rg G LG aG γ s.heap := hP
  have hS : va_S (fun _ => False) s.heap s.heap [] := va_S.rf
  have hl : lv_has ls 3 [(0, .ref (aG + 0)), (1, .int x1), (2, .int x2)] := hl
  unfold vc_X1_hasWorker at h
  refine lv_aload_n hx hb dX1_hasWorker_0 rfl (lv_at hl 0 rfl) ?_
  refine lv_iload_n hx hb dX1_hasWorker_1 rfl (lv_at hl 1 rfl) ?_
  refine g_vI C hK hl.1 (m_X1_hasPlayer l G aG γ x1 _ h) mw_X1_hasPlayer mi_X1_hasPlayer ml_X1_67 rfl ⟨rfl, rfl, Nat.le_of_ble_eq_true rfl, Nat.le_of_ble_eq_true rfl⟩ ⟨Nat.zero_le _, Nat.zero_le _⟩ (g_recv (a := aG) (k := 0) hK hG rfl rfl) hG hS (fun _ h => h.elim) rfl (Nat.le_of_ble_eq_true rfl) dX1_hasWorker_2 (fun r1 u H locs h hu _ hq hS => ?_)
  have hG := hG.past hq (fun _ _ h => h)
  refine lv_if_eq (tgt := 21) hx hb dX1_hasWorker_5 (by decide) (fun c2 => ?_) (fun c2 => ?_)
  · replace h := h.1 c2
    refine lv_iconst (v := 0) hx hb dX1_hasWorker_21 (by decide) ?_
    exact g_zret (post := fun r (_ : Unit) => Q r) (P' := fun _ _ => True) (r := 0) (u := ()) C hr hK hS (by rfl) h trivial dX1_hasWorker_22
  · replace h := h.2 c2
    refine lv_iload_n hx hb dX1_hasWorker_8 rfl (lv_at hl 2 rfl) ?_
    refine lv_iconst (v := 0) hx hb dX1_hasWorker_9 (by decide) ?_
    refine lv_iconst (v := 2) hx hb dX1_hasWorker_10 (by decide) ?_
    refine g_nI C hK hl.1 (m_X7_within l G x2 0 2 _ h) mw_X7_within ms_X7_within nl_X1_63 rfl ⟨rfl, rfl, Nat.le_of_ble_eq_true rfl, Nat.le_of_ble_eq_true rfl⟩ ⟨Nat.zero_le _, Nat.zero_le _⟩ trivial hS (fun _ h => h.elim) rfl (Nat.le_of_ble_eq_true rfl) dX1_hasWorker_11 (fun r3 u H locs h hu _ hq hS => ?_)
    have hG := hG.past hq (fun _ _ h => h)
    refine lv_if_eq (tgt := 21) hx hb dX1_hasWorker_14 (by decide) (fun c4 => ?_) (fun c4 => ?_)
    · replace h := h.1 c4
      refine lv_iconst (v := 0) hx hb dX1_hasWorker_21 (by decide) ?_
      exact g_zret (post := fun r (_ : Unit) => Q r) (P' := fun _ _ => True) (r := 0) (u := ()) C hr hK hS (by rfl) h trivial dX1_hasWorker_22
    · replace h := h.2 c4
      refine lv_iconst (v := 1) hx hb dX1_hasWorker_17 (by decide) ?_
      refine lv_goto (tgt := 22) hx hb dX1_hasWorker_18 (by decide) ?_
      exact g_zret (post := fun r (_ : Unit) => Q r) (P' := fun _ _ => True) (r := 1) (u := ()) C hr hK hS (by rfl) h trivial dX1_hasWorker_22
theorem dX1_hasTask_0 : decode cX1_hasTask 0 = .ok (.iload_n 1, 1) := by decide +kernel
theorem dX1_hasTask_1 : decode cX1_hasTask 1 = .ok (.iconst 0, 1) := by decide +kernel
theorem dX1_hasTask_2 : decode cX1_hasTask 2 = .ok (.aload_n 0, 1) := by decide +kernel
theorem dX1_hasTask_3 : decode cX1_hasTask 3 = .ok (.getfield 28, 3) := by decide +kernel
theorem dX1_hasTask_6 : decode cX1_hasTask 6 = .ok (.getfield 71, 3) := by decide +kernel
theorem dX1_hasTask_9 : decode cX1_hasTask 9 = .ok (.iconst 1, 1) := by decide +kernel
theorem dX1_hasTask_10 : decode cX1_hasTask 10 = .ok (.isub, 1) := by decide +kernel
theorem dX1_hasTask_11 : decode cX1_hasTask 11 = .ok (.invokestatic 63, 3) := by decide +kernel
theorem dX1_hasTask_14 : decode cX1_hasTask 14 = .ok (.ireturn, 1) := by decide +kernel
def vc_X1_hasTask (Q : Int32 → Prop) (γ : Mem) (x1 : Int32) : Prop :=
  vc_X7_within (fun r1 => narrow .boolean (.int r1) = .int r1 ∧ Q r1 ) x1 0 ((γ 12 0) - 1)
set_option maxHeartbeats 8000000 in
set_option maxRecDepth 100000 in
theorem m_X1_hasTask (l : Launch) (G : GG) (aG : Nat) (γ : Mem) (x1 : Int32) (Q : Int32 → Prop) (h : vc_X1_hasTask Q γ x1) : CtI l yX1_hasTask cX1_hasTask 2 (some .boolean) { frames := 1, cells := 0, slots := 0, locals := 22 } [.ref (aG + 0), .int x1] G (fun H => rg G LG aG γ H) (fun r (_ : Unit) => Q r) (fun _ _ => True) (fun _ => False) := by
  unfold CtI
  refine met_start (y := yX1_hasTask) (maxL := 2) (av := [.ref (aG + 0), .int x1]) (G := G) (P := fun H => rg G LG aG γ H) (by decide) rfl (Nat.le_of_ble_eq_true rfl) (fun p e s m below meth c ls C hr hP hK hl => ?_)
  obtain ⟨hx, hb, hml, hown, hts, hlocks⟩ := id C
  have hG : rg G LG aG γ s.heap := hP
  have hS : va_S (fun _ => False) s.heap s.heap [] := va_S.rf
  have hl : lv_has ls 2 [(0, .ref (aG + 0)), (1, .int x1)] := hl
  unfold vc_X1_hasTask at h
  refine lv_iload_n hx hb dX1_hasTask_0 rfl (lv_at hl 1 rfl) ?_
  refine lv_iconst (v := 0) hx hb dX1_hasTask_1 (by decide) ?_
  refine lv_aload_n hx hb dX1_hasTask_2 rfl (lv_at hl 0 rfl) ?_
  refine g_getR (a := aG) (k := 0) (o := 12) C hK hG fl_X1_28 rfl rfl dX1_hasTask_3 ?_
  refine g_getI (a := aG) (k := 12) C hK hG fl_X1_71 rfl rfl dX1_hasTask_6 ?_
  refine lv_iconst (v := 1) hx hb dX1_hasTask_9 (by decide) ?_
  refine lv_isub hx hb dX1_hasTask_10 ?_
  refine g_nI C hK hl.1 (m_X7_within l G x1 0 ((γ 12 0) - 1) _ h) mw_X7_within ms_X7_within nl_X1_63 rfl ⟨rfl, rfl, Nat.le_of_ble_eq_true rfl, Nat.le_of_ble_eq_true rfl⟩ ⟨Nat.zero_le _, Nat.zero_le _⟩ trivial hS (fun _ h => h.elim) rfl (Nat.le_of_ble_eq_true rfl) dX1_hasTask_11 (fun r1 u H locs h hu _ hq hS => ?_)
  have hG := hG.past hq (fun _ _ h => h)
  exact g_zret (post := fun r (_ : Unit) => Q r) (P' := fun _ _ => True) (r := r1) (u := ()) C hr hK hS h.1 h.2 trivial dX1_hasTask_14
theorem dX1_hasContract_0 : decode cX1_hasContract 0 = .ok (.iload_n 1, 1) := by decide +kernel
theorem dX1_hasContract_1 : decode cX1_hasContract 1 = .ok (.iconst 0, 1) := by decide +kernel
theorem dX1_hasContract_2 : decode cX1_hasContract 2 = .ok (.aload_n 0, 1) := by decide +kernel
theorem dX1_hasContract_3 : decode cX1_hasContract 3 = .ok (.getfield 35, 3) := by decide +kernel
theorem dX1_hasContract_6 : decode cX1_hasContract 6 = .ok (.getfield 72, 3) := by decide +kernel
theorem dX1_hasContract_9 : decode cX1_hasContract 9 = .ok (.iconst 1, 1) := by decide +kernel
theorem dX1_hasContract_10 : decode cX1_hasContract 10 = .ok (.isub, 1) := by decide +kernel
theorem dX1_hasContract_11 : decode cX1_hasContract 11 = .ok (.invokestatic 63, 3) := by decide +kernel
theorem dX1_hasContract_14 : decode cX1_hasContract 14 = .ok (.ireturn, 1) := by decide +kernel
def vc_X1_hasContract (Q : Int32 → Prop) (γ : Mem) (x1 : Int32) : Prop :=
  vc_X7_within (fun r1 => narrow .boolean (.int r1) = .int r1 ∧ Q r1 ) x1 0 ((γ 18 0) - 1)
set_option maxHeartbeats 8000000 in
set_option maxRecDepth 100000 in
theorem m_X1_hasContract (l : Launch) (G : GG) (aG : Nat) (γ : Mem) (x1 : Int32) (Q : Int32 → Prop) (h : vc_X1_hasContract Q γ x1) : CtI l yX1_hasContract cX1_hasContract 2 (some .boolean) { frames := 1, cells := 0, slots := 0, locals := 22 } [.ref (aG + 0), .int x1] G (fun H => rg G LG aG γ H) (fun r (_ : Unit) => Q r) (fun _ _ => True) (fun _ => False) := by
  unfold CtI
  refine met_start (y := yX1_hasContract) (maxL := 2) (av := [.ref (aG + 0), .int x1]) (G := G) (P := fun H => rg G LG aG γ H) (by decide) rfl (Nat.le_of_ble_eq_true rfl) (fun p e s m below meth c ls C hr hP hK hl => ?_)
  obtain ⟨hx, hb, hml, hown, hts, hlocks⟩ := id C
  have hG : rg G LG aG γ s.heap := hP
  have hS : va_S (fun _ => False) s.heap s.heap [] := va_S.rf
  have hl : lv_has ls 2 [(0, .ref (aG + 0)), (1, .int x1)] := hl
  unfold vc_X1_hasContract at h
  refine lv_iload_n hx hb dX1_hasContract_0 rfl (lv_at hl 1 rfl) ?_
  refine lv_iconst (v := 0) hx hb dX1_hasContract_1 (by decide) ?_
  refine lv_aload_n hx hb dX1_hasContract_2 rfl (lv_at hl 0 rfl) ?_
  refine g_getR (a := aG) (k := 0) (o := 18) C hK hG fl_X1_35 rfl rfl dX1_hasContract_3 ?_
  refine g_getI (a := aG) (k := 18) C hK hG fl_X1_72 rfl rfl dX1_hasContract_6 ?_
  refine lv_iconst (v := 1) hx hb dX1_hasContract_9 (by decide) ?_
  refine lv_isub hx hb dX1_hasContract_10 ?_
  refine g_nI C hK hl.1 (m_X7_within l G x1 0 ((γ 18 0) - 1) _ h) mw_X7_within ms_X7_within nl_X1_63 rfl ⟨rfl, rfl, Nat.le_of_ble_eq_true rfl, Nat.le_of_ble_eq_true rfl⟩ ⟨Nat.zero_le _, Nat.zero_le _⟩ trivial hS (fun _ h => h.elim) rfl (Nat.le_of_ble_eq_true rfl) dX1_hasContract_11 (fun r1 u H locs h hu _ hq hS => ?_)
  have hG := hG.past hq (fun _ _ h => h)
  exact g_zret (post := fun r (_ : Unit) => Q r) (P' := fun _ _ => True) (r := r1) (u := ()) C hr hK hS h.1 h.2 trivial dX1_hasContract_14
theorem dX1_addPlayer_0 : decode cX1_addPlayer 0 = .ok (.aload_n 0, 1) := by decide +kernel
theorem dX1_addPlayer_1 : decode cX1_addPlayer 1 = .ok (.getfield 12, 3) := by decide +kernel
theorem dX1_addPlayer_4 : decode cX1_addPlayer 4 = .ok (.getfield 60, 3) := by decide +kernel
theorem dX1_addPlayer_7 : decode cX1_addPlayer 7 = .ok (.iconst 4, 1) := by decide +kernel
theorem dX1_addPlayer_8 : decode cX1_addPlayer 8 = .ok (.if_icmp .lt 6, 3) := by decide +kernel
theorem dX1_addPlayer_11 : decode cX1_addPlayer 11 = .ok (.ldc 73, 2) := by decide +kernel
theorem dX1_addPlayer_13 : decode cX1_addPlayer 13 = .ok (.ireturn, 1) := by decide +kernel
theorem dX1_addPlayer_14 : decode cX1_addPlayer 14 = .ok (.aload_n 0, 1) := by decide +kernel
theorem dX1_addPlayer_15 : decode cX1_addPlayer 15 = .ok (.getfield 12, 3) := by decide +kernel
theorem dX1_addPlayer_18 : decode cX1_addPlayer 18 = .ok (.getfield 60, 3) := by decide +kernel
theorem dX1_addPlayer_21 : decode cX1_addPlayer 21 = .ok (.istore_n 1, 1) := by decide +kernel
theorem dX1_addPlayer_22 : decode cX1_addPlayer 22 = .ok (.aload_n 0, 1) := by decide +kernel
theorem dX1_addPlayer_23 : decode cX1_addPlayer 23 = .ok (.getfield 12, 3) := by decide +kernel
theorem dX1_addPlayer_26 : decode cX1_addPlayer 26 = .ok (.dup, 1) := by decide +kernel
theorem dX1_addPlayer_27 : decode cX1_addPlayer 27 = .ok (.getfield 60, 3) := by decide +kernel
theorem dX1_addPlayer_30 : decode cX1_addPlayer 30 = .ok (.iconst 1, 1) := by decide +kernel
theorem dX1_addPlayer_31 : decode cX1_addPlayer 31 = .ok (.iadd, 1) := by decide +kernel
theorem dX1_addPlayer_32 : decode cX1_addPlayer 32 = .ok (.putfield 60, 3) := by decide +kernel
theorem dX1_addPlayer_35 : decode cX1_addPlayer 35 = .ok (.iload_n 1, 1) := by decide +kernel
theorem dX1_addPlayer_36 : decode cX1_addPlayer 36 = .ok (.ireturn, 1) := by decide +kernel
def vc_X1_addPlayer (Q : Int32 → Mem → Prop) (γ : Mem) : Prop :=
  (((γ 1 0) < 4) → (∀ v2 : Int32, v2 = (γ 1 0) → (∀ γ3 : Mem, γ3 = up γ 1 0 ((γ 1 0) + 1) → (Q v2 γ3)))) ∧ ((¬ (γ 1 0) < 4) → (Q (-1000003) γ))
set_option maxHeartbeats 8000000 in
set_option maxRecDepth 100000 in
theorem m_X1_addPlayer (l : Launch) (G : GG) (aG : Nat) (γ : Mem) (Q : Int32 → Mem → Prop) (h : vc_X1_addPlayer Q γ) : CtI l yX1_addPlayer cX1_addPlayer 2 (some .int) { frames := 0, cells := 0, slots := 0, locals := 0 } [.ref (aG + 0)] G (fun H => rg G LG aG γ H) (Q) (fun u H => rg G LG aG u H) (RA aG 22) := by
  unfold CtI
  refine met_start (y := yX1_addPlayer) (maxL := 2) (av := [.ref (aG + 0)]) (G := G) (P := fun H => rg G LG aG γ H) (by decide) rfl (Nat.le_of_ble_eq_true rfl) (fun p e s m below meth c ls C hr hP hK hl => ?_)
  obtain ⟨hx, hb, hml, hown, hts, hlocks⟩ := id C
  have hG : rg G LG aG γ s.heap := hP
  have hS : va_S (RA aG 22) s.heap s.heap [] := va_S.rf
  have hl : lv_has ls 2 [(0, .ref (aG + 0))] := hl
  unfold vc_X1_addPlayer at h
  refine lv_aload_n hx hb dX1_addPlayer_0 rfl (lv_at hl 0 rfl) ?_
  refine g_getR (a := aG) (k := 0) (o := 1) C hK hG fl_X1_12 rfl rfl dX1_addPlayer_1 ?_
  refine g_getI (a := aG) (k := 1) C hK hG fl_X1_60 rfl rfl dX1_addPlayer_4 ?_
  refine lv_iconst (v := 4) hx hb dX1_addPlayer_7 (by decide) ?_
  refine lv_icmp_lt (tgt := 14) hx hb dX1_addPlayer_8 (by decide) (fun c1 => ?_) (fun c1 => ?_)
  · replace h := h.1 c1
    refine lv_aload_n hx hb dX1_addPlayer_14 rfl (lv_at hl 0 rfl) ?_
    refine g_getR (a := aG) (k := 0) (o := 1) C hK hG fl_X1_12 rfl rfl dX1_addPlayer_15 ?_
    refine g_getI (a := aG) (k := 1) C hK hG fl_X1_60 rfl rfl dX1_addPlayer_18 ?_
    refine lv_topi (fun v2 ev2 => ?_)
    specialize h v2 ev2
    refine lv_istore_n (lv' := [(1, .int v2), (0, .ref (aG + 0))]) hx hb dX1_addPlayer_21 rfl hl (by decide) rfl (fun ls hl => ?_)
    refine lv_aload_n hx hb dX1_addPlayer_22 rfl (lv_at hl 1 rfl) ?_
    refine g_getR (a := aG) (k := 0) (o := 1) C hK hG fl_X1_12 rfl rfl dX1_addPlayer_23 ?_
    refine lv_dup hx hb dX1_addPlayer_26 rfl ?_
    refine g_getI (a := aG) (k := 1) C hK hG fl_X1_60 rfl rfl dX1_addPlayer_27 ?_
    refine lv_iconst (v := 1) hx hb dX1_addPlayer_30 (by decide) ?_
    refine lv_iadd hx hb dX1_addPlayer_31 ?_
    refine g_put (a := aG) (k := 1) C hK hG hS fl_X1_60 fp_X5_0 rfl rfl (by rfl) (by rfl) (RA_in (by decide)) dX1_addPlayer_32 (fun γ3 H locs eγ3 hG hS hq => ?_)
    specialize h γ3 eγ3
    refine lv_iload_n hx hb dX1_addPlayer_35 rfl (lv_at hl 0 rfl) ?_
    exact g_iret (post := Q) (P' := fun u H => rg G LG aG u H) (r := v2) (u := γ3) C hr hK hS h hG dX1_addPlayer_36
  · replace h := h.2 c1
    refine g_ldc C kc_X1_73 dX1_addPlayer_11 ?_
    exact g_iret (post := Q) (P' := fun u H => rg G LG aG u H) (r := (-1000003)) (u := γ) C hr hK hS h hG dX1_addPlayer_13
theorem dX1_setSize_0 : decode cX1_setSize 0 = .ok (.aload_n 0, 1) := by decide +kernel
theorem dX1_setSize_1 : decode cX1_setSize 1 = .ok (.iload_n 1, 1) := by decide +kernel
theorem dX1_setSize_2 : decode cX1_setSize 2 = .ok (.iload_n 2, 1) := by decide +kernel
theorem dX1_setSize_3 : decode cX1_setSize 3 = .ok (.invokevirtual 74, 3) := by decide +kernel
theorem dX1_setSize_6 : decode cX1_setSize 6 = .ok (.ifCond .eq 14, 3) := by decide +kernel
theorem dX1_setSize_9 : decode cX1_setSize 9 = .ok (.iload_n 3, 1) := by decide +kernel
theorem dX1_setSize_10 : decode cX1_setSize 10 = .ok (.iconst 5, 1) := by decide +kernel
theorem dX1_setSize_11 : decode cX1_setSize 11 = .ok (.sipush 300, 3) := by decide +kernel
theorem dX1_setSize_14 : decode cX1_setSize 14 = .ok (.invokestatic 63, 3) := by decide +kernel
theorem dX1_setSize_17 : decode cX1_setSize 17 = .ok (.ifCond .ne 6, 3) := by decide +kernel
theorem dX1_setSize_20 : decode cX1_setSize 20 = .ok (.ldc 78, 2) := by decide +kernel
theorem dX1_setSize_22 : decode cX1_setSize 22 = .ok (.ireturn, 1) := by decide +kernel
theorem dX1_setSize_23 : decode cX1_setSize 23 = .ok (.iload_n 1, 1) := by decide +kernel
theorem dX1_setSize_24 : decode cX1_setSize 24 = .ok (.iload_n 2, 1) := by decide +kernel
theorem dX1_setSize_25 : decode cX1_setSize 25 = .ok (.invokestatic 79, 3) := by decide +kernel
theorem dX1_setSize_28 : decode cX1_setSize 28 = .ok (.istore 4, 2) := by decide +kernel
theorem dX1_setSize_30 : decode cX1_setSize 30 = .ok (.aload_n 0, 1) := by decide +kernel
theorem dX1_setSize_31 : decode cX1_setSize 31 = .ok (.getfield 21, 3) := by decide +kernel
theorem dX1_setSize_34 : decode cX1_setSize 34 = .ok (.iload 4, 2) := by decide +kernel
theorem dX1_setSize_36 : decode cX1_setSize 36 = .ok (.invokevirtual 83, 3) := by decide +kernel
theorem dX1_setSize_39 : decode cX1_setSize 39 = .ok (.ifCond .ne 6, 3) := by decide +kernel
theorem dX1_setSize_42 : decode cX1_setSize 42 = .ok (.ldc 86, 2) := by decide +kernel
theorem dX1_setSize_44 : decode cX1_setSize 44 = .ok (.ireturn, 1) := by decide +kernel
theorem dX1_setSize_45 : decode cX1_setSize 45 = .ok (.aload_n 0, 1) := by decide +kernel
theorem dX1_setSize_46 : decode cX1_setSize 46 = .ok (.getfield 21, 3) := by decide +kernel
theorem dX1_setSize_49 : decode cX1_setSize 49 = .ok (.getfield 87, 3) := by decide +kernel
theorem dX1_setSize_52 : decode cX1_setSize 52 = .ok (.iload 4, 2) := by decide +kernel
theorem dX1_setSize_54 : decode cX1_setSize 54 = .ok (.iaload, 1) := by decide +kernel
theorem dX1_setSize_55 : decode cX1_setSize 55 = .ok (.istore 5, 2) := by decide +kernel
theorem dX1_setSize_57 : decode cX1_setSize 57 = .ok (.aload_n 0, 1) := by decide +kernel
theorem dX1_setSize_58 : decode cX1_setSize 58 = .ok (.getfield 21, 3) := by decide +kernel
theorem dX1_setSize_61 : decode cX1_setSize 61 = .ok (.getfield 87, 3) := by decide +kernel
theorem dX1_setSize_64 : decode cX1_setSize 64 = .ok (.iload 4, 2) := by decide +kernel
theorem dX1_setSize_66 : decode cX1_setSize 66 = .ok (.iload_n 3, 1) := by decide +kernel
theorem dX1_setSize_67 : decode cX1_setSize 67 = .ok (.iastore, 1) := by decide +kernel
theorem dX1_setSize_68 : decode cX1_setSize 68 = .ok (.iload 5, 2) := by decide +kernel
theorem dX1_setSize_70 : decode cX1_setSize 70 = .ok (.ireturn, 1) := by decide +kernel
def vc_X1_setSize (Q : Int32 → Mem → Prop) (γ : Mem) (x1 : Int32) (x2 : Int32) (x3 : Int32) : Prop :=
  vc_X1_hasWorker (fun r1 => ((r1 = 0) → (Q (-1000001) γ)) ∧ ((¬ r1 = 0) → (vc_X7_within (fun r3 => ((¬ r3 = 0) → (vc_X7_glassOf (fun r5 => vc_X2_isOut (fun r6 => ((¬ r6 = 0) → (vp_in r5 12 ∧ (∀ v9 : Int32, v9 = (γ 5 r5.toNatClampNeg) → ((∀ γ10 : Mem, γ10 = up γ 5 r5.toNatClampNeg x3 → (Q v9 γ10)))))) ∧ ((r6 = 0) → (Q (-1000002) γ))) γ r5) x1 x2)) ∧ ((r3 = 0) → (Q (-1000001) γ))) x3 5 300))) γ x1 x2
set_option maxHeartbeats 8000000 in
set_option maxRecDepth 100000 in
theorem m_X1_setSize (l : Launch) (G : GG) (aG : Nat) (γ : Mem) (x1 : Int32) (x2 : Int32) (x3 : Int32) (Q : Int32 → Mem → Prop) (h : vc_X1_setSize Q γ x1 x2 x3) : CtI l yX1_setSize cX1_setSize 6 (some .int) { frames := 3, cells := 0, slots := 0, locals := 65 } [.ref (aG + 0), .int x1, .int x2, .int x3] G (fun H => rg G LG aG γ H) (Q) (fun u H => rg G LG aG u H) (RA aG 22) := by
  unfold CtI
  refine met_start (y := yX1_setSize) (maxL := 6) (av := [.ref (aG + 0), .int x1, .int x2, .int x3]) (G := G) (P := fun H => rg G LG aG γ H) (by decide) rfl (Nat.le_of_ble_eq_true rfl) (fun p e s m below meth c ls C hr hP hK hl => ?_)
  obtain ⟨hx, hb, hml, hown, hts, hlocks⟩ := id C
  have hG : rg G LG aG γ s.heap := hP
  have hS : va_S (RA aG 22) s.heap s.heap [] := va_S.rf
  have hl : lv_has ls 6 [(0, .ref (aG + 0)), (1, .int x1), (2, .int x2), (3, .int x3)] := hl
  unfold vc_X1_setSize at h
  refine lv_aload_n hx hb dX1_setSize_0 rfl (lv_at hl 0 rfl) ?_
  refine lv_iload_n hx hb dX1_setSize_1 rfl (lv_at hl 1 rfl) ?_
  refine lv_iload_n hx hb dX1_setSize_2 rfl (lv_at hl 2 rfl) ?_
  refine g_vI C hK hl.1 (m_X1_hasWorker l G aG γ x1 x2 _ h) mw_X1_hasWorker mi_X1_hasWorker ml_X1_74 rfl ⟨rfl, rfl, Nat.le_of_ble_eq_true rfl, Nat.le_of_ble_eq_true rfl⟩ ⟨Nat.zero_le _, Nat.zero_le _⟩ (g_recv (a := aG) (k := 0) hK hG rfl rfl) hG hS (fun _ h => h.elim) rfl (Nat.le_of_ble_eq_true rfl) dX1_setSize_3 (fun r1 u H locs h hu _ hq hS => ?_)
  have hG := hG.past hq (fun _ _ h => h)
  refine lv_if_eq (tgt := 20) hx hb dX1_setSize_6 (by decide) (fun c2 => ?_) (fun c2 => ?_)
  · replace h := h.1 c2
    refine g_ldc C kc_X1_78 dX1_setSize_20 ?_
    exact g_iret (post := Q) (P' := fun u H => rg G LG aG u H) (r := (-1000001)) (u := γ) C hr hK hS h hG dX1_setSize_22
  · replace h := h.2 c2
    refine lv_iload_n hx hb dX1_setSize_9 rfl (lv_at hl 3 rfl) ?_
    refine lv_iconst (v := 5) hx hb dX1_setSize_10 (by decide) ?_
    refine lv_sipush (v := 300) hx hb dX1_setSize_11 (by decide) ?_
    refine g_nI C hK hl.1 (m_X7_within l G x3 5 300 _ h) mw_X7_within ms_X7_within nl_X1_63 rfl ⟨rfl, rfl, Nat.le_of_ble_eq_true rfl, Nat.le_of_ble_eq_true rfl⟩ ⟨Nat.zero_le _, Nat.zero_le _⟩ trivial hS (fun _ h => h.elim) rfl (Nat.le_of_ble_eq_true rfl) dX1_setSize_14 (fun r3 u H locs h hu _ hq hS => ?_)
    have hG := hG.past hq (fun _ _ h => h)
    refine lv_if_ne (tgt := 23) hx hb dX1_setSize_17 (by decide) (fun c4 => ?_) (fun c4 => ?_)
    · replace h := h.1 c4
      refine lv_iload_n hx hb dX1_setSize_23 rfl (lv_at hl 1 rfl) ?_
      refine lv_iload_n hx hb dX1_setSize_24 rfl (lv_at hl 2 rfl) ?_
      refine g_nI C hK hl.1 (m_X7_glassOf l G x1 x2 _ h) mw_X7_glassOf ms_X7_glassOf nl_X1_79 rfl ⟨rfl, rfl, Nat.le_of_ble_eq_true rfl, Nat.le_of_ble_eq_true rfl⟩ ⟨Nat.zero_le _, Nat.zero_le _⟩ trivial hS (fun _ h => h.elim) rfl (Nat.le_of_ble_eq_true rfl) dX1_setSize_25 (fun r5 u H locs h hu _ hq hS => ?_)
      have hG := hG.past hq (fun _ _ h => h)
      refine lv_istore (lv' := [(4, .int r5), (0, .ref (aG + 0)), (1, .int x1), (2, .int x2), (3, .int x3)]) hx hb dX1_setSize_28 hl (by decide) rfl (fun ls hl => ?_)
      refine lv_aload_n hx hb dX1_setSize_30 rfl (lv_at hl 1 rfl) ?_
      refine g_getR (a := aG) (k := 0) (o := 4) C hK hG fl_X1_21 rfl rfl dX1_setSize_31 ?_
      refine lv_iload hx hb dX1_setSize_34 (lv_at hl 0 rfl) ?_
      refine g_vI C hK hl.1 (m_X2_isOut l G aG γ r5 _ h) mw_X2_isOut mi_X2_isOut ml_X1_83 rfl ⟨rfl, rfl, Nat.le_of_ble_eq_true rfl, Nat.le_of_ble_eq_true rfl⟩ ⟨Nat.zero_le _, Nat.zero_le _⟩ (g_recv (a := aG) (k := 4) hK hG rfl rfl) hG hS (fun _ h => h.elim) rfl (Nat.le_of_ble_eq_true rfl) dX1_setSize_36 (fun r6 u H locs h hu _ hq hS => ?_)
      have hG := hG.past hq (fun _ _ h => h)
      refine lv_if_ne (tgt := 45) hx hb dX1_setSize_39 (by decide) (fun c7 => ?_) (fun c7 => ?_)
      · replace h := h.1 c7
        refine lv_aload_n hx hb dX1_setSize_45 rfl (lv_at hl 1 rfl) ?_
        refine g_getR (a := aG) (k := 0) (o := 4) C hK hG fl_X1_21 rfl rfl dX1_setSize_46 ?_
        refine g_getR (a := aG) (k := 4) (o := 5) C hK hG fl_X1_87 rfl rfl dX1_setSize_49 ?_
        refine lv_iload hx hb dX1_setSize_52 (lv_at hl 0 rfl) ?_
        obtain ⟨b8, h⟩ := h
        refine g_ald (a := aG) (k := 5) (n := 12) C hK hG rfl b8 dX1_setSize_54 ?_
        refine lv_topi (fun v9 ev9 => ?_)
        specialize h v9 ev9
        refine lv_istore (lv' := [(5, .int v9), (4, .int r5), (0, .ref (aG + 0)), (1, .int x1), (2, .int x2), (3, .int x3)]) hx hb dX1_setSize_55 hl (by decide) rfl (fun ls hl => ?_)
        refine lv_aload_n hx hb dX1_setSize_57 rfl (lv_at hl 2 rfl) ?_
        refine g_getR (a := aG) (k := 0) (o := 4) C hK hG fl_X1_21 rfl rfl dX1_setSize_58 ?_
        refine g_getR (a := aG) (k := 4) (o := 5) C hK hG fl_X1_87 rfl rfl dX1_setSize_61 ?_
        refine lv_iload hx hb dX1_setSize_64 (lv_at hl 1 rfl) ?_
        refine lv_iload_n hx hb dX1_setSize_66 rfl (lv_at hl 5 rfl) ?_
        refine g_ast (a := aG) (k := 5) (n := 12) C hK hG hS rfl b8 (RA_in (by decide)) dX1_setSize_67 (fun γ10 H locs eγ10 hG hS hq => ?_)
        specialize h γ10 eγ10
        refine lv_iload hx hb dX1_setSize_68 (lv_at hl 0 rfl) ?_
        exact g_iret (post := Q) (P' := fun u H => rg G LG aG u H) (r := v9) (u := γ10) C hr hK hS h hG dX1_setSize_70
      · replace h := h.2 c7
        refine g_ldc C kc_X1_86 dX1_setSize_42 ?_
        exact g_iret (post := Q) (P' := fun u H => rg G LG aG u H) (r := (-1000002)) (u := γ) C hr hK hS h hG dX1_setSize_44
    · replace h := h.2 c4
      refine g_ldc C kc_X1_78 dX1_setSize_20 ?_
      exact g_iret (post := Q) (P' := fun u H => rg G LG aG u H) (r := (-1000001)) (u := γ) C hr hK hS h hG dX1_setSize_22
theorem dX1_addTask_0 : decode cX1_addTask 0 = .ok (.iload_n 1, 1) := by decide +kernel
theorem dX1_addTask_1 : decode cX1_addTask 1 = .ok (.iconst 1, 1) := by decide +kernel
theorem dX1_addTask_2 : decode cX1_addTask 2 = .ok (.iconst 3, 1) := by decide +kernel
theorem dX1_addTask_3 : decode cX1_addTask 3 = .ok (.invokestatic 63, 3) := by decide +kernel
theorem dX1_addTask_6 : decode cX1_addTask 6 = .ok (.ifCond .eq 35, 3) := by decide +kernel
theorem dX1_addTask_9 : decode cX1_addTask 9 = .ok (.iload_n 2, 1) := by decide +kernel
theorem dX1_addTask_10 : decode cX1_addTask 10 = .ok (.iconst 0, 1) := by decide +kernel
theorem dX1_addTask_11 : decode cX1_addTask 11 = .ok (.sipush 999, 3) := by decide +kernel
theorem dX1_addTask_14 : decode cX1_addTask 14 = .ok (.invokestatic 63, 3) := by decide +kernel
theorem dX1_addTask_17 : decode cX1_addTask 17 = .ok (.ifCond .eq 24, 3) := by decide +kernel
theorem dX1_addTask_20 : decode cX1_addTask 20 = .ok (.iload_n 3, 1) := by decide +kernel
theorem dX1_addTask_21 : decode cX1_addTask 21 = .ok (.iconst 0, 1) := by decide +kernel
theorem dX1_addTask_22 : decode cX1_addTask 22 = .ok (.sipush 999, 3) := by decide +kernel
theorem dX1_addTask_25 : decode cX1_addTask 25 = .ok (.invokestatic 63, 3) := by decide +kernel
theorem dX1_addTask_28 : decode cX1_addTask 28 = .ok (.ifCond .eq 13, 3) := by decide +kernel
theorem dX1_addTask_31 : decode cX1_addTask 31 = .ok (.iload 4, 2) := by decide +kernel
theorem dX1_addTask_33 : decode cX1_addTask 33 = .ok (.iconst 0, 1) := by decide +kernel
theorem dX1_addTask_34 : decode cX1_addTask 34 = .ok (.iconst 2, 1) := by decide +kernel
theorem dX1_addTask_35 : decode cX1_addTask 35 = .ok (.invokestatic 63, 3) := by decide +kernel
theorem dX1_addTask_38 : decode cX1_addTask 38 = .ok (.ifCond .ne 6, 3) := by decide +kernel
theorem dX1_addTask_41 : decode cX1_addTask 41 = .ok (.ldc 78, 2) := by decide +kernel
theorem dX1_addTask_43 : decode cX1_addTask 43 = .ok (.ireturn, 1) := by decide +kernel
theorem dX1_addTask_44 : decode cX1_addTask 44 = .ok (.aload_n 0, 1) := by decide +kernel
theorem dX1_addTask_45 : decode cX1_addTask 45 = .ok (.getfield 28, 3) := by decide +kernel
theorem dX1_addTask_48 : decode cX1_addTask 48 = .ok (.getfield 71, 3) := by decide +kernel
theorem dX1_addTask_51 : decode cX1_addTask 51 = .ok (.bipush 8, 2) := by decide +kernel
theorem dX1_addTask_53 : decode cX1_addTask 53 = .ok (.if_icmp .lt 6, 3) := by decide +kernel
theorem dX1_addTask_56 : decode cX1_addTask 56 = .ok (.ldc 73, 2) := by decide +kernel
theorem dX1_addTask_58 : decode cX1_addTask 58 = .ok (.ireturn, 1) := by decide +kernel
theorem dX1_addTask_59 : decode cX1_addTask 59 = .ok (.aload_n 0, 1) := by decide +kernel
theorem dX1_addTask_60 : decode cX1_addTask 60 = .ok (.getfield 28, 3) := by decide +kernel
theorem dX1_addTask_63 : decode cX1_addTask 63 = .ok (.getfield 71, 3) := by decide +kernel
theorem dX1_addTask_66 : decode cX1_addTask 66 = .ok (.istore 5, 2) := by decide +kernel
theorem dX1_addTask_68 : decode cX1_addTask 68 = .ok (.aload_n 0, 1) := by decide +kernel
theorem dX1_addTask_69 : decode cX1_addTask 69 = .ok (.getfield 28, 3) := by decide +kernel
theorem dX1_addTask_72 : decode cX1_addTask 72 = .ok (.getfield 90, 3) := by decide +kernel
theorem dX1_addTask_75 : decode cX1_addTask 75 = .ok (.iload 5, 2) := by decide +kernel
theorem dX1_addTask_77 : decode cX1_addTask 77 = .ok (.iload_n 1, 1) := by decide +kernel
theorem dX1_addTask_78 : decode cX1_addTask 78 = .ok (.iastore, 1) := by decide +kernel
theorem dX1_addTask_79 : decode cX1_addTask 79 = .ok (.aload_n 0, 1) := by decide +kernel
theorem dX1_addTask_80 : decode cX1_addTask 80 = .ok (.getfield 28, 3) := by decide +kernel
theorem dX1_addTask_83 : decode cX1_addTask 83 = .ok (.getfield 93, 3) := by decide +kernel
theorem dX1_addTask_86 : decode cX1_addTask 86 = .ok (.iload 5, 2) := by decide +kernel
theorem dX1_addTask_88 : decode cX1_addTask 88 = .ok (.iload_n 2, 1) := by decide +kernel
theorem dX1_addTask_89 : decode cX1_addTask 89 = .ok (.iastore, 1) := by decide +kernel
theorem dX1_addTask_90 : decode cX1_addTask 90 = .ok (.aload_n 0, 1) := by decide +kernel
theorem dX1_addTask_91 : decode cX1_addTask 91 = .ok (.getfield 28, 3) := by decide +kernel
theorem dX1_addTask_94 : decode cX1_addTask 94 = .ok (.getfield 96, 3) := by decide +kernel
theorem dX1_addTask_97 : decode cX1_addTask 97 = .ok (.iload 5, 2) := by decide +kernel
theorem dX1_addTask_99 : decode cX1_addTask 99 = .ok (.iload_n 3, 1) := by decide +kernel
theorem dX1_addTask_100 : decode cX1_addTask 100 = .ok (.iastore, 1) := by decide +kernel
theorem dX1_addTask_101 : decode cX1_addTask 101 = .ok (.aload_n 0, 1) := by decide +kernel
theorem dX1_addTask_102 : decode cX1_addTask 102 = .ok (.getfield 28, 3) := by decide +kernel
theorem dX1_addTask_105 : decode cX1_addTask 105 = .ok (.getfield 99, 3) := by decide +kernel
theorem dX1_addTask_108 : decode cX1_addTask 108 = .ok (.iload 5, 2) := by decide +kernel
theorem dX1_addTask_110 : decode cX1_addTask 110 = .ok (.iload 4, 2) := by decide +kernel
theorem dX1_addTask_112 : decode cX1_addTask 112 = .ok (.iastore, 1) := by decide +kernel
theorem dX1_addTask_113 : decode cX1_addTask 113 = .ok (.aload_n 0, 1) := by decide +kernel
theorem dX1_addTask_114 : decode cX1_addTask 114 = .ok (.getfield 28, 3) := by decide +kernel
theorem dX1_addTask_117 : decode cX1_addTask 117 = .ok (.dup, 1) := by decide +kernel
theorem dX1_addTask_118 : decode cX1_addTask 118 = .ok (.getfield 71, 3) := by decide +kernel
theorem dX1_addTask_121 : decode cX1_addTask 121 = .ok (.iconst 1, 1) := by decide +kernel
theorem dX1_addTask_122 : decode cX1_addTask 122 = .ok (.iadd, 1) := by decide +kernel
theorem dX1_addTask_123 : decode cX1_addTask 123 = .ok (.putfield 71, 3) := by decide +kernel
theorem dX1_addTask_126 : decode cX1_addTask 126 = .ok (.iload 5, 2) := by decide +kernel
theorem dX1_addTask_128 : decode cX1_addTask 128 = .ok (.ireturn, 1) := by decide +kernel
def vc_X1_addTask (Q : Int32 → Mem → Prop) (γ : Mem) (x1 : Int32) (x2 : Int32) (x3 : Int32) (x4 : Int32) : Prop :=
  vc_X7_within (fun r1 => ((r1 = 0) → (Q (-1000001) γ)) ∧ ((¬ r1 = 0) → (vc_X7_within (fun r3 => ((r3 = 0) → (Q (-1000001) γ)) ∧ ((¬ r3 = 0) → (vc_X7_within (fun r5 => ((r5 = 0) → (Q (-1000001) γ)) ∧ ((¬ r5 = 0) → (vc_X7_within (fun r7 => ((¬ r7 = 0) → ((((γ 12 0) < 8) → (∀ v10 : Int32, v10 = (γ 12 0) → (vp_in v10 8 ∧ (∀ γ12 : Mem, γ12 = up γ 13 v10.toNatClampNeg x1 → ((∀ γ13 : Mem, γ13 = up γ12 14 v10.toNatClampNeg x2 → ((∀ γ14 : Mem, γ14 = up γ13 15 v10.toNatClampNeg x3 → ((∀ γ15 : Mem, γ15 = up γ14 16 v10.toNatClampNeg x4 → (∀ γ16 : Mem, γ16 = up γ15 12 0 ((γ15 12 0) + 1) → (Q v10 γ16)))))))))))) ∧ ((¬ (γ 12 0) < 8) → (Q (-1000003) γ)))) ∧ ((r7 = 0) → (Q (-1000001) γ))) x4 0 2))) x3 0 999))) x2 0 999))) x1 1 3
set_option maxHeartbeats 8000000 in
set_option maxRecDepth 100000 in
theorem m_X1_addTask (l : Launch) (G : GG) (aG : Nat) (γ : Mem) (x1 : Int32) (x2 : Int32) (x3 : Int32) (x4 : Int32) (Q : Int32 → Mem → Prop) (h : vc_X1_addTask Q γ x1 x2 x3 x4) : CtI l yX1_addTask cX1_addTask 6 (some .int) { frames := 1, cells := 0, slots := 0, locals := 22 } [.ref (aG + 0), .int x1, .int x2, .int x3, .int x4] G (fun H => rg G LG aG γ H) (Q) (fun u H => rg G LG aG u H) (RA aG 22) := by
  unfold CtI
  refine met_start (y := yX1_addTask) (maxL := 6) (av := [.ref (aG + 0), .int x1, .int x2, .int x3, .int x4]) (G := G) (P := fun H => rg G LG aG γ H) (by decide) rfl (Nat.le_of_ble_eq_true rfl) (fun p e s m below meth c ls C hr hP hK hl => ?_)
  obtain ⟨hx, hb, hml, hown, hts, hlocks⟩ := id C
  have hG : rg G LG aG γ s.heap := hP
  have hS : va_S (RA aG 22) s.heap s.heap [] := va_S.rf
  have hl : lv_has ls 6 [(0, .ref (aG + 0)), (1, .int x1), (2, .int x2), (3, .int x3), (4, .int x4)] := hl
  unfold vc_X1_addTask at h
  refine lv_iload_n hx hb dX1_addTask_0 rfl (lv_at hl 1 rfl) ?_
  refine lv_iconst (v := 1) hx hb dX1_addTask_1 (by decide) ?_
  refine lv_iconst (v := 3) hx hb dX1_addTask_2 (by decide) ?_
  refine g_nI C hK hl.1 (m_X7_within l G x1 1 3 _ h) mw_X7_within ms_X7_within nl_X1_63 rfl ⟨rfl, rfl, Nat.le_of_ble_eq_true rfl, Nat.le_of_ble_eq_true rfl⟩ ⟨Nat.zero_le _, Nat.zero_le _⟩ trivial hS (fun _ h => h.elim) rfl (Nat.le_of_ble_eq_true rfl) dX1_addTask_3 (fun r1 u H locs h hu _ hq hS => ?_)
  have hG := hG.past hq (fun _ _ h => h)
  refine lv_if_eq (tgt := 41) hx hb dX1_addTask_6 (by decide) (fun c2 => ?_) (fun c2 => ?_)
  · replace h := h.1 c2
    refine g_ldc C kc_X1_78 dX1_addTask_41 ?_
    exact g_iret (post := Q) (P' := fun u H => rg G LG aG u H) (r := (-1000001)) (u := γ) C hr hK hS h hG dX1_addTask_43
  · replace h := h.2 c2
    refine lv_iload_n hx hb dX1_addTask_9 rfl (lv_at hl 2 rfl) ?_
    refine lv_iconst (v := 0) hx hb dX1_addTask_10 (by decide) ?_
    refine lv_sipush (v := 999) hx hb dX1_addTask_11 (by decide) ?_
    refine g_nI C hK hl.1 (m_X7_within l G x2 0 999 _ h) mw_X7_within ms_X7_within nl_X1_63 rfl ⟨rfl, rfl, Nat.le_of_ble_eq_true rfl, Nat.le_of_ble_eq_true rfl⟩ ⟨Nat.zero_le _, Nat.zero_le _⟩ trivial hS (fun _ h => h.elim) rfl (Nat.le_of_ble_eq_true rfl) dX1_addTask_14 (fun r3 u H locs h hu _ hq hS => ?_)
    have hG := hG.past hq (fun _ _ h => h)
    refine lv_if_eq (tgt := 41) hx hb dX1_addTask_17 (by decide) (fun c4 => ?_) (fun c4 => ?_)
    · replace h := h.1 c4
      refine g_ldc C kc_X1_78 dX1_addTask_41 ?_
      exact g_iret (post := Q) (P' := fun u H => rg G LG aG u H) (r := (-1000001)) (u := γ) C hr hK hS h hG dX1_addTask_43
    · replace h := h.2 c4
      refine lv_iload_n hx hb dX1_addTask_20 rfl (lv_at hl 3 rfl) ?_
      refine lv_iconst (v := 0) hx hb dX1_addTask_21 (by decide) ?_
      refine lv_sipush (v := 999) hx hb dX1_addTask_22 (by decide) ?_
      refine g_nI C hK hl.1 (m_X7_within l G x3 0 999 _ h) mw_X7_within ms_X7_within nl_X1_63 rfl ⟨rfl, rfl, Nat.le_of_ble_eq_true rfl, Nat.le_of_ble_eq_true rfl⟩ ⟨Nat.zero_le _, Nat.zero_le _⟩ trivial hS (fun _ h => h.elim) rfl (Nat.le_of_ble_eq_true rfl) dX1_addTask_25 (fun r5 u H locs h hu _ hq hS => ?_)
      have hG := hG.past hq (fun _ _ h => h)
      refine lv_if_eq (tgt := 41) hx hb dX1_addTask_28 (by decide) (fun c6 => ?_) (fun c6 => ?_)
      · replace h := h.1 c6
        refine g_ldc C kc_X1_78 dX1_addTask_41 ?_
        exact g_iret (post := Q) (P' := fun u H => rg G LG aG u H) (r := (-1000001)) (u := γ) C hr hK hS h hG dX1_addTask_43
      · replace h := h.2 c6
        refine lv_iload hx hb dX1_addTask_31 (lv_at hl 4 rfl) ?_
        refine lv_iconst (v := 0) hx hb dX1_addTask_33 (by decide) ?_
        refine lv_iconst (v := 2) hx hb dX1_addTask_34 (by decide) ?_
        refine g_nI C hK hl.1 (m_X7_within l G x4 0 2 _ h) mw_X7_within ms_X7_within nl_X1_63 rfl ⟨rfl, rfl, Nat.le_of_ble_eq_true rfl, Nat.le_of_ble_eq_true rfl⟩ ⟨Nat.zero_le _, Nat.zero_le _⟩ trivial hS (fun _ h => h.elim) rfl (Nat.le_of_ble_eq_true rfl) dX1_addTask_35 (fun r7 u H locs h hu _ hq hS => ?_)
        have hG := hG.past hq (fun _ _ h => h)
        refine lv_if_ne (tgt := 44) hx hb dX1_addTask_38 (by decide) (fun c8 => ?_) (fun c8 => ?_)
        · replace h := h.1 c8
          refine lv_aload_n hx hb dX1_addTask_44 rfl (lv_at hl 0 rfl) ?_
          refine g_getR (a := aG) (k := 0) (o := 12) C hK hG fl_X1_28 rfl rfl dX1_addTask_45 ?_
          refine g_getI (a := aG) (k := 12) C hK hG fl_X1_71 rfl rfl dX1_addTask_48 ?_
          refine lv_bipush (v := 8) hx hb dX1_addTask_51 (by decide) ?_
          refine lv_icmp_lt (tgt := 59) hx hb dX1_addTask_53 (by decide) (fun c9 => ?_) (fun c9 => ?_)
          · replace h := h.1 c9
            refine lv_aload_n hx hb dX1_addTask_59 rfl (lv_at hl 0 rfl) ?_
            refine g_getR (a := aG) (k := 0) (o := 12) C hK hG fl_X1_28 rfl rfl dX1_addTask_60 ?_
            refine g_getI (a := aG) (k := 12) C hK hG fl_X1_71 rfl rfl dX1_addTask_63 ?_
            refine lv_topi (fun v10 ev10 => ?_)
            specialize h v10 ev10
            refine lv_istore (lv' := [(5, .int v10), (0, .ref (aG + 0)), (1, .int x1), (2, .int x2), (3, .int x3), (4, .int x4)]) hx hb dX1_addTask_66 hl (by decide) rfl (fun ls hl => ?_)
            refine lv_aload_n hx hb dX1_addTask_68 rfl (lv_at hl 1 rfl) ?_
            refine g_getR (a := aG) (k := 0) (o := 12) C hK hG fl_X1_28 rfl rfl dX1_addTask_69 ?_
            refine g_getR (a := aG) (k := 12) (o := 13) C hK hG fl_X1_90 rfl rfl dX1_addTask_72 ?_
            refine lv_iload hx hb dX1_addTask_75 (lv_at hl 0 rfl) ?_
            refine lv_iload_n hx hb dX1_addTask_77 rfl (lv_at hl 2 rfl) ?_
            obtain ⟨b11, h⟩ := h
            refine g_ast (a := aG) (k := 13) (n := 8) C hK hG hS rfl b11 (RA_in (by decide)) dX1_addTask_78 (fun γ12 H locs eγ12 hG hS hq => ?_)
            specialize h γ12 eγ12
            refine lv_aload_n hx hb dX1_addTask_79 rfl (lv_at hl 1 rfl) ?_
            refine g_getR (a := aG) (k := 0) (o := 12) C hK hG fl_X1_28 rfl rfl dX1_addTask_80 ?_
            refine g_getR (a := aG) (k := 12) (o := 14) C hK hG fl_X1_93 rfl rfl dX1_addTask_83 ?_
            refine lv_iload hx hb dX1_addTask_86 (lv_at hl 0 rfl) ?_
            refine lv_iload_n hx hb dX1_addTask_88 rfl (lv_at hl 3 rfl) ?_
            refine g_ast (a := aG) (k := 14) (n := 8) C hK hG hS rfl b11 (RA_in (by decide)) dX1_addTask_89 (fun γ13 H locs eγ13 hG hS hq => ?_)
            specialize h γ13 eγ13
            refine lv_aload_n hx hb dX1_addTask_90 rfl (lv_at hl 1 rfl) ?_
            refine g_getR (a := aG) (k := 0) (o := 12) C hK hG fl_X1_28 rfl rfl dX1_addTask_91 ?_
            refine g_getR (a := aG) (k := 12) (o := 15) C hK hG fl_X1_96 rfl rfl dX1_addTask_94 ?_
            refine lv_iload hx hb dX1_addTask_97 (lv_at hl 0 rfl) ?_
            refine lv_iload_n hx hb dX1_addTask_99 rfl (lv_at hl 4 rfl) ?_
            refine g_ast (a := aG) (k := 15) (n := 8) C hK hG hS rfl b11 (RA_in (by decide)) dX1_addTask_100 (fun γ14 H locs eγ14 hG hS hq => ?_)
            specialize h γ14 eγ14
            refine lv_aload_n hx hb dX1_addTask_101 rfl (lv_at hl 1 rfl) ?_
            refine g_getR (a := aG) (k := 0) (o := 12) C hK hG fl_X1_28 rfl rfl dX1_addTask_102 ?_
            refine g_getR (a := aG) (k := 12) (o := 16) C hK hG fl_X1_99 rfl rfl dX1_addTask_105 ?_
            refine lv_iload hx hb dX1_addTask_108 (lv_at hl 0 rfl) ?_
            refine lv_iload hx hb dX1_addTask_110 (lv_at hl 5 rfl) ?_
            refine g_ast (a := aG) (k := 16) (n := 8) C hK hG hS rfl b11 (RA_in (by decide)) dX1_addTask_112 (fun γ15 H locs eγ15 hG hS hq => ?_)
            specialize h γ15 eγ15
            refine lv_aload_n hx hb dX1_addTask_113 rfl (lv_at hl 1 rfl) ?_
            refine g_getR (a := aG) (k := 0) (o := 12) C hK hG fl_X1_28 rfl rfl dX1_addTask_114 ?_
            refine lv_dup hx hb dX1_addTask_117 rfl ?_
            refine g_getI (a := aG) (k := 12) C hK hG fl_X1_71 rfl rfl dX1_addTask_118 ?_
            refine lv_iconst (v := 1) hx hb dX1_addTask_121 (by decide) ?_
            refine lv_iadd hx hb dX1_addTask_122 ?_
            refine g_put (a := aG) (k := 12) C hK hG hS fl_X1_71 fp_X6_0 rfl rfl (by rfl) (by rfl) (RA_in (by decide)) dX1_addTask_123 (fun γ16 H locs eγ16 hG hS hq => ?_)
            specialize h γ16 eγ16
            refine lv_iload hx hb dX1_addTask_126 (lv_at hl 0 rfl) ?_
            exact g_iret (post := Q) (P' := fun u H => rg G LG aG u H) (r := v10) (u := γ16) C hr hK hS h hG dX1_addTask_128
          · replace h := h.2 c9
            refine g_ldc C kc_X1_73 dX1_addTask_56 ?_
            exact g_iret (post := Q) (P' := fun u H => rg G LG aG u H) (r := (-1000003)) (u := γ) C hr hK hS h hG dX1_addTask_58
        · replace h := h.2 c8
          refine g_ldc C kc_X1_78 dX1_addTask_41 ?_
          exact g_iret (post := Q) (P' := fun u H => rg G LG aG u H) (r := (-1000001)) (u := γ) C hr hK hS h hG dX1_addTask_43
theorem dX1_layContract_0 : decode cX1_layContract 0 = .ok (.iload_n 1, 1) := by decide +kernel
theorem dX1_layContract_1 : decode cX1_layContract 1 = .ok (.iconst 0, 1) := by decide +kernel
theorem dX1_layContract_2 : decode cX1_layContract 2 = .ok (.sipush 999, 3) := by decide +kernel
theorem dX1_layContract_5 : decode cX1_layContract 5 = .ok (.invokestatic 63, 3) := by decide +kernel
theorem dX1_layContract_8 : decode cX1_layContract 8 = .ok (.ifCond .eq 13, 3) := by decide +kernel
theorem dX1_layContract_11 : decode cX1_layContract 11 = .ok (.iload_n 2, 1) := by decide +kernel
theorem dX1_layContract_12 : decode cX1_layContract 12 = .ok (.iconst 1, 1) := by decide +kernel
theorem dX1_layContract_13 : decode cX1_layContract 13 = .ok (.bipush 20, 2) := by decide +kernel
theorem dX1_layContract_15 : decode cX1_layContract 15 = .ok (.invokestatic 63, 3) := by decide +kernel
theorem dX1_layContract_18 : decode cX1_layContract 18 = .ok (.ifCond .ne 6, 3) := by decide +kernel
theorem dX1_layContract_21 : decode cX1_layContract 21 = .ok (.ldc 78, 2) := by decide +kernel
theorem dX1_layContract_23 : decode cX1_layContract 23 = .ok (.ireturn, 1) := by decide +kernel
theorem dX1_layContract_24 : decode cX1_layContract 24 = .ok (.aload_n 0, 1) := by decide +kernel
theorem dX1_layContract_25 : decode cX1_layContract 25 = .ok (.getfield 35, 3) := by decide +kernel
theorem dX1_layContract_28 : decode cX1_layContract 28 = .ok (.getfield 72, 3) := by decide +kernel
theorem dX1_layContract_31 : decode cX1_layContract 31 = .ok (.bipush 6, 2) := by decide +kernel
theorem dX1_layContract_33 : decode cX1_layContract 33 = .ok (.if_icmp .lt 6, 3) := by decide +kernel
theorem dX1_layContract_36 : decode cX1_layContract 36 = .ok (.ldc 73, 2) := by decide +kernel
theorem dX1_layContract_38 : decode cX1_layContract 38 = .ok (.ireturn, 1) := by decide +kernel
theorem dX1_layContract_39 : decode cX1_layContract 39 = .ok (.aload_n 0, 1) := by decide +kernel
theorem dX1_layContract_40 : decode cX1_layContract 40 = .ok (.getfield 35, 3) := by decide +kernel
theorem dX1_layContract_43 : decode cX1_layContract 43 = .ok (.getfield 72, 3) := by decide +kernel
theorem dX1_layContract_46 : decode cX1_layContract 46 = .ok (.istore_n 3, 1) := by decide +kernel
theorem dX1_layContract_47 : decode cX1_layContract 47 = .ok (.aload_n 0, 1) := by decide +kernel
theorem dX1_layContract_48 : decode cX1_layContract 48 = .ok (.getfield 35, 3) := by decide +kernel
theorem dX1_layContract_51 : decode cX1_layContract 51 = .ok (.getfield 102, 3) := by decide +kernel
theorem dX1_layContract_54 : decode cX1_layContract 54 = .ok (.iload_n 3, 1) := by decide +kernel
theorem dX1_layContract_55 : decode cX1_layContract 55 = .ok (.iload_n 1, 1) := by decide +kernel
theorem dX1_layContract_56 : decode cX1_layContract 56 = .ok (.iastore, 1) := by decide +kernel
theorem dX1_layContract_57 : decode cX1_layContract 57 = .ok (.aload_n 0, 1) := by decide +kernel
theorem dX1_layContract_58 : decode cX1_layContract 58 = .ok (.getfield 35, 3) := by decide +kernel
theorem dX1_layContract_61 : decode cX1_layContract 61 = .ok (.getfield 105, 3) := by decide +kernel
theorem dX1_layContract_64 : decode cX1_layContract 64 = .ok (.iload_n 3, 1) := by decide +kernel
theorem dX1_layContract_65 : decode cX1_layContract 65 = .ok (.iload_n 2, 1) := by decide +kernel
theorem dX1_layContract_66 : decode cX1_layContract 66 = .ok (.iastore, 1) := by decide +kernel
theorem dX1_layContract_67 : decode cX1_layContract 67 = .ok (.aload_n 0, 1) := by decide +kernel
theorem dX1_layContract_68 : decode cX1_layContract 68 = .ok (.getfield 35, 3) := by decide +kernel
theorem dX1_layContract_71 : decode cX1_layContract 71 = .ok (.dup, 1) := by decide +kernel
theorem dX1_layContract_72 : decode cX1_layContract 72 = .ok (.getfield 72, 3) := by decide +kernel
theorem dX1_layContract_75 : decode cX1_layContract 75 = .ok (.iconst 1, 1) := by decide +kernel
theorem dX1_layContract_76 : decode cX1_layContract 76 = .ok (.iadd, 1) := by decide +kernel
theorem dX1_layContract_77 : decode cX1_layContract 77 = .ok (.putfield 72, 3) := by decide +kernel
theorem dX1_layContract_80 : decode cX1_layContract 80 = .ok (.iload_n 3, 1) := by decide +kernel
theorem dX1_layContract_81 : decode cX1_layContract 81 = .ok (.ireturn, 1) := by decide +kernel
def vc_X1_layContract (Q : Int32 → Mem → Prop) (γ : Mem) (x1 : Int32) (x2 : Int32) : Prop :=
  vc_X7_within (fun r1 => ((r1 = 0) → (Q (-1000001) γ)) ∧ ((¬ r1 = 0) → (vc_X7_within (fun r3 => ((¬ r3 = 0) → ((((γ 18 0) < 6) → (∀ v6 : Int32, v6 = (γ 18 0) → (vp_in v6 6 ∧ (∀ γ8 : Mem, γ8 = up γ 19 v6.toNatClampNeg x1 → ((∀ γ9 : Mem, γ9 = up γ8 20 v6.toNatClampNeg x2 → (∀ γ10 : Mem, γ10 = up γ9 18 0 ((γ9 18 0) + 1) → (Q v6 γ10)))))))) ∧ ((¬ (γ 18 0) < 6) → (Q (-1000003) γ)))) ∧ ((r3 = 0) → (Q (-1000001) γ))) x2 1 20))) x1 0 999
set_option maxHeartbeats 8000000 in
set_option maxRecDepth 100000 in
theorem m_X1_layContract (l : Launch) (G : GG) (aG : Nat) (γ : Mem) (x1 : Int32) (x2 : Int32) (Q : Int32 → Mem → Prop) (h : vc_X1_layContract Q γ x1 x2) : CtI l yX1_layContract cX1_layContract 4 (some .int) { frames := 1, cells := 0, slots := 0, locals := 22 } [.ref (aG + 0), .int x1, .int x2] G (fun H => rg G LG aG γ H) (Q) (fun u H => rg G LG aG u H) (RA aG 22) := by
  unfold CtI
  refine met_start (y := yX1_layContract) (maxL := 4) (av := [.ref (aG + 0), .int x1, .int x2]) (G := G) (P := fun H => rg G LG aG γ H) (by decide) rfl (Nat.le_of_ble_eq_true rfl) (fun p e s m below meth c ls C hr hP hK hl => ?_)
  obtain ⟨hx, hb, hml, hown, hts, hlocks⟩ := id C
  have hG : rg G LG aG γ s.heap := hP
  have hS : va_S (RA aG 22) s.heap s.heap [] := va_S.rf
  have hl : lv_has ls 4 [(0, .ref (aG + 0)), (1, .int x1), (2, .int x2)] := hl
  unfold vc_X1_layContract at h
  refine lv_iload_n hx hb dX1_layContract_0 rfl (lv_at hl 1 rfl) ?_
  refine lv_iconst (v := 0) hx hb dX1_layContract_1 (by decide) ?_
  refine lv_sipush (v := 999) hx hb dX1_layContract_2 (by decide) ?_
  refine g_nI C hK hl.1 (m_X7_within l G x1 0 999 _ h) mw_X7_within ms_X7_within nl_X1_63 rfl ⟨rfl, rfl, Nat.le_of_ble_eq_true rfl, Nat.le_of_ble_eq_true rfl⟩ ⟨Nat.zero_le _, Nat.zero_le _⟩ trivial hS (fun _ h => h.elim) rfl (Nat.le_of_ble_eq_true rfl) dX1_layContract_5 (fun r1 u H locs h hu _ hq hS => ?_)
  have hG := hG.past hq (fun _ _ h => h)
  refine lv_if_eq (tgt := 21) hx hb dX1_layContract_8 (by decide) (fun c2 => ?_) (fun c2 => ?_)
  · replace h := h.1 c2
    refine g_ldc C kc_X1_78 dX1_layContract_21 ?_
    exact g_iret (post := Q) (P' := fun u H => rg G LG aG u H) (r := (-1000001)) (u := γ) C hr hK hS h hG dX1_layContract_23
  · replace h := h.2 c2
    refine lv_iload_n hx hb dX1_layContract_11 rfl (lv_at hl 2 rfl) ?_
    refine lv_iconst (v := 1) hx hb dX1_layContract_12 (by decide) ?_
    refine lv_bipush (v := 20) hx hb dX1_layContract_13 (by decide) ?_
    refine g_nI C hK hl.1 (m_X7_within l G x2 1 20 _ h) mw_X7_within ms_X7_within nl_X1_63 rfl ⟨rfl, rfl, Nat.le_of_ble_eq_true rfl, Nat.le_of_ble_eq_true rfl⟩ ⟨Nat.zero_le _, Nat.zero_le _⟩ trivial hS (fun _ h => h.elim) rfl (Nat.le_of_ble_eq_true rfl) dX1_layContract_15 (fun r3 u H locs h hu _ hq hS => ?_)
    have hG := hG.past hq (fun _ _ h => h)
    refine lv_if_ne (tgt := 24) hx hb dX1_layContract_18 (by decide) (fun c4 => ?_) (fun c4 => ?_)
    · replace h := h.1 c4
      refine lv_aload_n hx hb dX1_layContract_24 rfl (lv_at hl 0 rfl) ?_
      refine g_getR (a := aG) (k := 0) (o := 18) C hK hG fl_X1_35 rfl rfl dX1_layContract_25 ?_
      refine g_getI (a := aG) (k := 18) C hK hG fl_X1_72 rfl rfl dX1_layContract_28 ?_
      refine lv_bipush (v := 6) hx hb dX1_layContract_31 (by decide) ?_
      refine lv_icmp_lt (tgt := 39) hx hb dX1_layContract_33 (by decide) (fun c5 => ?_) (fun c5 => ?_)
      · replace h := h.1 c5
        refine lv_aload_n hx hb dX1_layContract_39 rfl (lv_at hl 0 rfl) ?_
        refine g_getR (a := aG) (k := 0) (o := 18) C hK hG fl_X1_35 rfl rfl dX1_layContract_40 ?_
        refine g_getI (a := aG) (k := 18) C hK hG fl_X1_72 rfl rfl dX1_layContract_43 ?_
        refine lv_topi (fun v6 ev6 => ?_)
        specialize h v6 ev6
        refine lv_istore_n (lv' := [(3, .int v6), (0, .ref (aG + 0)), (1, .int x1), (2, .int x2)]) hx hb dX1_layContract_46 rfl hl (by decide) rfl (fun ls hl => ?_)
        refine lv_aload_n hx hb dX1_layContract_47 rfl (lv_at hl 1 rfl) ?_
        refine g_getR (a := aG) (k := 0) (o := 18) C hK hG fl_X1_35 rfl rfl dX1_layContract_48 ?_
        refine g_getR (a := aG) (k := 18) (o := 19) C hK hG fl_X1_102 rfl rfl dX1_layContract_51 ?_
        refine lv_iload_n hx hb dX1_layContract_54 rfl (lv_at hl 0 rfl) ?_
        refine lv_iload_n hx hb dX1_layContract_55 rfl (lv_at hl 2 rfl) ?_
        obtain ⟨b7, h⟩ := h
        refine g_ast (a := aG) (k := 19) (n := 6) C hK hG hS rfl b7 (RA_in (by decide)) dX1_layContract_56 (fun γ8 H locs eγ8 hG hS hq => ?_)
        specialize h γ8 eγ8
        refine lv_aload_n hx hb dX1_layContract_57 rfl (lv_at hl 1 rfl) ?_
        refine g_getR (a := aG) (k := 0) (o := 18) C hK hG fl_X1_35 rfl rfl dX1_layContract_58 ?_
        refine g_getR (a := aG) (k := 18) (o := 20) C hK hG fl_X1_105 rfl rfl dX1_layContract_61 ?_
        refine lv_iload_n hx hb dX1_layContract_64 rfl (lv_at hl 0 rfl) ?_
        refine lv_iload_n hx hb dX1_layContract_65 rfl (lv_at hl 3 rfl) ?_
        refine g_ast (a := aG) (k := 20) (n := 6) C hK hG hS rfl b7 (RA_in (by decide)) dX1_layContract_66 (fun γ9 H locs eγ9 hG hS hq => ?_)
        specialize h γ9 eγ9
        refine lv_aload_n hx hb dX1_layContract_67 rfl (lv_at hl 1 rfl) ?_
        refine g_getR (a := aG) (k := 0) (o := 18) C hK hG fl_X1_35 rfl rfl dX1_layContract_68 ?_
        refine lv_dup hx hb dX1_layContract_71 rfl ?_
        refine g_getI (a := aG) (k := 18) C hK hG fl_X1_72 rfl rfl dX1_layContract_72 ?_
        refine lv_iconst (v := 1) hx hb dX1_layContract_75 (by decide) ?_
        refine lv_iadd hx hb dX1_layContract_76 ?_
        refine g_put (a := aG) (k := 18) C hK hG hS fl_X1_72 fp_X0_0 rfl rfl (by rfl) (by rfl) (RA_in (by decide)) dX1_layContract_77 (fun γ10 H locs eγ10 hG hS hq => ?_)
        specialize h γ10 eγ10
        refine lv_iload_n hx hb dX1_layContract_80 rfl (lv_at hl 0 rfl) ?_
        exact g_iret (post := Q) (P' := fun u H => rg G LG aG u H) (r := v6) (u := γ10) C hr hK hS h hG dX1_layContract_81
      · replace h := h.2 c5
        refine g_ldc C kc_X1_73 dX1_layContract_36 ?_
        exact g_iret (post := Q) (P' := fun u H => rg G LG aG u H) (r := (-1000003)) (u := γ) C hr hK hS h hG dX1_layContract_38
    · replace h := h.2 c4
      refine g_ldc C kc_X1_78 dX1_layContract_21 ?_
      exact g_iret (post := Q) (P' := fun u H => rg G LG aG u H) (r := (-1000001)) (u := γ) C hr hK hS h hG dX1_layContract_23
theorem dX1_placesLeft_0 : decode cX1_placesLeft 0 = .ok (.aload_n 0, 1) := by decide +kernel
theorem dX1_placesLeft_1 : decode cX1_placesLeft 1 = .ok (.getfield 28, 3) := by decide +kernel
theorem dX1_placesLeft_4 : decode cX1_placesLeft 4 = .ok (.getfield 90, 3) := by decide +kernel
theorem dX1_placesLeft_7 : decode cX1_placesLeft 7 = .ok (.iload_n 1, 1) := by decide +kernel
theorem dX1_placesLeft_8 : decode cX1_placesLeft 8 = .ok (.iaload, 1) := by decide +kernel
theorem dX1_placesLeft_9 : decode cX1_placesLeft 9 = .ok (.aload_n 0, 1) := by decide +kernel
theorem dX1_placesLeft_10 : decode cX1_placesLeft 10 = .ok (.getfield 21, 3) := by decide +kernel
theorem dX1_placesLeft_13 : decode cX1_placesLeft 13 = .ok (.iload_n 1, 1) := by decide +kernel
theorem dX1_placesLeft_14 : decode cX1_placesLeft 14 = .ok (.invokevirtual 108, 3) := by decide +kernel
theorem dX1_placesLeft_17 : decode cX1_placesLeft 17 = .ok (.isub, 1) := by decide +kernel
theorem dX1_placesLeft_18 : decode cX1_placesLeft 18 = .ok (.ireturn, 1) := by decide +kernel
def vc_X1_placesLeft (Q : Int32 → Prop) (γ : Mem) (x1 : Int32) : Prop :=
  vp_in x1 8 ∧ (vc_X2_numberOn (fun r2 => Q ((γ 13 x1.toNatClampNeg) - r2) ) γ x1)
set_option maxHeartbeats 8000000 in
set_option maxRecDepth 100000 in
theorem m_X1_placesLeft (l : Launch) (G : GG) (aG : Nat) (γ : Mem) (x1 : Int32) (Q : Int32 → Prop) (h : vc_X1_placesLeft Q γ x1) : CtI l yX1_placesLeft cX1_placesLeft 2 (some .int) { frames := 1, cells := 0, slots := 0, locals := 23 } [.ref (aG + 0), .int x1] G (fun H => rg G LG aG γ H) (fun r (_ : Unit) => Q r) (fun _ _ => True) (fun _ => False) := by
  unfold CtI
  refine met_start (y := yX1_placesLeft) (maxL := 2) (av := [.ref (aG + 0), .int x1]) (G := G) (P := fun H => rg G LG aG γ H) (by decide) rfl (Nat.le_of_ble_eq_true rfl) (fun p e s m below meth c ls C hr hP hK hl => ?_)
  obtain ⟨hx, hb, hml, hown, hts, hlocks⟩ := id C
  have hG : rg G LG aG γ s.heap := hP
  have hS : va_S (fun _ => False) s.heap s.heap [] := va_S.rf
  have hl : lv_has ls 2 [(0, .ref (aG + 0)), (1, .int x1)] := hl
  unfold vc_X1_placesLeft at h
  refine lv_aload_n hx hb dX1_placesLeft_0 rfl (lv_at hl 0 rfl) ?_
  refine g_getR (a := aG) (k := 0) (o := 12) C hK hG fl_X1_28 rfl rfl dX1_placesLeft_1 ?_
  refine g_getR (a := aG) (k := 12) (o := 13) C hK hG fl_X1_90 rfl rfl dX1_placesLeft_4 ?_
  refine lv_iload_n hx hb dX1_placesLeft_7 rfl (lv_at hl 1 rfl) ?_
  obtain ⟨b1, h⟩ := h
  refine g_ald (a := aG) (k := 13) (n := 8) C hK hG rfl b1 dX1_placesLeft_8 ?_
  refine lv_aload_n hx hb dX1_placesLeft_9 rfl (lv_at hl 0 rfl) ?_
  refine g_getR (a := aG) (k := 0) (o := 4) C hK hG fl_X1_21 rfl rfl dX1_placesLeft_10 ?_
  refine lv_iload_n hx hb dX1_placesLeft_13 rfl (lv_at hl 1 rfl) ?_
  refine g_vI C hK hl.1 (m_X2_numberOn l G aG γ x1 _ h) mw_X2_numberOn mi_X2_numberOn ml_X1_108 rfl ⟨rfl, rfl, Nat.le_of_ble_eq_true rfl, Nat.le_of_ble_eq_true rfl⟩ ⟨Nat.zero_le _, Nat.zero_le _⟩ (g_recv (a := aG) (k := 4) hK hG rfl rfl) hG hS (fun _ h => h.elim) rfl (Nat.le_of_ble_eq_true rfl) dX1_placesLeft_14 (fun r2 u H locs h hu _ hq hS => ?_)
  have hG := hG.past hq (fun _ _ h => h)
  refine lv_isub hx hb dX1_placesLeft_17 ?_
  exact g_iret (post := fun r (_ : Unit) => Q r) (P' := fun _ _ => True) (r := ((γ 13 x1.toNatClampNeg) - r2)) (u := ()) C hr hK hS h trivial dX1_placesLeft_18
theorem dX1_canBePut_0 : decode cX1_canBePut 0 = .ok (.aload_n 0, 1) := by decide +kernel
theorem dX1_canBePut_1 : decode cX1_canBePut 1 = .ok (.getfield 21, 3) := by decide +kernel
theorem dX1_canBePut_4 : decode cX1_canBePut 4 = .ok (.getfield 112, 3) := by decide +kernel
theorem dX1_canBePut_7 : decode cX1_canBePut 7 = .ok (.iload_n 1, 1) := by decide +kernel
theorem dX1_canBePut_8 : decode cX1_canBePut 8 = .ok (.iaload, 1) := by decide +kernel
theorem dX1_canBePut_9 : decode cX1_canBePut 9 = .ok (.iload_n 2, 1) := by decide +kernel
theorem dX1_canBePut_10 : decode cX1_canBePut 10 = .ok (.if_icmp .eq 11, 3) := by decide +kernel
theorem dX1_canBePut_13 : decode cX1_canBePut 13 = .ok (.aload_n 0, 1) := by decide +kernel
theorem dX1_canBePut_14 : decode cX1_canBePut 14 = .ok (.iload_n 2, 1) := by decide +kernel
theorem dX1_canBePut_15 : decode cX1_canBePut 15 = .ok (.invokevirtual 115, 3) := by decide +kernel
theorem dX1_canBePut_18 : decode cX1_canBePut 18 = .ok (.ifCond .le 7, 3) := by decide +kernel
theorem dX1_canBePut_21 : decode cX1_canBePut 21 = .ok (.iconst 1, 1) := by decide +kernel
theorem dX1_canBePut_22 : decode cX1_canBePut 22 = .ok (.goto 4, 3) := by decide +kernel
theorem dX1_canBePut_25 : decode cX1_canBePut 25 = .ok (.iconst 0, 1) := by decide +kernel
theorem dX1_canBePut_26 : decode cX1_canBePut 26 = .ok (.istore_n 3, 1) := by decide +kernel
theorem dX1_canBePut_27 : decode cX1_canBePut 27 = .ok (.aload_n 0, 1) := by decide +kernel
theorem dX1_canBePut_28 : decode cX1_canBePut 28 = .ok (.getfield 21, 3) := by decide +kernel
theorem dX1_canBePut_31 : decode cX1_canBePut 31 = .ok (.iload_n 1, 1) := by decide +kernel
theorem dX1_canBePut_32 : decode cX1_canBePut 32 = .ok (.invokevirtual 83, 3) := by decide +kernel
theorem dX1_canBePut_35 : decode cX1_canBePut 35 = .ok (.ifCond .eq 34, 3) := by decide +kernel
theorem dX1_canBePut_38 : decode cX1_canBePut 38 = .ok (.iload_n 3, 1) := by decide +kernel
theorem dX1_canBePut_39 : decode cX1_canBePut 39 = .ok (.ifCond .eq 30, 3) := by decide +kernel
theorem dX1_canBePut_42 : decode cX1_canBePut 42 = .ok (.aload_n 0, 1) := by decide +kernel
theorem dX1_canBePut_43 : decode cX1_canBePut 43 = .ok (.getfield 12, 3) := by decide +kernel
theorem dX1_canBePut_46 : decode cX1_canBePut 46 = .ok (.iload_n 1, 1) := by decide +kernel
theorem dX1_canBePut_47 : decode cX1_canBePut 47 = .ok (.invokestatic 118, 3) := by decide +kernel
theorem dX1_canBePut_50 : decode cX1_canBePut 50 = .ok (.aload_n 0, 1) := by decide +kernel
theorem dX1_canBePut_51 : decode cX1_canBePut 51 = .ok (.getfield 28, 3) := by decide +kernel
theorem dX1_canBePut_54 : decode cX1_canBePut 54 = .ok (.getfield 93, 3) := by decide +kernel
theorem dX1_canBePut_57 : decode cX1_canBePut 57 = .ok (.iload_n 2, 1) := by decide +kernel
theorem dX1_canBePut_58 : decode cX1_canBePut 58 = .ok (.iaload, 1) := by decide +kernel
theorem dX1_canBePut_59 : decode cX1_canBePut 59 = .ok (.invokevirtual 121, 3) := by decide +kernel
theorem dX1_canBePut_62 : decode cX1_canBePut 62 = .ok (.ifCond .eq 7, 3) := by decide +kernel
theorem dX1_canBePut_65 : decode cX1_canBePut 65 = .ok (.iconst 1, 1) := by decide +kernel
theorem dX1_canBePut_66 : decode cX1_canBePut 66 = .ok (.goto 4, 3) := by decide +kernel
theorem dX1_canBePut_69 : decode cX1_canBePut 69 = .ok (.iconst 0, 1) := by decide +kernel
theorem dX1_canBePut_70 : decode cX1_canBePut 70 = .ok (.ireturn, 1) := by decide +kernel
def vb_X1_canBePut_26 (Q : Int32 → Prop) (γ : Mem) (rec : Nat → Int32 → Int32 → Int32 → Prop) (w1 : Int32) (w2 : Int32) (z0 : Int32) : Prop :=
  vc_X2_isOut (fun r5 => ((r5 = 0) → (Q 0 )) ∧ ((¬ r5 = 0) → (((z0 = 0) → (Q 0 )) ∧ ((¬ z0 = 0) → (vc_X7_playerWith (fun r8 => vp_in w2 8 ∧ (vc_X5_have (fun r10 => ((r10 = 0) → (Q 0 )) ∧ ((¬ r10 = 0) → (Q 1 ))) γ r8 (γ 14 w2.toNatClampNeg))) w1))))) γ w1
def vl_X1_canBePut (Q : Int32 → Prop) (γ : Mem) : Nat → Nat → Int32 → Int32 → Int32 → Prop
  | 0, _, _, _, _ => False
  | n + 1, 0, w1, w2, z0 => vb_X1_canBePut_26 Q γ (vl_X1_canBePut Q γ n) w1 w2 z0
  | _ + 1, _, _, _, _ => False
def vc_X1_canBePut (Q : Int32 → Prop) (γ : Mem) (x1 : Int32) (x2 : Int32) : Prop :=
  ∃ n : Nat, vp_in x1 12 ∧ ((((γ 6 x1.toNatClampNeg) = x2) → (vl_X1_canBePut Q γ n 0 x1 x2 1)) ∧ ((¬ (γ 6 x1.toNatClampNeg) = x2) → (vc_X1_placesLeft (fun r3 => ((r3 ≤ 0) → (vl_X1_canBePut Q γ n 0 x1 x2 0)) ∧ ((¬ r3 ≤ 0) → (vl_X1_canBePut Q γ n 0 x1 x2 1))) γ x2)))
set_option maxHeartbeats 8000000 in
set_option maxRecDepth 100000 in
theorem m_X1_canBePut (l : Launch) (G : GG) (aG : Nat) (γ : Mem) (x1 : Int32) (x2 : Int32) (Q : Int32 → Prop) (h : vc_X1_canBePut Q γ x1 x2) : CtI l yX1_canBePut cX1_canBePut 4 (some .boolean) { frames := 2, cells := 0, slots := 0, locals := 45 } [.ref (aG + 0), .int x1, .int x2] G (fun H => rg G LG aG γ H) (fun r (_ : Unit) => Q r) (fun _ _ => True) (fun _ => False) := by
  unfold CtI
  refine met_start (y := yX1_canBePut) (maxL := 4) (av := [.ref (aG + 0), .int x1, .int x2]) (G := G) (P := fun H => rg G LG aG γ H) (by decide) rfl (Nat.le_of_ble_eq_true rfl) (fun p e s m below meth c ls C hr hP hK hl => ?_)
  obtain ⟨hx, hb, hml, hown, hts, hlocks⟩ := id C
  have hG : rg G LG aG γ s.heap := hP
  have hS : va_S (fun _ => False) s.heap s.heap [] := va_S.rf
  have hl : lv_has ls 4 [(0, .ref (aG + 0)), (1, .int x1), (2, .int x2)] := hl
  have K : ∀ n : Nat, (∀ (w1 : Int32) (w2 : Int32) (z0 : Int32) (H : Heap) (locs : List Loc) (ls : Array Slot), rg G LG aG γ H → va_S (fun _ => False) s.heap H locs → lv_has ls 4 [(0, .ref (aG + 0)), (1, .int w1), (2, .int w2)] → vl_X1_canBePut Q γ n 0 w1 w2 z0 → W p l e { frames := 2, cells := 0, slots := 0, locals := 45 } s m [.ref (aG + 0), .int x1, .int x2].toArray below meth c H locs 0 0 (MQ below (va_Qi (fun r (_ : Unit) => Q r) (fun u t => (fun _ _ => True) u t.heap ∧ KK G t) (fun _ => False)) [.ref (aG + 0), .int x1, .int x2].toArray s 0 0 (fun _ => False)) (F0 m 26 ls [.int z0])) := by
    intro n
    induction n with
    | zero => exact fun _ _ _ _ _ _ _ _ _ h => h.elim
    | succ n ih =>
      · intro w1 w2 z0 H locs ls hG hS hl h
        replace h : vb_X1_canBePut_26 Q γ (vl_X1_canBePut Q γ n) w1 w2 z0 := h
        unfold vb_X1_canBePut_26 at h
        refine lv_istore_n (lv' := [(3, .int z0), (0, .ref (aG + 0)), (1, .int w1), (2, .int w2)]) hx hb dX1_canBePut_26 rfl hl (by decide) rfl (fun ls hl => ?_)
        refine lv_aload_n hx hb dX1_canBePut_27 rfl (lv_at hl 1 rfl) ?_
        refine g_getR (a := aG) (k := 0) (o := 4) C hK hG fl_X1_21 rfl rfl dX1_canBePut_28 ?_
        refine lv_iload_n hx hb dX1_canBePut_31 rfl (lv_at hl 2 rfl) ?_
        refine g_vI C hK hl.1 (m_X2_isOut l G aG γ w1 _ h) mw_X2_isOut mi_X2_isOut ml_X1_83 rfl ⟨rfl, rfl, Nat.le_of_ble_eq_true rfl, Nat.le_of_ble_eq_true rfl⟩ ⟨Nat.zero_le _, Nat.zero_le _⟩ (g_recv (a := aG) (k := 4) hK hG rfl rfl) hG hS (fun _ h => h.elim) rfl (Nat.le_of_ble_eq_true rfl) dX1_canBePut_32 (fun r5 u H locs h hu _ hq hS => ?_)
        have hG := hG.past hq (fun _ _ h => h)
        refine lv_if_eq (tgt := 69) hx hb dX1_canBePut_35 (by decide) (fun c6 => ?_) (fun c6 => ?_)
        · replace h := h.1 c6
          refine lv_iconst (v := 0) hx hb dX1_canBePut_69 (by decide) ?_
          exact g_zret (post := fun r (_ : Unit) => Q r) (P' := fun _ _ => True) (r := 0) (u := ()) C hr hK hS (by rfl) h trivial dX1_canBePut_70
        · replace h := h.2 c6
          refine lv_iload_n hx hb dX1_canBePut_38 rfl (lv_at hl 0 rfl) ?_
          refine lv_if_eq (tgt := 69) hx hb dX1_canBePut_39 (by decide) (fun c7 => ?_) (fun c7 => ?_)
          · replace h := h.1 c7
            refine lv_iconst (v := 0) hx hb dX1_canBePut_69 (by decide) ?_
            exact g_zret (post := fun r (_ : Unit) => Q r) (P' := fun _ _ => True) (r := 0) (u := ()) C hr hK hS (by rfl) h trivial dX1_canBePut_70
          · replace h := h.2 c7
            refine lv_aload_n hx hb dX1_canBePut_42 rfl (lv_at hl 1 rfl) ?_
            refine g_getR (a := aG) (k := 0) (o := 1) C hK hG fl_X1_12 rfl rfl dX1_canBePut_43 ?_
            refine lv_iload_n hx hb dX1_canBePut_46 rfl (lv_at hl 2 rfl) ?_
            refine g_nI C hK hl.1 (m_X7_playerWith l G w1 _ h) mw_X7_playerWith ms_X7_playerWith nl_X1_118 rfl ⟨rfl, rfl, Nat.le_of_ble_eq_true rfl, Nat.le_of_ble_eq_true rfl⟩ ⟨Nat.zero_le _, Nat.zero_le _⟩ trivial hS (fun _ h => h.elim) rfl (Nat.le_of_ble_eq_true rfl) dX1_canBePut_47 (fun r8 u H locs h hu _ hq hS => ?_)
            have hG := hG.past hq (fun _ _ h => h)
            refine lv_aload_n hx hb dX1_canBePut_50 rfl (lv_at hl 1 rfl) ?_
            refine g_getR (a := aG) (k := 0) (o := 12) C hK hG fl_X1_28 rfl rfl dX1_canBePut_51 ?_
            refine g_getR (a := aG) (k := 12) (o := 14) C hK hG fl_X1_93 rfl rfl dX1_canBePut_54 ?_
            refine lv_iload_n hx hb dX1_canBePut_57 rfl (lv_at hl 3 rfl) ?_
            obtain ⟨b9, h⟩ := h
            refine g_ald (a := aG) (k := 14) (n := 8) C hK hG rfl b9 dX1_canBePut_58 ?_
            refine g_vI C hK hl.1 (m_X5_have l G aG γ r8 (γ 14 w2.toNatClampNeg) _ h) mw_X5_have mi_X5_have ml_X1_121 rfl ⟨rfl, rfl, Nat.le_of_ble_eq_true rfl, Nat.le_of_ble_eq_true rfl⟩ ⟨Nat.zero_le _, Nat.zero_le _⟩ (g_recv (a := aG) (k := 1) hK hG rfl rfl) hG hS (fun _ h => h.elim) rfl (Nat.le_of_ble_eq_true rfl) dX1_canBePut_59 (fun r10 u H locs h hu _ hq hS => ?_)
            have hG := hG.past hq (fun _ _ h => h)
            refine lv_if_eq (tgt := 69) hx hb dX1_canBePut_62 (by decide) (fun c11 => ?_) (fun c11 => ?_)
            · replace h := h.1 c11
              refine lv_iconst (v := 0) hx hb dX1_canBePut_69 (by decide) ?_
              exact g_zret (post := fun r (_ : Unit) => Q r) (P' := fun _ _ => True) (r := 0) (u := ()) C hr hK hS (by rfl) h trivial dX1_canBePut_70
            · replace h := h.2 c11
              refine lv_iconst (v := 1) hx hb dX1_canBePut_65 (by decide) ?_
              refine lv_goto (tgt := 70) hx hb dX1_canBePut_66 (by decide) ?_
              exact g_zret (post := fun r (_ : Unit) => Q r) (P' := fun _ _ => True) (r := 1) (u := ()) C hr hK hS (by rfl) h trivial dX1_canBePut_70
  unfold vc_X1_canBePut at h
  obtain ⟨n, h⟩ := h
  refine lv_aload_n hx hb dX1_canBePut_0 rfl (lv_at hl 0 rfl) ?_
  refine g_getR (a := aG) (k := 0) (o := 4) C hK hG fl_X1_21 rfl rfl dX1_canBePut_1 ?_
  refine g_getR (a := aG) (k := 4) (o := 6) C hK hG fl_X1_112 rfl rfl dX1_canBePut_4 ?_
  refine lv_iload_n hx hb dX1_canBePut_7 rfl (lv_at hl 1 rfl) ?_
  obtain ⟨b1, h⟩ := h
  refine g_ald (a := aG) (k := 6) (n := 12) C hK hG rfl b1 dX1_canBePut_8 ?_
  refine lv_iload_n hx hb dX1_canBePut_9 rfl (lv_at hl 2 rfl) ?_
  refine lv_icmp_eq (tgt := 21) hx hb dX1_canBePut_10 (by decide) (fun c2 => ?_) (fun c2 => ?_)
  · replace h := h.1 c2
    refine lv_iconst (v := 1) hx hb dX1_canBePut_21 (by decide) ?_
    refine lv_goto (tgt := 26) hx hb dX1_canBePut_22 (by decide) ?_
    exact ((K n)) x1 x2 1 _ _ _ hG hS (lv_sub hl [0, 1, 2] rfl) h
  · replace h := h.2 c2
    refine lv_aload_n hx hb dX1_canBePut_13 rfl (lv_at hl 0 rfl) ?_
    refine lv_iload_n hx hb dX1_canBePut_14 rfl (lv_at hl 2 rfl) ?_
    refine g_vI C hK hl.1 (m_X1_placesLeft l G aG γ x2 _ h) mw_X1_placesLeft mi_X1_placesLeft ml_X1_115 rfl ⟨rfl, rfl, Nat.le_of_ble_eq_true rfl, Nat.le_of_ble_eq_true rfl⟩ ⟨Nat.zero_le _, Nat.zero_le _⟩ (g_recv (a := aG) (k := 0) hK hG rfl rfl) hG hS (fun _ h => h.elim) rfl (Nat.le_of_ble_eq_true rfl) dX1_canBePut_15 (fun r3 u H locs h hu _ hq hS => ?_)
    have hG := hG.past hq (fun _ _ h => h)
    refine lv_if_le (tgt := 25) hx hb dX1_canBePut_18 (by decide) (fun c4 => ?_) (fun c4 => ?_)
    · replace h := h.1 c4
      refine lv_iconst (v := 0) hx hb dX1_canBePut_25 (by decide) ?_
      exact ((K n)) x1 x2 0 _ _ _ hG hS (lv_sub hl [0, 1, 2] rfl) h
    · replace h := h.2 c4
      refine lv_iconst (v := 1) hx hb dX1_canBePut_21 (by decide) ?_
      refine lv_goto (tgt := 26) hx hb dX1_canBePut_22 (by decide) ?_
      exact ((K n)) x1 x2 1 _ _ _ hG hS (lv_sub hl [0, 1, 2] rfl) h
theorem dX1_putWorker_0 : decode cX1_putWorker 0 = .ok (.aload_n 0, 1) := by decide +kernel
theorem dX1_putWorker_1 : decode cX1_putWorker 1 = .ok (.iload_n 1, 1) := by decide +kernel
theorem dX1_putWorker_2 : decode cX1_putWorker 2 = .ok (.iload_n 2, 1) := by decide +kernel
theorem dX1_putWorker_3 : decode cX1_putWorker 3 = .ok (.invokevirtual 74, 3) := by decide +kernel
theorem dX1_putWorker_6 : decode cX1_putWorker 6 = .ok (.ifCond .eq 11, 3) := by decide +kernel
theorem dX1_putWorker_9 : decode cX1_putWorker 9 = .ok (.aload_n 0, 1) := by decide +kernel
theorem dX1_putWorker_10 : decode cX1_putWorker 10 = .ok (.iload_n 3, 1) := by decide +kernel
theorem dX1_putWorker_11 : decode cX1_putWorker 11 = .ok (.invokevirtual 124, 3) := by decide +kernel
theorem dX1_putWorker_14 : decode cX1_putWorker 14 = .ok (.ifCond .ne 6, 3) := by decide +kernel
theorem dX1_putWorker_17 : decode cX1_putWorker 17 = .ok (.ldc 78, 2) := by decide +kernel
theorem dX1_putWorker_19 : decode cX1_putWorker 19 = .ok (.ireturn, 1) := by decide +kernel
theorem dX1_putWorker_20 : decode cX1_putWorker 20 = .ok (.iload_n 1, 1) := by decide +kernel
theorem dX1_putWorker_21 : decode cX1_putWorker 21 = .ok (.iload_n 2, 1) := by decide +kernel
theorem dX1_putWorker_22 : decode cX1_putWorker 22 = .ok (.invokestatic 79, 3) := by decide +kernel
theorem dX1_putWorker_25 : decode cX1_putWorker 25 = .ok (.istore 4, 2) := by decide +kernel
theorem dX1_putWorker_27 : decode cX1_putWorker 27 = .ok (.aload_n 0, 1) := by decide +kernel
theorem dX1_putWorker_28 : decode cX1_putWorker 28 = .ok (.iload 4, 2) := by decide +kernel
theorem dX1_putWorker_30 : decode cX1_putWorker 30 = .ok (.iload_n 3, 1) := by decide +kernel
theorem dX1_putWorker_31 : decode cX1_putWorker 31 = .ok (.invokevirtual 127, 3) := by decide +kernel
theorem dX1_putWorker_34 : decode cX1_putWorker 34 = .ok (.ifCond .ne 6, 3) := by decide +kernel
theorem dX1_putWorker_37 : decode cX1_putWorker 37 = .ok (.ldc 86, 2) := by decide +kernel
theorem dX1_putWorker_39 : decode cX1_putWorker 39 = .ok (.ireturn, 1) := by decide +kernel
theorem dX1_putWorker_40 : decode cX1_putWorker 40 = .ok (.aload_n 0, 1) := by decide +kernel
theorem dX1_putWorker_41 : decode cX1_putWorker 41 = .ok (.getfield 12, 3) := by decide +kernel
theorem dX1_putWorker_44 : decode cX1_putWorker 44 = .ok (.iload_n 1, 1) := by decide +kernel
theorem dX1_putWorker_45 : decode cX1_putWorker 45 = .ok (.aload_n 0, 1) := by decide +kernel
theorem dX1_putWorker_46 : decode cX1_putWorker 46 = .ok (.getfield 28, 3) := by decide +kernel
theorem dX1_putWorker_49 : decode cX1_putWorker 49 = .ok (.getfield 93, 3) := by decide +kernel
theorem dX1_putWorker_52 : decode cX1_putWorker 52 = .ok (.iload_n 3, 1) := by decide +kernel
theorem dX1_putWorker_53 : decode cX1_putWorker 53 = .ok (.iaload, 1) := by decide +kernel
theorem dX1_putWorker_54 : decode cX1_putWorker 54 = .ok (.invokevirtual 130, 3) := by decide +kernel
theorem dX1_putWorker_57 : decode cX1_putWorker 57 = .ok (.aload_n 0, 1) := by decide +kernel
theorem dX1_putWorker_58 : decode cX1_putWorker 58 = .ok (.getfield 21, 3) := by decide +kernel
theorem dX1_putWorker_61 : decode cX1_putWorker 61 = .ok (.iload 4, 2) := by decide +kernel
theorem dX1_putWorker_63 : decode cX1_putWorker 63 = .ok (.iload_n 3, 1) := by decide +kernel
theorem dX1_putWorker_64 : decode cX1_putWorker 64 = .ok (.invokevirtual 134, 3) := by decide +kernel
theorem dX1_putWorker_67 : decode cX1_putWorker 67 = .ok (.aload_n 0, 1) := by decide +kernel
theorem dX1_putWorker_68 : decode cX1_putWorker 68 = .ok (.iload_n 3, 1) := by decide +kernel
theorem dX1_putWorker_69 : decode cX1_putWorker 69 = .ok (.invokevirtual 115, 3) := by decide +kernel
theorem dX1_putWorker_72 : decode cX1_putWorker 72 = .ok (.ireturn, 1) := by decide +kernel
def vc_X1_putWorker (Q : Int32 → Mem → Prop) (γ : Mem) (x1 : Int32) (x2 : Int32) (x3 : Int32) : Prop :=
  vc_X1_hasWorker (fun r1 => ((r1 = 0) → (Q (-1000001) γ)) ∧ ((¬ r1 = 0) → (vc_X1_hasTask (fun r3 => ((¬ r3 = 0) → (vc_X7_glassOf (fun r5 => vc_X1_canBePut (fun r6 => ((¬ r6 = 0) → (vp_in x3 8 ∧ (vc_X5_pay (fun γ10 => vc_X2_start (fun γ12 => vc_X1_placesLeft (fun r13 => Q r13 γ12) γ12 x3) γ10 r5 x3) γ x1 (γ 14 x3.toNatClampNeg)))) ∧ ((r6 = 0) → (Q (-1000002) γ))) γ r5 x3) x1 x2)) ∧ ((r3 = 0) → (Q (-1000001) γ))) γ x3))) γ x1 x2
set_option maxHeartbeats 8000000 in
set_option maxRecDepth 100000 in
theorem m_X1_putWorker (l : Launch) (G : GG) (aG : Nat) (γ : Mem) (x1 : Int32) (x2 : Int32) (x3 : Int32) (Q : Int32 → Mem → Prop) (h : vc_X1_putWorker Q γ x1 x2 x3) : CtI l yX1_putWorker cX1_putWorker 5 (some .int) { frames := 3, cells := 0, slots := 0, locals := 68 } [.ref (aG + 0), .int x1, .int x2, .int x3] G (fun H => rg G LG aG γ H) (Q) (fun u H => rg G LG aG u H) (RA aG 22) := by
  unfold CtI
  refine met_start (y := yX1_putWorker) (maxL := 5) (av := [.ref (aG + 0), .int x1, .int x2, .int x3]) (G := G) (P := fun H => rg G LG aG γ H) (by decide) rfl (Nat.le_of_ble_eq_true rfl) (fun p e s m below meth c ls C hr hP hK hl => ?_)
  obtain ⟨hx, hb, hml, hown, hts, hlocks⟩ := id C
  have hG : rg G LG aG γ s.heap := hP
  have hS : va_S (RA aG 22) s.heap s.heap [] := va_S.rf
  have hl : lv_has ls 5 [(0, .ref (aG + 0)), (1, .int x1), (2, .int x2), (3, .int x3)] := hl
  unfold vc_X1_putWorker at h
  refine lv_aload_n hx hb dX1_putWorker_0 rfl (lv_at hl 0 rfl) ?_
  refine lv_iload_n hx hb dX1_putWorker_1 rfl (lv_at hl 1 rfl) ?_
  refine lv_iload_n hx hb dX1_putWorker_2 rfl (lv_at hl 2 rfl) ?_
  refine g_vI C hK hl.1 (m_X1_hasWorker l G aG γ x1 x2 _ h) mw_X1_hasWorker mi_X1_hasWorker ml_X1_74 rfl ⟨rfl, rfl, Nat.le_of_ble_eq_true rfl, Nat.le_of_ble_eq_true rfl⟩ ⟨Nat.zero_le _, Nat.zero_le _⟩ (g_recv (a := aG) (k := 0) hK hG rfl rfl) hG hS (fun _ h => h.elim) rfl (Nat.le_of_ble_eq_true rfl) dX1_putWorker_3 (fun r1 u H locs h hu _ hq hS => ?_)
  have hG := hG.past hq (fun _ _ h => h)
  refine lv_if_eq (tgt := 17) hx hb dX1_putWorker_6 (by decide) (fun c2 => ?_) (fun c2 => ?_)
  · replace h := h.1 c2
    refine g_ldc C kc_X1_78 dX1_putWorker_17 ?_
    exact g_iret (post := Q) (P' := fun u H => rg G LG aG u H) (r := (-1000001)) (u := γ) C hr hK hS h hG dX1_putWorker_19
  · replace h := h.2 c2
    refine lv_aload_n hx hb dX1_putWorker_9 rfl (lv_at hl 0 rfl) ?_
    refine lv_iload_n hx hb dX1_putWorker_10 rfl (lv_at hl 3 rfl) ?_
    refine g_vI C hK hl.1 (m_X1_hasTask l G aG γ x3 _ h) mw_X1_hasTask mi_X1_hasTask ml_X1_124 rfl ⟨rfl, rfl, Nat.le_of_ble_eq_true rfl, Nat.le_of_ble_eq_true rfl⟩ ⟨Nat.zero_le _, Nat.zero_le _⟩ (g_recv (a := aG) (k := 0) hK hG rfl rfl) hG hS (fun _ h => h.elim) rfl (Nat.le_of_ble_eq_true rfl) dX1_putWorker_11 (fun r3 u H locs h hu _ hq hS => ?_)
    have hG := hG.past hq (fun _ _ h => h)
    refine lv_if_ne (tgt := 20) hx hb dX1_putWorker_14 (by decide) (fun c4 => ?_) (fun c4 => ?_)
    · replace h := h.1 c4
      refine lv_iload_n hx hb dX1_putWorker_20 rfl (lv_at hl 1 rfl) ?_
      refine lv_iload_n hx hb dX1_putWorker_21 rfl (lv_at hl 2 rfl) ?_
      refine g_nI C hK hl.1 (m_X7_glassOf l G x1 x2 _ h) mw_X7_glassOf ms_X7_glassOf nl_X1_79 rfl ⟨rfl, rfl, Nat.le_of_ble_eq_true rfl, Nat.le_of_ble_eq_true rfl⟩ ⟨Nat.zero_le _, Nat.zero_le _⟩ trivial hS (fun _ h => h.elim) rfl (Nat.le_of_ble_eq_true rfl) dX1_putWorker_22 (fun r5 u H locs h hu _ hq hS => ?_)
      have hG := hG.past hq (fun _ _ h => h)
      refine lv_istore (lv' := [(4, .int r5), (0, .ref (aG + 0)), (1, .int x1), (2, .int x2), (3, .int x3)]) hx hb dX1_putWorker_25 hl (by decide) rfl (fun ls hl => ?_)
      refine lv_aload_n hx hb dX1_putWorker_27 rfl (lv_at hl 1 rfl) ?_
      refine lv_iload hx hb dX1_putWorker_28 (lv_at hl 0 rfl) ?_
      refine lv_iload_n hx hb dX1_putWorker_30 rfl (lv_at hl 4 rfl) ?_
      refine g_vI C hK hl.1 (m_X1_canBePut l G aG γ r5 x3 _ h) mw_X1_canBePut mi_X1_canBePut ml_X1_127 rfl ⟨rfl, rfl, Nat.le_of_ble_eq_true rfl, Nat.le_of_ble_eq_true rfl⟩ ⟨Nat.zero_le _, Nat.zero_le _⟩ (g_recv (a := aG) (k := 0) hK hG rfl rfl) hG hS (fun _ h => h.elim) rfl (Nat.le_of_ble_eq_true rfl) dX1_putWorker_31 (fun r6 u H locs h hu _ hq hS => ?_)
      have hG := hG.past hq (fun _ _ h => h)
      refine lv_if_ne (tgt := 40) hx hb dX1_putWorker_34 (by decide) (fun c7 => ?_) (fun c7 => ?_)
      · replace h := h.1 c7
        refine lv_aload_n hx hb dX1_putWorker_40 rfl (lv_at hl 1 rfl) ?_
        refine g_getR (a := aG) (k := 0) (o := 1) C hK hG fl_X1_12 rfl rfl dX1_putWorker_41 ?_
        refine lv_iload_n hx hb dX1_putWorker_44 rfl (lv_at hl 2 rfl) ?_
        refine lv_aload_n hx hb dX1_putWorker_45 rfl (lv_at hl 1 rfl) ?_
        refine g_getR (a := aG) (k := 0) (o := 12) C hK hG fl_X1_28 rfl rfl dX1_putWorker_46 ?_
        refine g_getR (a := aG) (k := 12) (o := 14) C hK hG fl_X1_93 rfl rfl dX1_putWorker_49 ?_
        refine lv_iload_n hx hb dX1_putWorker_52 rfl (lv_at hl 4 rfl) ?_
        obtain ⟨b8, h⟩ := h
        refine g_ald (a := aG) (k := 14) (n := 8) C hK hG rfl b8 dX1_putWorker_53 ?_
        refine g_vV C hK hl.1 (m_X5_pay l G aG γ x1 (γ 14 x3.toNatClampNeg) _ h) mw_X5_pay mi_X5_pay ml_X1_130 rfl ⟨rfl, rfl, Nat.le_of_ble_eq_true rfl, Nat.le_of_ble_eq_true rfl⟩ ⟨Nat.zero_le _, Nat.zero_le _⟩ (g_recv (a := aG) (k := 1) hK hG rfl rfl) hG hS (fun _ h => h) rfl (Nat.le_of_ble_eq_true rfl) dX1_putWorker_54 (fun u H locs h hu _ hq hS => ?_)
        obtain ⟨γ10, rfl⟩ : ∃ z, z = u := ⟨_, rfl⟩
        have hG := hu
        refine lv_aload_n hx hb dX1_putWorker_57 rfl (lv_at hl 1 rfl) ?_
        refine g_getR (a := aG) (k := 0) (o := 4) C hK hG fl_X1_21 rfl rfl dX1_putWorker_58 ?_
        refine lv_iload hx hb dX1_putWorker_61 (lv_at hl 0 rfl) ?_
        refine lv_iload_n hx hb dX1_putWorker_63 rfl (lv_at hl 4 rfl) ?_
        refine g_vV C hK hl.1 (m_X2_start l G aG γ10 r5 x3 _ h) mw_X2_start mi_X2_start ml_X1_134 rfl ⟨rfl, rfl, Nat.le_of_ble_eq_true rfl, Nat.le_of_ble_eq_true rfl⟩ ⟨Nat.zero_le _, Nat.zero_le _⟩ (g_recv (a := aG) (k := 4) hK hG rfl rfl) hG hS (fun _ h => h) rfl (Nat.le_of_ble_eq_true rfl) dX1_putWorker_64 (fun u H locs h hu _ hq hS => ?_)
        obtain ⟨γ12, rfl⟩ : ∃ z, z = u := ⟨_, rfl⟩
        have hG := hu
        refine lv_aload_n hx hb dX1_putWorker_67 rfl (lv_at hl 1 rfl) ?_
        refine lv_iload_n hx hb dX1_putWorker_68 rfl (lv_at hl 4 rfl) ?_
        refine g_vI C hK hl.1 (m_X1_placesLeft l G aG γ12 x3 _ h) mw_X1_placesLeft mi_X1_placesLeft ml_X1_115 rfl ⟨rfl, rfl, Nat.le_of_ble_eq_true rfl, Nat.le_of_ble_eq_true rfl⟩ ⟨Nat.zero_le _, Nat.zero_le _⟩ (g_recv (a := aG) (k := 0) hK hG rfl rfl) hG hS (fun _ h => h.elim) rfl (Nat.le_of_ble_eq_true rfl) dX1_putWorker_69 (fun r13 u H locs h hu _ hq hS => ?_)
        have hG := hG.past hq (fun _ _ h => h)
        exact g_iret (post := Q) (P' := fun u H => rg G LG aG u H) (r := r13) (u := γ12) C hr hK hS h hG dX1_putWorker_72
      · replace h := h.2 c7
        refine g_ldc C kc_X1_86 dX1_putWorker_37 ?_
        exact g_iret (post := Q) (P' := fun u H => rg G LG aG u H) (r := (-1000002)) (u := γ) C hr hK hS h hG dX1_putWorker_39
    · replace h := h.2 c4
      refine g_ldc C kc_X1_78 dX1_putWorker_17 ?_
      exact g_iret (post := Q) (P' := fun u H => rg G LG aG u H) (r := (-1000001)) (u := γ) C hr hK hS h hG dX1_putWorker_19
