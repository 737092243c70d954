theorem dX7_within_0 : decode cX7_within 0 = .ok (.iload_n 0, 1) := by decide +kernel
theorem dX7_within_1 : decode cX7_within 1 = .ok (.iload_n 1, 1) := by decide +kernel
theorem dX7_within_2 : decode cX7_within 2 = .ok (.if_icmp .lt 12, 3) := by decide +kernel
theorem dX7_within_5 : decode cX7_within 5 = .ok (.iload_n 0, 1) := by decide +kernel
theorem dX7_within_6 : decode cX7_within 6 = .ok (.iload_n 2, 1) := by decide +kernel
theorem dX7_within_7 : decode cX7_within 7 = .ok (.if_icmp .gt 7, 3) := by decide +kernel
theorem dX7_within_10 : decode cX7_within 10 = .ok (.iconst 1, 1) := by decide +kernel
theorem dX7_within_11 : decode cX7_within 11 = .ok (.goto 4, 3) := by decide +kernel
theorem dX7_within_14 : decode cX7_within 14 = .ok (.iconst 0, 1) := by decide +kernel
theorem dX7_within_15 : decode cX7_within 15 = .ok (.ireturn, 1) := by decide +kernel
def vc_X7_within (Q : Int32 → Prop) (x0 : Int32) (x1 : Int32) (x2 : Int32) : Prop :=
  ((x0 < x1) → (Q 0 )) ∧ ((¬ x0 < x1) → (((x2 < x0) → (Q 0 )) ∧ ((¬ x2 < x0) → (Q 1 ))))
set_option maxHeartbeats 8000000 in
set_option maxRecDepth 100000 in
theorem m_X7_within (l : Launch) (G : GG) (x0 : Int32) (x1 : Int32) (x2 : Int32) (Q : Int32 → Prop) (h : vc_X7_within Q x0 x1 x2) : CtI l yX7_within cX7_within 3 (some .boolean) { frames := 0, cells := 0, slots := 0, locals := 0 } [.int x0, .int x1, .int x2] G (fun H => True) (fun r (_ : Unit) => Q r) (fun _ _ => True) (fun _ => False) := by
  unfold CtI
  refine met_start (y := yX7_within) (maxL := 3) (av := [.int x0, .int x1, .int x2]) (G := G) (P := fun H => True) (by decide) rfl (Nat.le_of_ble_eq_true rfl) (fun p e s m below meth c ls C hr hP hK hl => ?_)
  obtain ⟨hx, hb, hml, hown, hts, hlocks⟩ := id C
  have hS : va_S (fun _ => False) s.heap s.heap [] := va_S.rf
  have hl : lv_has ls 3 [(0, .int x0), (1, .int x1), (2, .int x2)] := hl
  unfold vc_X7_within at h
  refine lv_iload_n hx hb dX7_within_0 rfl (lv_at hl 0 rfl) ?_
  refine lv_iload_n hx hb dX7_within_1 rfl (lv_at hl 1 rfl) ?_
  refine lv_icmp_lt (tgt := 14) hx hb dX7_within_2 (by decide) (fun c1 => ?_) (fun c1 => ?_)
  · replace h := h.1 c1
    refine lv_iconst (v := 0) hx hb dX7_within_14 (by decide) ?_
    exact g_zret (post := fun r (_ : Unit) => Q r) (P' := fun _ _ => True) (r := 0) (u := ()) C hr hK hS (by rfl) h trivial dX7_within_15
  · replace h := h.2 c1
    refine lv_iload_n hx hb dX7_within_5 rfl (lv_at hl 0 rfl) ?_
    refine lv_iload_n hx hb dX7_within_6 rfl (lv_at hl 2 rfl) ?_
    refine lv_icmp_gt (tgt := 14) hx hb dX7_within_7 (by decide) (fun c2 => ?_) (fun c2 => ?_)
    · replace h := h.1 c2
      refine lv_iconst (v := 0) hx hb dX7_within_14 (by decide) ?_
      exact g_zret (post := fun r (_ : Unit) => Q r) (P' := fun _ _ => True) (r := 0) (u := ()) C hr hK hS (by rfl) h trivial dX7_within_15
    · replace h := h.2 c2
      refine lv_iconst (v := 1) hx hb dX7_within_10 (by decide) ?_
      refine lv_goto (tgt := 15) hx hb dX7_within_11 (by decide) ?_
      exact g_zret (post := fun r (_ : Unit) => Q r) (P' := fun _ _ => True) (r := 1) (u := ()) C hr hK hS (by rfl) h trivial dX7_within_15
theorem dX7_amountIn_0 : decode cX7_amountIn 0 = .ok (.iload_n 1, 1) := by decide +kernel
theorem dX7_amountIn_1 : decode cX7_amountIn 1 = .ok (.lookupswitch 40 #[(0, 27), (1, 32)], 27) := by decide +kernel
theorem dX7_amountIn_28 : decode cX7_amountIn 28 = .ok (.iload_n 0, 1) := by decide +kernel
theorem dX7_amountIn_29 : decode cX7_amountIn 29 = .ok (.bipush 100, 2) := by decide +kernel
theorem dX7_amountIn_31 : decode cX7_amountIn 31 = .ok (.idiv, 1) := by decide +kernel
theorem dX7_amountIn_32 : decode cX7_amountIn 32 = .ok (.ireturn, 1) := by decide +kernel
theorem dX7_amountIn_33 : decode cX7_amountIn 33 = .ok (.iload_n 0, 1) := by decide +kernel
theorem dX7_amountIn_34 : decode cX7_amountIn 34 = .ok (.bipush 10, 2) := by decide +kernel
theorem dX7_amountIn_36 : decode cX7_amountIn 36 = .ok (.idiv, 1) := by decide +kernel
theorem dX7_amountIn_37 : decode cX7_amountIn 37 = .ok (.bipush 10, 2) := by decide +kernel
theorem dX7_amountIn_39 : decode cX7_amountIn 39 = .ok (.irem, 1) := by decide +kernel
theorem dX7_amountIn_40 : decode cX7_amountIn 40 = .ok (.ireturn, 1) := by decide +kernel
theorem dX7_amountIn_41 : decode cX7_amountIn 41 = .ok (.iload_n 0, 1) := by decide +kernel
theorem dX7_amountIn_42 : decode cX7_amountIn 42 = .ok (.bipush 10, 2) := by decide +kernel
theorem dX7_amountIn_44 : decode cX7_amountIn 44 = .ok (.irem, 1) := by decide +kernel
theorem dX7_amountIn_45 : decode cX7_amountIn 45 = .ok (.ireturn, 1) := by decide +kernel
def vc_X7_amountIn (Q : Int32 → Prop) (x0 : Int32) (x1 : Int32) : Prop :=
  ((x1 = 0) → (Q (x0 / 100) )) ∧ ((¬ x1 = 0) → (((x1 = 1) → (Q ((x0 / 10) - (x0 / 10) / 10 * 10) )) ∧ ((¬ x1 = 1) → (Q (x0 - x0 / 10 * 10) ))))
set_option maxHeartbeats 8000000 in
set_option maxRecDepth 100000 in
theorem m_X7_amountIn (l : Launch) (G : GG) (x0 : Int32) (x1 : Int32) (Q : Int32 → Prop) (h : vc_X7_amountIn Q x0 x1) : CtI l yX7_amountIn cX7_amountIn 2 (some .int) { frames := 0, cells := 0, slots := 0, locals := 0 } [.int x0, .int x1] G (fun H => True) (fun r (_ : Unit) => Q r) (fun _ _ => True) (fun _ => False) := by
  unfold CtI
  refine met_start (y := yX7_amountIn) (maxL := 2) (av := [.int x0, .int x1]) (G := G) (P := fun H => True) (by decide) rfl (Nat.le_of_ble_eq_true rfl) (fun p e s m below meth c ls C hr hP hK hl => ?_)
  obtain ⟨hx, hb, hml, hown, hts, hlocks⟩ := id C
  have hS : va_S (fun _ => False) s.heap s.heap [] := va_S.rf
  have hl : lv_has ls 2 [(0, .int x0), (1, .int x1)] := hl
  unfold vc_X7_amountIn at h
  refine lv_iload_n hx hb dX7_amountIn_0 rfl (lv_at hl 1 rfl) ?_
  by_cases c1 : x1 = 0
  · replace h := h.1 c1
    refine lv_lookup (off := 27) (tgt := 28) hx hb dX7_amountIn_1 (by decide) (by rw [c1]; rfl) (by decide) ?_
    refine lv_iload_n hx hb dX7_amountIn_28 rfl (lv_at hl 0 rfl) ?_
    refine lv_bipush (v := 100) hx hb dX7_amountIn_29 (by decide) ?_
    refine lv_idiv hx hb dX7_amountIn_31 (by decide) ?_
    exact g_iret (post := fun r (_ : Unit) => Q r) (P' := fun _ _ => True) (r := (x0 / 100)) (u := ()) C hr hK hS h trivial dX7_amountIn_32
  · replace h := h.2 c1
    by_cases c2 : x1 = 1
    · replace h := h.1 c2
      refine lv_lookup (off := 32) (tgt := 33) hx hb dX7_amountIn_1 (by decide) (by rw [c2]; rfl) (by decide) ?_
      refine lv_iload_n hx hb dX7_amountIn_33 rfl (lv_at hl 0 rfl) ?_
      refine lv_bipush (v := 10) hx hb dX7_amountIn_34 (by decide) ?_
      refine lv_idiv hx hb dX7_amountIn_36 (by decide) ?_
      refine lv_bipush (v := 10) hx hb dX7_amountIn_37 (by decide) ?_
      refine lv_irem hx hb dX7_amountIn_39 (by decide) ?_
      exact g_iret (post := fun r (_ : Unit) => Q r) (P' := fun _ _ => True) (r := ((x0 / 10) - (x0 / 10) / 10 * 10)) (u := ()) C hr hK hS h trivial dX7_amountIn_40
    · replace h := h.2 c2
      refine lv_lookup (off := 40) (tgt := 41) hx hb dX7_amountIn_1 (by decide) (by simp only [List.toList_toArray]; rw [lv_osw c1 (by rfl), lv_osw c2 (by rfl)]; rfl) (by decide) ?_
      refine lv_iload_n hx hb dX7_amountIn_41 rfl (lv_at hl 0 rfl) ?_
      refine lv_bipush (v := 10) hx hb dX7_amountIn_42 (by decide) ?_
      refine lv_irem hx hb dX7_amountIn_44 (by decide) ?_
      exact g_iret (post := fun r (_ : Unit) => Q r) (P' := fun _ _ => True) (r := (x0 - x0 / 10 * 10)) (u := ()) C hr hK hS h trivial dX7_amountIn_45
theorem dX7_allAmountsIn_0 : decode cX7_allAmountsIn 0 = .ok (.iload_n 0, 1) := by decide +kernel
theorem dX7_allAmountsIn_1 : decode cX7_allAmountsIn 1 = .ok (.iconst 0, 1) := by decide +kernel
theorem dX7_allAmountsIn_2 : decode cX7_allAmountsIn 2 = .ok (.invokestatic 265, 3) := by decide +kernel
theorem dX7_allAmountsIn_5 : decode cX7_allAmountsIn 5 = .ok (.iload_n 0, 1) := by decide +kernel
theorem dX7_allAmountsIn_6 : decode cX7_allAmountsIn 6 = .ok (.iconst 1, 1) := by decide +kernel
theorem dX7_allAmountsIn_7 : decode cX7_allAmountsIn 7 = .ok (.invokestatic 265, 3) := by decide +kernel
theorem dX7_allAmountsIn_10 : decode cX7_allAmountsIn 10 = .ok (.iadd, 1) := by decide +kernel
theorem dX7_allAmountsIn_11 : decode cX7_allAmountsIn 11 = .ok (.iload_n 0, 1) := by decide +kernel
theorem dX7_allAmountsIn_12 : decode cX7_allAmountsIn 12 = .ok (.iconst 2, 1) := by decide +kernel
theorem dX7_allAmountsIn_13 : decode cX7_allAmountsIn 13 = .ok (.invokestatic 265, 3) := by decide +kernel
theorem dX7_allAmountsIn_16 : decode cX7_allAmountsIn 16 = .ok (.iadd, 1) := by decide +kernel
theorem dX7_allAmountsIn_17 : decode cX7_allAmountsIn 17 = .ok (.ireturn, 1) := by decide +kernel
def vc_X7_allAmountsIn (Q : Int32 → Prop) (x0 : Int32) : Prop :=
  vc_X7_amountIn (fun r1 => vc_X7_amountIn (fun r2 => vc_X7_amountIn (fun r3 => Q ((r1 + r2) + r3) ) x0 2) x0 1) x0 0
set_option maxHeartbeats 8000000 in
set_option maxRecDepth 100000 in
theorem m_X7_allAmountsIn (l : Launch) (G : GG) (x0 : Int32) (Q : Int32 → Prop) (h : vc_X7_allAmountsIn Q x0) : CtI l yX7_allAmountsIn cX7_allAmountsIn 1 (some .int) { frames := 1, cells := 0, slots := 0, locals := 21 } [.int x0] G (fun H => True) (fun r (_ : Unit) => Q r) (fun _ _ => True) (fun _ => False) := by
  unfold CtI
  refine met_start (y := yX7_allAmountsIn) (maxL := 1) (av := [.int x0]) (G := G) (P := fun H => True) (by decide) rfl (Nat.le_of_ble_eq_true rfl) (fun p e s m below meth c ls C hr hP hK hl => ?_)
  obtain ⟨hx, hb, hml, hown, hts, hlocks⟩ := id C
  have hS : va_S (fun _ => False) s.heap s.heap [] := va_S.rf
  have hl : lv_has ls 1 [(0, .int x0)] := hl
  unfold vc_X7_allAmountsIn at h
  refine lv_iload_n hx hb dX7_allAmountsIn_0 rfl (lv_at hl 0 rfl) ?_
  refine lv_iconst (v := 0) hx hb dX7_allAmountsIn_1 (by decide) ?_
  refine g_sI C hK hl.1 (m_X7_amountIn l G x0 0 _ h) mw_X7_amountIn ms_X7_amountIn ml_X7_265 rfl ⟨rfl, rfl, Nat.le_of_ble_eq_true rfl, Nat.le_of_ble_eq_true rfl⟩ ⟨Nat.zero_le _, Nat.zero_le _⟩ trivial hS (fun _ h => h.elim) rfl (Nat.le_of_ble_eq_true rfl) dX7_allAmountsIn_2 (fun r1 u H locs h hu _ hq hS => ?_)
  refine lv_iload_n hx hb dX7_allAmountsIn_5 rfl (lv_at hl 0 rfl) ?_
  refine lv_iconst (v := 1) hx hb dX7_allAmountsIn_6 (by decide) ?_
  refine g_sI C hK hl.1 (m_X7_amountIn l G x0 1 _ h) mw_X7_amountIn ms_X7_amountIn ml_X7_265 rfl ⟨rfl, rfl, Nat.le_of_ble_eq_true rfl, Nat.le_of_ble_eq_true rfl⟩ ⟨Nat.zero_le _, Nat.zero_le _⟩ trivial hS (fun _ h => h.elim) rfl (Nat.le_of_ble_eq_true rfl) dX7_allAmountsIn_7 (fun r2 u H locs h hu _ hq hS => ?_)
  refine lv_iadd hx hb dX7_allAmountsIn_10 ?_
  refine lv_iload_n hx hb dX7_allAmountsIn_11 rfl (lv_at hl 0 rfl) ?_
  refine lv_iconst (v := 2) hx hb dX7_allAmountsIn_12 (by decide) ?_
  refine g_sI C hK hl.1 (m_X7_amountIn l G x0 2 _ h) mw_X7_amountIn ms_X7_amountIn ml_X7_265 rfl ⟨rfl, rfl, Nat.le_of_ble_eq_true rfl, Nat.le_of_ble_eq_true rfl⟩ ⟨Nat.zero_le _, Nat.zero_le _⟩ trivial hS (fun _ h => h.elim) rfl (Nat.le_of_ble_eq_true rfl) dX7_allAmountsIn_13 (fun r3 u H locs h hu _ hq hS => ?_)
  refine lv_iadd hx hb dX7_allAmountsIn_16 ?_
  exact g_iret (post := fun r (_ : Unit) => Q r) (P' := fun _ _ => True) (r := ((r1 + r2) + r3)) (u := ()) C hr hK hS h trivial dX7_allAmountsIn_17
theorem dX7_glassOf_0 : decode cX7_glassOf 0 = .ok (.iconst 3, 1) := by decide +kernel
theorem dX7_glassOf_1 : decode cX7_glassOf 1 = .ok (.iload_n 0, 1) := by decide +kernel
theorem dX7_glassOf_2 : decode cX7_glassOf 2 = .ok (.imul, 1) := by decide +kernel
theorem dX7_glassOf_3 : decode cX7_glassOf 3 = .ok (.iload_n 1, 1) := by decide +kernel
theorem dX7_glassOf_4 : decode cX7_glassOf 4 = .ok (.iadd, 1) := by decide +kernel
theorem dX7_glassOf_5 : decode cX7_glassOf 5 = .ok (.ireturn, 1) := by decide +kernel
def vc_X7_glassOf (Q : Int32 → Prop) (x0 : Int32) (x1 : Int32) : Prop :=
  Q ((3 * x0) + x1) 
set_option maxHeartbeats 8000000 in
set_option maxRecDepth 100000 in
theorem m_X7_glassOf (l : Launch) (G : GG) (x0 : Int32) (x1 : Int32) (Q : Int32 → Prop) (h : vc_X7_glassOf Q x0 x1) : CtI l yX7_glassOf cX7_glassOf 2 (some .int) { frames := 0, cells := 0, slots := 0, locals := 0 } [.int x0, .int x1] G (fun H => True) (fun r (_ : Unit) => Q r) (fun _ _ => True) (fun _ => False) := by
  unfold CtI
  refine met_start (y := yX7_glassOf) (maxL := 2) (av := [.int x0, .int x1]) (G := G) (P := fun H => True) (by decide) rfl (Nat.le_of_ble_eq_true rfl) (fun p e s m below meth c ls C hr hP hK hl => ?_)
  obtain ⟨hx, hb, hml, hown, hts, hlocks⟩ := id C
  have hS : va_S (fun _ => False) s.heap s.heap [] := va_S.rf
  have hl : lv_has ls 2 [(0, .int x0), (1, .int x1)] := hl
  unfold vc_X7_glassOf at h
  refine lv_iconst (v := 3) hx hb dX7_glassOf_0 (by decide) ?_
  refine lv_iload_n hx hb dX7_glassOf_1 rfl (lv_at hl 0 rfl) ?_
  refine lv_imul hx hb dX7_glassOf_2 ?_
  refine lv_iload_n hx hb dX7_glassOf_3 rfl (lv_at hl 1 rfl) ?_
  refine lv_iadd hx hb dX7_glassOf_4 ?_
  exact g_iret (post := fun r (_ : Unit) => Q r) (P' := fun _ _ => True) (r := ((3 * x0) + x1)) (u := ()) C hr hK hS h trivial dX7_glassOf_5
theorem dX7_playerWith_0 : decode cX7_playerWith 0 = .ok (.iload_n 0, 1) := by decide +kernel
theorem dX7_playerWith_1 : decode cX7_playerWith 1 = .ok (.iconst 3, 1) := by decide +kernel
theorem dX7_playerWith_2 : decode cX7_playerWith 2 = .ok (.idiv, 1) := by decide +kernel
theorem dX7_playerWith_3 : decode cX7_playerWith 3 = .ok (.ireturn, 1) := by decide +kernel
def vc_X7_playerWith (Q : Int32 → Prop) (x0 : Int32) : Prop :=
  Q (x0 / 3) 
set_option maxHeartbeats 8000000 in
set_option maxRecDepth 100000 in
theorem m_X7_playerWith (l : Launch) (G : GG) (x0 : Int32) (Q : Int32 → Prop) (h : vc_X7_playerWith Q x0) : CtI l yX7_playerWith cX7_playerWith 1 (some .int) { frames := 0, cells := 0, slots := 0, locals := 0 } [.int x0] G (fun H => True) (fun r (_ : Unit) => Q r) (fun _ _ => True) (fun _ => False) := by
  unfold CtI
  refine met_start (y := yX7_playerWith) (maxL := 1) (av := [.int x0]) (G := G) (P := fun H => True) (by decide) rfl (Nat.le_of_ble_eq_true rfl) (fun p e s m below meth c ls C hr hP hK hl => ?_)
  obtain ⟨hx, hb, hml, hown, hts, hlocks⟩ := id C
  have hS : va_S (fun _ => False) s.heap s.heap [] := va_S.rf
  have hl : lv_has ls 1 [(0, .int x0)] := hl
  unfold vc_X7_playerWith at h
  refine lv_iload_n hx hb dX7_playerWith_0 rfl (lv_at hl 0 rfl) ?_
  refine lv_iconst (v := 3) hx hb dX7_playerWith_1 (by decide) ?_
  refine lv_idiv hx hb dX7_playerWith_2 (by decide) ?_
  exact g_iret (post := fun r (_ : Unit) => Q r) (P' := fun _ _ => True) (r := (x0 / 3)) (u := ()) C hr hK hS h trivial dX7_playerWith_3
theorem dX7_toldOf_0 : decode cX7_toldOf 0 = .ok (.bipush 10, 2) := by decide +kernel
theorem dX7_toldOf_2 : decode cX7_toldOf 2 = .ok (.iload_n 0, 1) := by decide +kernel
theorem dX7_toldOf_3 : decode cX7_toldOf 3 = .ok (.invokestatic 268, 3) := by decide +kernel
theorem dX7_toldOf_6 : decode cX7_toldOf 6 = .ok (.imul, 1) := by decide +kernel
theorem dX7_toldOf_7 : decode cX7_toldOf 7 = .ok (.iload_n 0, 1) := by decide +kernel
theorem dX7_toldOf_8 : decode cX7_toldOf 8 = .ok (.iconst 3, 1) := by decide +kernel
theorem dX7_toldOf_9 : decode cX7_toldOf 9 = .ok (.irem, 1) := by decide +kernel
theorem dX7_toldOf_10 : decode cX7_toldOf 10 = .ok (.iadd, 1) := by decide +kernel
theorem dX7_toldOf_11 : decode cX7_toldOf 11 = .ok (.ireturn, 1) := by decide +kernel
def vc_X7_toldOf (Q : Int32 → Prop) (x0 : Int32) : Prop :=
  vc_X7_playerWith (fun r1 => Q ((10 * r1) + (x0 - x0 / 3 * 3)) ) x0
set_option maxHeartbeats 8000000 in
set_option maxRecDepth 100000 in
theorem m_X7_toldOf (l : Launch) (G : GG) (x0 : Int32) (Q : Int32 → Prop) (h : vc_X7_toldOf Q x0) : CtI l yX7_toldOf cX7_toldOf 1 (some .int) { frames := 1, cells := 0, slots := 0, locals := 20 } [.int x0] G (fun H => True) (fun r (_ : Unit) => Q r) (fun _ _ => True) (fun _ => False) := by
  unfold CtI
  refine met_start (y := yX7_toldOf) (maxL := 1) (av := [.int x0]) (G := G) (P := fun H => True) (by decide) rfl (Nat.le_of_ble_eq_true rfl) (fun p e s m below meth c ls C hr hP hK hl => ?_)
  obtain ⟨hx, hb, hml, hown, hts, hlocks⟩ := id C
  have hS : va_S (fun _ => False) s.heap s.heap [] := va_S.rf
  have hl : lv_has ls 1 [(0, .int x0)] := hl
  unfold vc_X7_toldOf at h
  refine lv_bipush (v := 10) hx hb dX7_toldOf_0 (by decide) ?_
  refine lv_iload_n hx hb dX7_toldOf_2 rfl (lv_at hl 0 rfl) ?_
  refine g_sI C hK hl.1 (m_X7_playerWith l G x0 _ h) mw_X7_playerWith ms_X7_playerWith ml_X7_268 rfl ⟨rfl, rfl, Nat.le_of_ble_eq_true rfl, Nat.le_of_ble_eq_true rfl⟩ ⟨Nat.zero_le _, Nat.zero_le _⟩ trivial hS (fun _ h => h.elim) rfl (Nat.le_of_ble_eq_true rfl) dX7_toldOf_3 (fun r1 u H locs h hu _ hq hS => ?_)
  refine lv_imul hx hb dX7_toldOf_6 ?_
  refine lv_iload_n hx hb dX7_toldOf_7 rfl (lv_at hl 0 rfl) ?_
  refine lv_iconst (v := 3) hx hb dX7_toldOf_8 (by decide) ?_
  refine lv_irem hx hb dX7_toldOf_9 (by decide) ?_
  refine lv_iadd hx hb dX7_toldOf_10 ?_
  exact g_iret (post := fun r (_ : Unit) => Q r) (P' := fun _ _ => True) (r := ((10 * r1) + (x0 - x0 / 3 * 3))) (u := ()) C hr hK hS h trivial dX7_toldOf_11
theorem dX5_amountOf_0 : decode cX5_amountOf 0 = .ok (.aload_n 0, 1) := by decide +kernel
theorem dX5_amountOf_1 : decode cX5_amountOf 1 = .ok (.getfield 9, 3) := by decide +kernel
theorem dX5_amountOf_4 : decode cX5_amountOf 4 = .ok (.iconst 3, 1) := by decide +kernel
theorem dX5_amountOf_5 : decode cX5_amountOf 5 = .ok (.iload_n 1, 1) := by decide +kernel
theorem dX5_amountOf_6 : decode cX5_amountOf 6 = .ok (.imul, 1) := by decide +kernel
theorem dX5_amountOf_7 : decode cX5_amountOf 7 = .ok (.iload_n 2, 1) := by decide +kernel
theorem dX5_amountOf_8 : decode cX5_amountOf 8 = .ok (.iadd, 1) := by decide +kernel
theorem dX5_amountOf_9 : decode cX5_amountOf 9 = .ok (.iaload, 1) := by decide +kernel
theorem dX5_amountOf_10 : decode cX5_amountOf 10 = .ok (.ireturn, 1) := by decide +kernel
def vc_X5_amountOf (Q : Int32 → Prop) (γ : Mem) (x1 : Int32) (x2 : Int32) : Prop :=
  vp_in ((3 * x1) + x2) 12 ∧ (Q (γ 2 ((3 * x1) + x2).toNatClampNeg) )
set_option maxHeartbeats 8000000 in
set_option maxRecDepth 100000 in
theorem m_X5_amountOf (l : Launch) (G : GG) (aG : Nat) (γ : Mem) (x1 : Int32) (x2 : Int32) (Q : Int32 → Prop) (h : vc_X5_amountOf Q γ x1 x2) : CtI l yX5_amountOf cX5_amountOf 3 (some .int) { frames := 0, cells := 0, slots := 0, locals := 0 } [.ref (aG + 1), .int x1, .int x2] G (fun H => rg G LG aG γ H) (fun r (_ : Unit) => Q r) (fun _ _ => True) (fun _ => False) := by
  unfold CtI
  refine met_start (y := yX5_amountOf) (maxL := 3) (av := [.ref (aG + 1), .int x1, .int x2]) (G := G) (P := fun H => rg G LG aG γ H) (by decide) rfl (Nat.le_of_ble_eq_true rfl) (fun p e s m below meth c ls C hr hP hK hl => ?_)
  obtain ⟨hx, hb, hml, hown, hts, hlocks⟩ := id C
  have hG : rg G LG aG γ s.heap := hP
  have hS : va_S (fun _ => False) s.heap s.heap [] := va_S.rf
  have hl : lv_has ls 3 [(0, .ref (aG + 1)), (1, .int x1), (2, .int x2)] := hl
  unfold vc_X5_amountOf at h
  refine lv_aload_n hx hb dX5_amountOf_0 rfl (lv_at hl 0 rfl) ?_
  refine g_getR (a := aG) (k := 1) (o := 2) C hK hG fl_X5_9 rfl rfl dX5_amountOf_1 ?_
  refine lv_iconst (v := 3) hx hb dX5_amountOf_4 (by decide) ?_
  refine lv_iload_n hx hb dX5_amountOf_5 rfl (lv_at hl 1 rfl) ?_
  refine lv_imul hx hb dX5_amountOf_6 ?_
  refine lv_iload_n hx hb dX5_amountOf_7 rfl (lv_at hl 2 rfl) ?_
  refine lv_iadd hx hb dX5_amountOf_8 ?_
  obtain ⟨b1, h⟩ := h
  refine g_ald (a := aG) (k := 2) (n := 12) C hK hG rfl b1 dX5_amountOf_9 ?_
  exact g_iret (post := fun r (_ : Unit) => Q r) (P' := fun _ _ => True) (r := (γ 2 ((3 * x1) + x2).toNatClampNeg)) (u := ()) C hr hK hS h trivial dX5_amountOf_10
theorem dX5_have_0 : decode cX5_have 0 = .ok (.iconst 0, 1) := by decide +kernel
theorem dX5_have_1 : decode cX5_have 1 = .ok (.istore_n 3, 1) := by decide +kernel
theorem dX5_have_2 : decode cX5_have 2 = .ok (.iload_n 3, 1) := by decide +kernel
theorem dX5_have_3 : decode cX5_have 3 = .ok (.iconst 3, 1) := by decide +kernel
theorem dX5_have_4 : decode cX5_have 4 = .ok (.if_icmp .ge 25, 3) := by decide +kernel
theorem dX5_have_7 : decode cX5_have 7 = .ok (.aload_n 0, 1) := by decide +kernel
theorem dX5_have_8 : decode cX5_have 8 = .ok (.iload_n 1, 1) := by decide +kernel
theorem dX5_have_9 : decode cX5_have 9 = .ok (.iload_n 3, 1) := by decide +kernel
theorem dX5_have_10 : decode cX5_have 10 = .ok (.invokevirtual 29, 3) := by decide +kernel
theorem dX5_have_13 : decode cX5_have 13 = .ok (.iload_n 2, 1) := by decide +kernel
theorem dX5_have_14 : decode cX5_have 14 = .ok (.iload_n 3, 1) := by decide +kernel
theorem dX5_have_15 : decode cX5_have 15 = .ok (.invokestatic 33, 3) := by decide +kernel
theorem dX5_have_18 : decode cX5_have 18 = .ok (.if_icmp .ge 5, 3) := by decide +kernel
theorem dX5_have_21 : decode cX5_have 21 = .ok (.iconst 0, 1) := by decide +kernel
theorem dX5_have_22 : decode cX5_have 22 = .ok (.ireturn, 1) := by decide +kernel
theorem dX5_have_23 : decode cX5_have 23 = .ok (.iinc 3 1, 3) := by decide +kernel
theorem dX5_have_26 : decode cX5_have 26 = .ok (.goto (-24), 3) := by decide +kernel
theorem dX5_have_29 : decode cX5_have 29 = .ok (.iconst 1, 1) := by decide +kernel
theorem dX5_have_30 : decode cX5_have 30 = .ok (.ireturn, 1) := by decide +kernel
def vb_X5_have_2 (Q : Int32 → Prop) (γ : Mem) (rec : Nat → Int32 → Int32 → Int32 → Prop) (w1 : Int32) (w2 : Int32) (w3 : Int32) : Prop :=
  ((3 ≤ w3) → (Q 1 )) ∧ ((¬ 3 ≤ w3) → (vc_X5_amountOf (fun r2 => vc_X7_amountIn (fun r3 => ((r3 ≤ r2) → (∀ v5 : Int32, v5 = w3 + 1 → (rec 0 w1 w2 v5))) ∧ ((¬ r3 ≤ r2) → (Q 0 ))) w2 w3) γ w1 w3))
def vl_X5_have (Q : Int32 → Prop) (γ : Mem) : Nat → Nat → Int32 → Int32 → Int32 → Prop
  | 0, _, _, _, _ => False
  | n + 1, 0, w1, w2, w3 => vb_X5_have_2 Q γ (vl_X5_have Q γ n) w1 w2 w3
  | _ + 1, _, _, _, _ => False
def vc_X5_have (Q : Int32 → Prop) (γ : Mem) (x1 : Int32) (x2 : Int32) : Prop :=
  ∃ n : Nat, vl_X5_have Q γ n 0 x1 x2 0
set_option maxHeartbeats 8000000 in
set_option maxRecDepth 100000 in
theorem m_X5_have (l : Launch) (G : GG) (aG : Nat) (γ : Mem) (x1 : Int32) (x2 : Int32) (Q : Int32 → Prop) (h : vc_X5_have Q γ x1 x2) : CtI l yX5_have cX5_have 4 (some .boolean) { frames := 1, cells := 0, slots := 0, locals := 22 } [.ref (aG + 1), .int x1, .int x2] G (fun H => rg G LG aG γ H) (fun r (_ : Unit) => Q r) (fun _ _ => True) (fun _ => False) := by
  unfold CtI
  refine met_start (y := yX5_have) (maxL := 4) (av := [.ref (aG + 1), .int x1, .int x2]) (G := G) (P := fun H => rg G LG aG γ H) (by decide) rfl (Nat.le_of_ble_eq_true rfl) (fun p e s m below meth c ls C hr hP hK hl => ?_)
  obtain ⟨hx, hb, hml, hown, hts, hlocks⟩ := id C
  have hG : rg G LG aG γ s.heap := hP
  have hS : va_S (fun _ => False) s.heap s.heap [] := va_S.rf
  have hl : lv_has ls 4 [(0, .ref (aG + 1)), (1, .int x1), (2, .int x2)] := hl
  have K : ∀ n : Nat, (∀ (w1 : Int32) (w2 : Int32) (w3 : Int32) (H : Heap) (locs : List Loc) (ls : Array Slot), rg G LG aG γ H → va_S (fun _ => False) s.heap H locs → lv_has ls 4 [(0, .ref (aG + 1)), (1, .int w1), (2, .int w2), (3, .int w3)] → vl_X5_have Q γ n 0 w1 w2 w3 → W p l e { frames := 1, cells := 0, slots := 0, locals := 22 } s m [.ref (aG + 1), .int x1, .int x2].toArray below meth c H locs 0 0 (MQ below (va_Qi (fun r (_ : Unit) => Q r) (fun u t => (fun _ _ => True) u t.heap ∧ KK G t) (fun _ => False)) [.ref (aG + 1), .int x1, .int x2].toArray s 0 0 (fun _ => False)) (F0 m 2 ls [])) := by
    intro n
    induction n with
    | zero => exact fun _ _ _ _ _ _ _ _ _ h => h.elim
    | succ n ih =>
      · intro w1 w2 w3 H locs ls hG hS hl h
        replace h : vb_X5_have_2 Q γ (vl_X5_have Q γ n) w1 w2 w3 := h
        unfold vb_X5_have_2 at h
        refine lv_iload_n hx hb dX5_have_2 rfl (lv_at hl 3 rfl) ?_
        refine lv_iconst (v := 3) hx hb dX5_have_3 (by decide) ?_
        refine lv_icmp_ge (tgt := 29) hx hb dX5_have_4 (by decide) (fun c1 => ?_) (fun c1 => ?_)
        · replace h := h.1 c1
          refine lv_iconst (v := 1) hx hb dX5_have_29 (by decide) ?_
          exact g_zret (post := fun r (_ : Unit) => Q r) (P' := fun _ _ => True) (r := 1) (u := ()) C hr hK hS (by rfl) h trivial dX5_have_30
        · replace h := h.2 c1
          refine lv_aload_n hx hb dX5_have_7 rfl (lv_at hl 0 rfl) ?_
          refine lv_iload_n hx hb dX5_have_8 rfl (lv_at hl 1 rfl) ?_
          refine lv_iload_n hx hb dX5_have_9 rfl (lv_at hl 3 rfl) ?_
          refine g_vI C hK hl.1 (m_X5_amountOf l G aG γ w1 w3 _ h) mw_X5_amountOf mi_X5_amountOf ml_X5_29 rfl ⟨rfl, rfl, Nat.le_of_ble_eq_true rfl, Nat.le_of_ble_eq_true rfl⟩ ⟨Nat.zero_le _, Nat.zero_le _⟩ (g_recv (a := aG) (k := 1) hK hG rfl rfl) hG hS (fun _ h => h.elim) rfl (Nat.le_of_ble_eq_true rfl) dX5_have_10 (fun r2 u H locs h hu _ hq hS => ?_)
          have hG := hG.past hq (fun _ _ h => h)
          refine lv_iload_n hx hb dX5_have_13 rfl (lv_at hl 2 rfl) ?_
          refine lv_iload_n hx hb dX5_have_14 rfl (lv_at hl 3 rfl) ?_
          refine g_nI C hK hl.1 (m_X7_amountIn l G w2 w3 _ h) mw_X7_amountIn ms_X7_amountIn nl_X5_33 rfl ⟨rfl, rfl, Nat.le_of_ble_eq_true rfl, Nat.le_of_ble_eq_true rfl⟩ ⟨Nat.zero_le _, Nat.zero_le _⟩ trivial hS (fun _ h => h.elim) rfl (Nat.le_of_ble_eq_true rfl) dX5_have_15 (fun r3 u H locs h hu _ hq hS => ?_)
          have hG := hG.past hq (fun _ _ h => h)
          refine lv_icmp_ge (tgt := 23) hx hb dX5_have_18 (by decide) (fun c4 => ?_) (fun c4 => ?_)
          · replace h := h.1 c4
            obtain ⟨v5, ev5⟩ : ∃ y : Int32, y = w3 + 1 := ⟨_, rfl⟩
            specialize h v5 ev5
            refine lv_iinc (v := v5) (lv' := [(3, .int v5), (0, .ref (aG + 1)), (1, .int w1), (2, .int w2)]) hx hb dX5_have_23 hl (k := 3) rfl (by rw [ev5]; rfl) (by decide) rfl (fun ls hl => ?_)
            refine lv_goto (tgt := 2) hx hb dX5_have_26 (by decide) ?_
            exact (ih) w1 w2 v5 _ _ _ hG hS (lv_sub hl [1, 2, 3, 0] rfl) h
          · replace h := h.2 c4
            refine lv_iconst (v := 0) hx hb dX5_have_21 (by decide) ?_
            exact g_zret (post := fun r (_ : Unit) => Q r) (P' := fun _ _ => True) (r := 0) (u := ()) C hr hK hS (by rfl) h trivial dX5_have_22
  unfold vc_X5_have at h
  obtain ⟨n, h⟩ := h
  refine lv_iconst (v := 0) hx hb dX5_have_0 (by decide) ?_
  refine lv_istore_n (lv' := [(3, .int 0), (0, .ref (aG + 1)), (1, .int x1), (2, .int x2)]) hx hb dX5_have_1 rfl hl (by decide) rfl (fun ls hl => ?_)
  exact ((K n)) x1 x2 0 _ _ _ hG hS (lv_sub hl [1, 2, 3, 0] rfl) h
theorem dX5_allWhoHave_0 : decode cX5_allWhoHave 0 = .ok (.iconst 0, 1) := by decide +kernel
theorem dX5_allWhoHave_1 : decode cX5_allWhoHave 1 = .ok (.istore_n 2, 1) := by decide +kernel
theorem dX5_allWhoHave_2 : decode cX5_allWhoHave 2 = .ok (.iconst 0, 1) := by decide +kernel
theorem dX5_allWhoHave_3 : decode cX5_allWhoHave 3 = .ok (.istore_n 3, 1) := by decide +kernel
theorem dX5_allWhoHave_4 : decode cX5_allWhoHave 4 = .ok (.iload_n 3, 1) := by decide +kernel
theorem dX5_allWhoHave_5 : decode cX5_allWhoHave 5 = .ok (.aload_n 0, 1) := by decide +kernel
theorem dX5_allWhoHave_6 : decode cX5_allWhoHave 6 = .ok (.getfield 18, 3) := by decide +kernel
theorem dX5_allWhoHave_9 : decode cX5_allWhoHave 9 = .ok (.if_icmp .ge 29, 3) := by decide +kernel
theorem dX5_allWhoHave_12 : decode cX5_allWhoHave 12 = .ok (.iload_n 3, 1) := by decide +kernel
theorem dX5_allWhoHave_13 : decode cX5_allWhoHave 13 = .ok (.iconst 4, 1) := by decide +kernel
theorem dX5_allWhoHave_14 : decode cX5_allWhoHave 14 = .ok (.if_icmp .ge 24, 3) := by decide +kernel
theorem dX5_allWhoHave_17 : decode cX5_allWhoHave 17 = .ok (.aload_n 0, 1) := by decide +kernel
theorem dX5_allWhoHave_18 : decode cX5_allWhoHave 18 = .ok (.iload_n 3, 1) := by decide +kernel
theorem dX5_allWhoHave_19 : decode cX5_allWhoHave 19 = .ok (.iload_n 1, 1) := by decide +kernel
theorem dX5_allWhoHave_20 : decode cX5_allWhoHave 20 = .ok (.invokevirtual 36, 3) := by decide +kernel
theorem dX5_allWhoHave_23 : decode cX5_allWhoHave 23 = .ok (.ifCond .eq 9, 3) := by decide +kernel
theorem dX5_allWhoHave_26 : decode cX5_allWhoHave 26 = .ok (.iload_n 2, 1) := by decide +kernel
theorem dX5_allWhoHave_27 : decode cX5_allWhoHave 27 = .ok (.iconst 1, 1) := by decide +kernel
theorem dX5_allWhoHave_28 : decode cX5_allWhoHave 28 = .ok (.iload_n 3, 1) := by decide +kernel
theorem dX5_allWhoHave_29 : decode cX5_allWhoHave 29 = .ok (.ishl, 1) := by decide +kernel
theorem dX5_allWhoHave_30 : decode cX5_allWhoHave 30 = .ok (.ior, 1) := by decide +kernel
theorem dX5_allWhoHave_31 : decode cX5_allWhoHave 31 = .ok (.istore_n 2, 1) := by decide +kernel
theorem dX5_allWhoHave_32 : decode cX5_allWhoHave 32 = .ok (.iinc 3 1, 3) := by decide +kernel
theorem dX5_allWhoHave_35 : decode cX5_allWhoHave 35 = .ok (.goto (-31), 3) := by decide +kernel
theorem dX5_allWhoHave_38 : decode cX5_allWhoHave 38 = .ok (.iload_n 2, 1) := by decide +kernel
theorem dX5_allWhoHave_39 : decode cX5_allWhoHave 39 = .ok (.ireturn, 1) := by decide +kernel
def vb_X5_allWhoHave_4 (Q : Int32 → Prop) (γ : Mem) (rec : Nat → Int32 → Int32 → Int32 → Prop) (w1 : Int32) (w2 : Int32) (w3 : Int32) : Prop :=
  (((γ 1 0) ≤ w3) → (Q w2 )) ∧ ((¬ (γ 1 0) ≤ w3) → (((4 ≤ w3) → (Q w2 )) ∧ ((¬ 4 ≤ w3) → (vc_X5_have (fun r3 => ((r3 = 0) → (∀ v5 : Int32, v5 = w3 + 1 → (rec 0 w1 w2 v5))) ∧ ((¬ r3 = 0) → (∀ v6 : Int32, v6 = (w2 ||| (1 <<< (w3 &&& 31))) → (∀ v7 : Int32, v7 = w3 + 1 → (rec 0 w1 v6 v7))))) γ w3 w1))))
def vl_X5_allWhoHave (Q : Int32 → Prop) (γ : Mem) : Nat → Nat → Int32 → Int32 → Int32 → Prop
  | 0, _, _, _, _ => False
  | n + 1, 0, w1, w2, w3 => vb_X5_allWhoHave_4 Q γ (vl_X5_allWhoHave Q γ n) w1 w2 w3
  | _ + 1, _, _, _, _ => False
def vc_X5_allWhoHave (Q : Int32 → Prop) (γ : Mem) (x1 : Int32) : Prop :=
  ∃ n : Nat, vl_X5_allWhoHave Q γ n 0 x1 0 0
set_option maxHeartbeats 8000000 in
set_option maxRecDepth 100000 in
theorem m_X5_allWhoHave (l : Launch) (G : GG) (aG : Nat) (γ : Mem) (x1 : Int32) (Q : Int32 → Prop) (h : vc_X5_allWhoHave Q γ x1) : CtI l yX5_allWhoHave cX5_allWhoHave 4 (some .int) { frames := 2, cells := 0, slots := 0, locals := 45 } [.ref (aG + 1), .int x1] G (fun H => rg G LG aG γ H) (fun r (_ : Unit) => Q r) (fun _ _ => True) (fun _ => False) := by
  unfold CtI
  refine met_start (y := yX5_allWhoHave) (maxL := 4) (av := [.ref (aG + 1), .int x1]) (G := G) (P := fun H => rg G LG aG γ H) (by decide) rfl (Nat.le_of_ble_eq_true rfl) (fun p e s m below meth c ls C hr hP hK hl => ?_)
  obtain ⟨hx, hb, hml, hown, hts, hlocks⟩ := id C
  have hG : rg G LG aG γ s.heap := hP
  have hS : va_S (fun _ => False) s.heap s.heap [] := va_S.rf
  have hl : lv_has ls 4 [(0, .ref (aG + 1)), (1, .int x1)] := hl
  have K : ∀ n : Nat, (∀ (w1 : Int32) (w2 : Int32) (w3 : Int32) (H : Heap) (locs : List Loc) (ls : Array Slot), rg G LG aG γ H → va_S (fun _ => False) s.heap H locs → lv_has ls 4 [(0, .ref (aG + 1)), (1, .int w1), (2, .int w2), (3, .int w3)] → vl_X5_allWhoHave Q γ n 0 w1 w2 w3 → W p l e { frames := 2, cells := 0, slots := 0, locals := 45 } s m [.ref (aG + 1), .int x1].toArray below meth c H locs 0 0 (MQ below (va_Qi (fun r (_ : Unit) => Q r) (fun u t => (fun _ _ => True) u t.heap ∧ KK G t) (fun _ => False)) [.ref (aG + 1), .int x1].toArray s 0 0 (fun _ => False)) (F0 m 4 ls [])) := by
    intro n
    induction n with
    | zero => exact fun _ _ _ _ _ _ _ _ _ h => h.elim
    | succ n ih =>
      · intro w1 w2 w3 H locs ls hG hS hl h
        replace h : vb_X5_allWhoHave_4 Q γ (vl_X5_allWhoHave Q γ n) w1 w2 w3 := h
        unfold vb_X5_allWhoHave_4 at h
        refine lv_iload_n hx hb dX5_allWhoHave_4 rfl (lv_at hl 3 rfl) ?_
        refine lv_aload_n hx hb dX5_allWhoHave_5 rfl (lv_at hl 0 rfl) ?_
        refine g_getI (a := aG) (k := 1) C hK hG fl_X5_18 rfl rfl dX5_allWhoHave_6 ?_
        refine lv_icmp_ge (tgt := 38) hx hb dX5_allWhoHave_9 (by decide) (fun c1 => ?_) (fun c1 => ?_)
        · replace h := h.1 c1
          refine lv_iload_n hx hb dX5_allWhoHave_38 rfl (lv_at hl 2 rfl) ?_
          exact g_iret (post := fun r (_ : Unit) => Q r) (P' := fun _ _ => True) (r := w2) (u := ()) C hr hK hS h trivial dX5_allWhoHave_39
        · replace h := h.2 c1
          refine lv_iload_n hx hb dX5_allWhoHave_12 rfl (lv_at hl 3 rfl) ?_
          refine lv_iconst (v := 4) hx hb dX5_allWhoHave_13 (by decide) ?_
          refine lv_icmp_ge (tgt := 38) hx hb dX5_allWhoHave_14 (by decide) (fun c2 => ?_) (fun c2 => ?_)
          · replace h := h.1 c2
            refine lv_iload_n hx hb dX5_allWhoHave_38 rfl (lv_at hl 2 rfl) ?_
            exact g_iret (post := fun r (_ : Unit) => Q r) (P' := fun _ _ => True) (r := w2) (u := ()) C hr hK hS h trivial dX5_allWhoHave_39
          · replace h := h.2 c2
            refine lv_aload_n hx hb dX5_allWhoHave_17 rfl (lv_at hl 0 rfl) ?_
            refine lv_iload_n hx hb dX5_allWhoHave_18 rfl (lv_at hl 3 rfl) ?_
            refine lv_iload_n hx hb dX5_allWhoHave_19 rfl (lv_at hl 1 rfl) ?_
            refine g_vI C hK hl.1 (m_X5_have l G aG γ w3 w1 _ h) mw_X5_have mi_X5_have ml_X5_36 rfl ⟨rfl, rfl, Nat.le_of_ble_eq_true rfl, Nat.le_of_ble_eq_true rfl⟩ ⟨Nat.zero_le _, Nat.zero_le _⟩ (g_recv (a := aG) (k := 1) hK hG rfl rfl) hG hS (fun _ h => h.elim) rfl (Nat.le_of_ble_eq_true rfl) dX5_allWhoHave_20 (fun r3 u H locs h hu _ hq hS => ?_)
            have hG := hG.past hq (fun _ _ h => h)
            refine lv_if_eq (tgt := 32) hx hb dX5_allWhoHave_23 (by decide) (fun c4 => ?_) (fun c4 => ?_)
            · replace h := h.1 c4
              obtain ⟨v5, ev5⟩ : ∃ y : Int32, y = w3 + 1 := ⟨_, rfl⟩
              specialize h v5 ev5
              refine lv_iinc (v := v5) (lv' := [(3, .int v5), (0, .ref (aG + 1)), (1, .int w1), (2, .int w2)]) hx hb dX5_allWhoHave_32 hl (k := 3) rfl (by rw [ev5]; rfl) (by decide) rfl (fun ls hl => ?_)
              refine lv_goto (tgt := 4) hx hb dX5_allWhoHave_35 (by decide) ?_
              exact (ih) w1 w2 v5 _ _ _ hG hS (lv_sub hl [1, 2, 3, 0] rfl) h
            · replace h := h.2 c4
              refine lv_iload_n hx hb dX5_allWhoHave_26 rfl (lv_at hl 2 rfl) ?_
              refine lv_iconst (v := 1) hx hb dX5_allWhoHave_27 (by decide) ?_
              refine lv_iload_n hx hb dX5_allWhoHave_28 rfl (lv_at hl 3 rfl) ?_
              refine lv_ishl hx hb dX5_allWhoHave_29 ?_
              refine lv_ior hx hb dX5_allWhoHave_30 ?_
              refine lv_topi (fun v6 ev6 => ?_)
              specialize h v6 ev6
              refine lv_istore_n (lv' := [(2, .int v6), (0, .ref (aG + 1)), (1, .int w1), (3, .int w3)]) hx hb dX5_allWhoHave_31 rfl hl (by decide) rfl (fun ls hl => ?_)
              obtain ⟨v7, ev7⟩ : ∃ y : Int32, y = w3 + 1 := ⟨_, rfl⟩
              specialize h v7 ev7
              refine lv_iinc (v := v7) (lv' := [(3, .int v7), (2, .int v6), (0, .ref (aG + 1)), (1, .int w1)]) hx hb dX5_allWhoHave_32 hl (k := 3) rfl (by rw [ev7]; rfl) (by decide) rfl (fun ls hl => ?_)
              refine lv_goto (tgt := 4) hx hb dX5_allWhoHave_35 (by decide) ?_
              exact (ih) w1 v6 v7 _ _ _ hG hS (lv_sub hl [2, 3, 1, 0] rfl) h
  unfold vc_X5_allWhoHave at h
  obtain ⟨n, h⟩ := h
  refine lv_iconst (v := 0) hx hb dX5_allWhoHave_0 (by decide) ?_
  refine lv_istore_n (lv' := [(2, .int 0), (0, .ref (aG + 1)), (1, .int x1)]) hx hb dX5_allWhoHave_1 rfl hl (by decide) rfl (fun ls hl => ?_)
  refine lv_iconst (v := 0) hx hb dX5_allWhoHave_2 (by decide) ?_
  refine lv_istore_n (lv' := [(3, .int 0), (2, .int 0), (0, .ref (aG + 1)), (1, .int x1)]) hx hb dX5_allWhoHave_3 rfl hl (by decide) rfl (fun ls hl => ?_)
  exact ((K n)) x1 0 0 _ _ _ hG hS (lv_sub hl [2, 3, 1, 0] rfl) h
theorem dX5_pay_0 : decode cX5_pay 0 = .ok (.iconst 0, 1) := by decide +kernel
theorem dX5_pay_1 : decode cX5_pay 1 = .ok (.istore_n 3, 1) := by decide +kernel
theorem dX5_pay_2 : decode cX5_pay 2 = .ok (.iload_n 3, 1) := by decide +kernel
theorem dX5_pay_3 : decode cX5_pay 3 = .ok (.iconst 3, 1) := by decide +kernel
theorem dX5_pay_4 : decode cX5_pay 4 = .ok (.if_icmp .ge 27, 3) := by decide +kernel
theorem dX5_pay_7 : decode cX5_pay 7 = .ok (.aload_n 0, 1) := by decide +kernel
theorem dX5_pay_8 : decode cX5_pay 8 = .ok (.getfield 9, 3) := by decide +kernel
theorem dX5_pay_11 : decode cX5_pay 11 = .ok (.iconst 3, 1) := by decide +kernel
theorem dX5_pay_12 : decode cX5_pay 12 = .ok (.iload_n 1, 1) := by decide +kernel
theorem dX5_pay_13 : decode cX5_pay 13 = .ok (.imul, 1) := by decide +kernel
theorem dX5_pay_14 : decode cX5_pay 14 = .ok (.iload_n 3, 1) := by decide +kernel
theorem dX5_pay_15 : decode cX5_pay 15 = .ok (.iadd, 1) := by decide +kernel
theorem dX5_pay_16 : decode cX5_pay 16 = .ok (.dup2, 1) := by decide +kernel
theorem dX5_pay_17 : decode cX5_pay 17 = .ok (.iaload, 1) := by decide +kernel
theorem dX5_pay_18 : decode cX5_pay 18 = .ok (.iload_n 2, 1) := by decide +kernel
theorem dX5_pay_19 : decode cX5_pay 19 = .ok (.iload_n 3, 1) := by decide +kernel
theorem dX5_pay_20 : decode cX5_pay 20 = .ok (.invokestatic 33, 3) := by decide +kernel
theorem dX5_pay_23 : decode cX5_pay 23 = .ok (.isub, 1) := by decide +kernel
theorem dX5_pay_24 : decode cX5_pay 24 = .ok (.iastore, 1) := by decide +kernel
theorem dX5_pay_25 : decode cX5_pay 25 = .ok (.iinc 3 1, 3) := by decide +kernel
theorem dX5_pay_28 : decode cX5_pay 28 = .ok (.goto (-26), 3) := by decide +kernel
theorem dX5_pay_31 : decode cX5_pay 31 = .ok (.return_, 1) := by decide +kernel
def vb_X5_pay_2 (Q : Mem → Prop) (rec : Nat → Mem → Int32 → Int32 → Int32 → Prop) (γ : Mem) (w1 : Int32) (w2 : Int32) (w3 : Int32) : Prop :=
  ((3 ≤ w3) → (Q γ)) ∧ ((¬ 3 ≤ w3) → (vp_in ((3 * w1) + w3) 12 ∧ (vc_X7_amountIn (fun r3 => (∀ γ4 : Mem, γ4 = up γ 2 ((3 * w1) + w3).toNatClampNeg ((γ 2 ((3 * w1) + w3).toNatClampNeg) - r3) → (∀ v5 : Int32, v5 = w3 + 1 → (rec 0 γ4 w1 w2 v5)))) w2 w3)))
def vl_X5_pay (Q : Mem → Prop) : Nat → Nat → Mem → Int32 → Int32 → Int32 → Prop
  | 0, _, _, _, _, _ => False
  | n + 1, 0, γ, w1, w2, w3 => vb_X5_pay_2 Q (vl_X5_pay Q n) γ w1 w2 w3
  | _ + 1, _, _, _, _, _ => False
def vc_X5_pay (Q : Mem → Prop) (γ : Mem) (x1 : Int32) (x2 : Int32) : Prop :=
  ∃ n : Nat, vl_X5_pay Q n 0 γ x1 x2 0
set_option maxHeartbeats 8000000 in
set_option maxRecDepth 100000 in
theorem m_X5_pay (l : Launch) (G : GG) (aG : Nat) (γ : Mem) (x1 : Int32) (x2 : Int32) (Q : Mem → Prop) (h : vc_X5_pay Q γ x1 x2) : CtV l yX5_pay cX5_pay 4 { frames := 1, cells := 0, slots := 0, locals := 21 } [.ref (aG + 1), .int x1, .int x2] G (fun H => rg G LG aG γ H) (Q) (fun u H => rg G LG aG u H) (RA aG 22) := by
  unfold CtV
  refine met_start (y := yX5_pay) (maxL := 4) (av := [.ref (aG + 1), .int x1, .int x2]) (G := G) (P := fun H => rg G LG aG γ H) (by decide) rfl (Nat.le_of_ble_eq_true rfl) (fun p e s m below meth c ls C hr hP hK hl => ?_)
  obtain ⟨hx, hb, hml, hown, hts, hlocks⟩ := id C
  have hG : rg G LG aG γ s.heap := hP
  have hS : va_S (RA aG 22) s.heap s.heap [] := va_S.rf
  have hl : lv_has ls 4 [(0, .ref (aG + 1)), (1, .int x1), (2, .int x2)] := hl
  have K : ∀ n : Nat, (∀ (γ : Mem) (w1 : Int32) (w2 : Int32) (w3 : Int32) (H : Heap) (locs : List Loc) (ls : Array Slot), rg G LG aG γ H → va_S (RA aG 22) s.heap H locs → lv_has ls 4 [(0, .ref (aG + 1)), (1, .int w1), (2, .int w2), (3, .int w3)] → vl_X5_pay Q n 0 γ w1 w2 w3 → W p l e { frames := 1, cells := 0, slots := 0, locals := 21 } s m [.ref (aG + 1), .int x1, .int x2].toArray below meth c H locs 0 0 (MQ below (va_Qv (Q) (fun u t => (fun u H => rg G LG aG u H) u t.heap ∧ KK G t) (RA aG 22)) [.ref (aG + 1), .int x1, .int x2].toArray s 0 0 (RA aG 22)) (F0 m 2 ls [])) := by
    intro n
    induction n with
    | zero => exact fun _ _ _ _ _ _ _ _ _ _ h => h.elim
    | succ n ih =>
      · intro γ w1 w2 w3 H locs ls hG hS hl h
        replace h : vb_X5_pay_2 Q (vl_X5_pay Q n) γ w1 w2 w3 := h
        unfold vb_X5_pay_2 at h
        refine lv_iload_n hx hb dX5_pay_2 rfl (lv_at hl 3 rfl) ?_
        refine lv_iconst (v := 3) hx hb dX5_pay_3 (by decide) ?_
        refine lv_icmp_ge (tgt := 31) hx hb dX5_pay_4 (by decide) (fun c1 => ?_) (fun c1 => ?_)
        · replace h := h.1 c1
          exact g_vret (post := Q) (P' := fun u H => rg G LG aG u H) (u := γ) C hr hK hS h hG dX5_pay_31
        · replace h := h.2 c1
          refine lv_aload_n hx hb dX5_pay_7 rfl (lv_at hl 0 rfl) ?_
          refine g_getR (a := aG) (k := 1) (o := 2) C hK hG fl_X5_9 rfl rfl dX5_pay_8 ?_
          refine lv_iconst (v := 3) hx hb dX5_pay_11 (by decide) ?_
          refine lv_iload_n hx hb dX5_pay_12 rfl (lv_at hl 1 rfl) ?_
          refine lv_imul hx hb dX5_pay_13 ?_
          refine lv_iload_n hx hb dX5_pay_14 rfl (lv_at hl 3 rfl) ?_
          refine lv_iadd hx hb dX5_pay_15 ?_
          refine lv_dup2_11 hx hb dX5_pay_16 rfl rfl ?_
          obtain ⟨b2, h⟩ := h
          refine g_ald (a := aG) (k := 2) (n := 12) C hK hG rfl b2 dX5_pay_17 ?_
          refine lv_iload_n hx hb dX5_pay_18 rfl (lv_at hl 2 rfl) ?_
          refine lv_iload_n hx hb dX5_pay_19 rfl (lv_at hl 3 rfl) ?_
          refine g_nI C hK hl.1 (m_X7_amountIn l G w2 w3 _ h) mw_X7_amountIn ms_X7_amountIn nl_X5_33 rfl ⟨rfl, rfl, Nat.le_of_ble_eq_true rfl, Nat.le_of_ble_eq_true rfl⟩ ⟨Nat.zero_le _, Nat.zero_le _⟩ trivial hS (fun _ h => h.elim) rfl (Nat.le_of_ble_eq_true rfl) dX5_pay_20 (fun r3 u H locs h hu _ hq hS => ?_)
          have hG := hG.past hq (fun _ _ h => h)
          refine lv_isub hx hb dX5_pay_23 ?_
          refine g_ast (a := aG) (k := 2) (n := 12) C hK hG hS rfl b2 (RA_in (by decide)) dX5_pay_24 (fun γ4 H locs eγ4 hG hS hq => ?_)
          specialize h γ4 eγ4
          obtain ⟨v5, ev5⟩ : ∃ y : Int32, y = w3 + 1 := ⟨_, rfl⟩
          specialize h v5 ev5
          refine lv_iinc (v := v5) (lv' := [(3, .int v5), (0, .ref (aG + 1)), (1, .int w1), (2, .int w2)]) hx hb dX5_pay_25 hl (k := 3) rfl (by rw [ev5]; rfl) (by decide) rfl (fun ls hl => ?_)
          refine lv_goto (tgt := 2) hx hb dX5_pay_28 (by decide) ?_
          exact (ih) γ4 w1 w2 v5 _ _ _ hG hS (lv_sub hl [1, 2, 3, 0] rfl) h
  unfold vc_X5_pay at h
  obtain ⟨n, h⟩ := h
  refine lv_iconst (v := 0) hx hb dX5_pay_0 (by decide) ?_
  refine lv_istore_n (lv' := [(3, .int 0), (0, .ref (aG + 1)), (1, .int x1), (2, .int x2)]) hx hb dX5_pay_1 rfl hl (by decide) rfl (fun ls hl => ?_)
  exact ((K n)) γ x1 x2 0 _ _ _ hG hS (lv_sub hl [1, 2, 3, 0] rfl) h
theorem dX5_gain_0 : decode cX5_gain 0 = .ok (.iconst 0, 1) := by decide +kernel
theorem dX5_gain_1 : decode cX5_gain 1 = .ok (.istore_n 3, 1) := by decide +kernel
theorem dX5_gain_2 : decode cX5_gain 2 = .ok (.iload_n 3, 1) := by decide +kernel
theorem dX5_gain_3 : decode cX5_gain 3 = .ok (.iconst 3, 1) := by decide +kernel
theorem dX5_gain_4 : decode cX5_gain 4 = .ok (.if_icmp .ge 58, 3) := by decide +kernel
theorem dX5_gain_7 : decode cX5_gain 7 = .ok (.aload_n 0, 1) := by decide +kernel
theorem dX5_gain_8 : decode cX5_gain 8 = .ok (.iload_n 1, 1) := by decide +kernel
theorem dX5_gain_9 : decode cX5_gain 9 = .ok (.iload_n 3, 1) := by decide +kernel
theorem dX5_gain_10 : decode cX5_gain 10 = .ok (.invokevirtual 29, 3) := by decide +kernel
theorem dX5_gain_13 : decode cX5_gain 13 = .ok (.iload_n 2, 1) := by decide +kernel
theorem dX5_gain_14 : decode cX5_gain 14 = .ok (.iload_n 3, 1) := by decide +kernel
theorem dX5_gain_15 : decode cX5_gain 15 = .ok (.invokestatic 33, 3) := by decide +kernel
theorem dX5_gain_18 : decode cX5_gain 18 = .ok (.iadd, 1) := by decide +kernel
theorem dX5_gain_19 : decode cX5_gain 19 = .ok (.istore 4, 2) := by decide +kernel
theorem dX5_gain_21 : decode cX5_gain 21 = .ok (.iload 4, 2) := by decide +kernel
theorem dX5_gain_23 : decode cX5_gain 23 = .ok (.bipush 99, 2) := by decide +kernel
theorem dX5_gain_25 : decode cX5_gain 25 = .ok (.invokestatic 40, 3) := by decide +kernel
theorem dX5_gain_28 : decode cX5_gain 28 = .ok (.istore 5, 2) := by decide +kernel
theorem dX5_gain_30 : decode cX5_gain 30 = .ok (.aload_n 0, 1) := by decide +kernel
theorem dX5_gain_31 : decode cX5_gain 31 = .ok (.getfield 9, 3) := by decide +kernel
theorem dX5_gain_34 : decode cX5_gain 34 = .ok (.iconst 3, 1) := by decide +kernel
theorem dX5_gain_35 : decode cX5_gain 35 = .ok (.iload_n 1, 1) := by decide +kernel
theorem dX5_gain_36 : decode cX5_gain 36 = .ok (.imul, 1) := by decide +kernel
theorem dX5_gain_37 : decode cX5_gain 37 = .ok (.iload_n 3, 1) := by decide +kernel
theorem dX5_gain_38 : decode cX5_gain 38 = .ok (.iadd, 1) := by decide +kernel
theorem dX5_gain_39 : decode cX5_gain 39 = .ok (.iload 5, 2) := by decide +kernel
theorem dX5_gain_41 : decode cX5_gain 41 = .ok (.iastore, 1) := by decide +kernel
theorem dX5_gain_42 : decode cX5_gain 42 = .ok (.aload_n 0, 1) := by decide +kernel
theorem dX5_gain_43 : decode cX5_gain 43 = .ok (.dup, 1) := by decide +kernel
theorem dX5_gain_44 : decode cX5_gain 44 = .ok (.getfield 22, 3) := by decide +kernel
theorem dX5_gain_47 : decode cX5_gain 47 = .ok (.iload 4, 2) := by decide +kernel
theorem dX5_gain_49 : decode cX5_gain 49 = .ok (.iload 5, 2) := by decide +kernel
theorem dX5_gain_51 : decode cX5_gain 51 = .ok (.isub, 1) := by decide +kernel
theorem dX5_gain_52 : decode cX5_gain 52 = .ok (.iadd, 1) := by decide +kernel
theorem dX5_gain_53 : decode cX5_gain 53 = .ok (.putfield 22, 3) := by decide +kernel
theorem dX5_gain_56 : decode cX5_gain 56 = .ok (.iinc 3 1, 3) := by decide +kernel
theorem dX5_gain_59 : decode cX5_gain 59 = .ok (.goto (-57), 3) := by decide +kernel
theorem dX5_gain_62 : decode cX5_gain 62 = .ok (.return_, 1) := by decide +kernel
def vb_X5_gain_2 (Q : Mem → Prop) (rec : Nat → Mem → Int32 → Int32 → Int32 → Prop) (γ : Mem) (w1 : Int32) (w2 : Int32) (w3 : Int32) : Prop :=
  ((3 ≤ w3) → (Q γ)) ∧ ((¬ 3 ≤ w3) → (vc_X5_amountOf (fun r2 => vc_X7_amountIn (fun r3 => ∀ v4 : Int32, v4 = (r2 + r3) → (∀ v5 : Int32, v5 = (if 99 < v4 then 99 else v4) → (vp_in ((3 * w1) + w3) 12 ∧ (∀ γ7 : Mem, γ7 = up γ 2 ((3 * w1) + w3).toNatClampNeg v5 → (∀ γ8 : Mem, γ8 = up γ7 1 1 ((γ7 1 1) + (v4 - v5)) → (∀ v9 : Int32, v9 = w3 + 1 → (rec 0 γ8 w1 w2 v9))))))) w2 w3) γ w1 w3))
def vl_X5_gain (Q : Mem → Prop) : Nat → Nat → Mem → Int32 → Int32 → Int32 → Prop
  | 0, _, _, _, _, _ => False
  | n + 1, 0, γ, w1, w2, w3 => vb_X5_gain_2 Q (vl_X5_gain Q n) γ w1 w2 w3
  | _ + 1, _, _, _, _, _ => False
def vc_X5_gain (Q : Mem → Prop) (γ : Mem) (x1 : Int32) (x2 : Int32) : Prop :=
  ∃ n : Nat, vl_X5_gain Q n 0 γ x1 x2 0
set_option maxHeartbeats 8000000 in
set_option maxRecDepth 100000 in
theorem m_X5_gain (l : Launch) (G : GG) (aG : Nat) (γ : Mem) (x1 : Int32) (x2 : Int32) (Q : Mem → Prop) (h : vc_X5_gain Q γ x1 x2) : CtV l yX5_gain cX5_gain 6 { frames := 1, cells := 0, slots := 0, locals := 22 } [.ref (aG + 1), .int x1, .int x2] G (fun H => rg G LG aG γ H) (Q) (fun u H => rg G LG aG u H) (RA aG 22) := by
  unfold CtV
  refine met_start (y := yX5_gain) (maxL := 6) (av := [.ref (aG + 1), .int x1, .int x2]) (G := G) (P := fun H => rg G LG aG γ H) (by decide) rfl (Nat.le_of_ble_eq_true rfl) (fun p e s m below meth c ls C hr hP hK hl => ?_)
  obtain ⟨hx, hb, hml, hown, hts, hlocks⟩ := id C
  have hG : rg G LG aG γ s.heap := hP
  have hS : va_S (RA aG 22) s.heap s.heap [] := va_S.rf
  have hl : lv_has ls 6 [(0, .ref (aG + 1)), (1, .int x1), (2, .int x2)] := hl
  have K : ∀ n : Nat, (∀ (γ : Mem) (w1 : Int32) (w2 : Int32) (w3 : Int32) (H : Heap) (locs : List Loc) (ls : Array Slot), rg G LG aG γ H → va_S (RA aG 22) s.heap H locs → lv_has ls 6 [(0, .ref (aG + 1)), (1, .int w1), (2, .int w2), (3, .int w3)] → vl_X5_gain Q n 0 γ w1 w2 w3 → W p l e { frames := 1, cells := 0, slots := 0, locals := 22 } s m [.ref (aG + 1), .int x1, .int x2].toArray below meth c H locs 0 0 (MQ below (va_Qv (Q) (fun u t => (fun u H => rg G LG aG u H) u t.heap ∧ KK G t) (RA aG 22)) [.ref (aG + 1), .int x1, .int x2].toArray s 0 0 (RA aG 22)) (F0 m 2 ls [])) := by
    intro n
    induction n with
    | zero => exact fun _ _ _ _ _ _ _ _ _ _ h => h.elim
    | succ n ih =>
      · intro γ w1 w2 w3 H locs ls hG hS hl h
        replace h : vb_X5_gain_2 Q (vl_X5_gain Q n) γ w1 w2 w3 := h
        unfold vb_X5_gain_2 at h
        refine lv_iload_n hx hb dX5_gain_2 rfl (lv_at hl 3 rfl) ?_
        refine lv_iconst (v := 3) hx hb dX5_gain_3 (by decide) ?_
        refine lv_icmp_ge (tgt := 62) hx hb dX5_gain_4 (by decide) (fun c1 => ?_) (fun c1 => ?_)
        · replace h := h.1 c1
          exact g_vret (post := Q) (P' := fun u H => rg G LG aG u H) (u := γ) C hr hK hS h hG dX5_gain_62
        · replace h := h.2 c1
          refine lv_aload_n hx hb dX5_gain_7 rfl (lv_at hl 0 rfl) ?_
          refine lv_iload_n hx hb dX5_gain_8 rfl (lv_at hl 1 rfl) ?_
          refine lv_iload_n hx hb dX5_gain_9 rfl (lv_at hl 3 rfl) ?_
          refine g_vI C hK hl.1 (m_X5_amountOf l G aG γ w1 w3 _ h) mw_X5_amountOf mi_X5_amountOf ml_X5_29 rfl ⟨rfl, rfl, Nat.le_of_ble_eq_true rfl, Nat.le_of_ble_eq_true rfl⟩ ⟨Nat.zero_le _, Nat.zero_le _⟩ (g_recv (a := aG) (k := 1) hK hG rfl rfl) hG hS (fun _ h => h.elim) rfl (Nat.le_of_ble_eq_true rfl) dX5_gain_10 (fun r2 u H locs h hu _ hq hS => ?_)
          have hG := hG.past hq (fun _ _ h => h)
          refine lv_iload_n hx hb dX5_gain_13 rfl (lv_at hl 2 rfl) ?_
          refine lv_iload_n hx hb dX5_gain_14 rfl (lv_at hl 3 rfl) ?_
          refine g_nI C hK hl.1 (m_X7_amountIn l G w2 w3 _ h) mw_X7_amountIn ms_X7_amountIn nl_X5_33 rfl ⟨rfl, rfl, Nat.le_of_ble_eq_true rfl, Nat.le_of_ble_eq_true rfl⟩ ⟨Nat.zero_le _, Nat.zero_le _⟩ trivial hS (fun _ h => h.elim) rfl (Nat.le_of_ble_eq_true rfl) dX5_gain_15 (fun r3 u H locs h hu _ hq hS => ?_)
          have hG := hG.past hq (fun _ _ h => h)
          refine lv_iadd hx hb dX5_gain_18 ?_
          refine lv_topi (fun v4 ev4 => ?_)
          specialize h v4 ev4
          refine lv_istore (lv' := [(4, .int v4), (0, .ref (aG + 1)), (1, .int w1), (2, .int w2), (3, .int w3)]) hx hb dX5_gain_19 hl (by decide) rfl (fun ls hl => ?_)
          refine lv_iload hx hb dX5_gain_21 (lv_at hl 0 rfl) ?_
          refine lv_bipush (v := 99) hx hb dX5_gain_23 (by decide) ?_
          refine va_mmin hx hb (hml.trans hl.1.symm) hown (hts _ ml_X5_40) (hts _ math_min_s) (hts _ math_i) (hts _ math_min_c) (Nat.le_of_ble_eq_true rfl) (Nat.le_of_ble_eq_true rfl) (Nat.zero_le _) (Nat.zero_le _) dX5_gain_25 ?_
          refine lv_topi (fun v5 ev5 => ?_)
          specialize h v5 ev5
          refine lv_istore (lv' := [(5, .int v5), (4, .int v4), (0, .ref (aG + 1)), (1, .int w1), (2, .int w2), (3, .int w3)]) hx hb dX5_gain_28 hl (by decide) rfl (fun ls hl => ?_)
          refine lv_aload_n hx hb dX5_gain_30 rfl (lv_at hl 2 rfl) ?_
          refine g_getR (a := aG) (k := 1) (o := 2) C hK hG fl_X5_9 rfl rfl dX5_gain_31 ?_
          refine lv_iconst (v := 3) hx hb dX5_gain_34 (by decide) ?_
          refine lv_iload_n hx hb dX5_gain_35 rfl (lv_at hl 3 rfl) ?_
          refine lv_imul hx hb dX5_gain_36 ?_
          refine lv_iload_n hx hb dX5_gain_37 rfl (lv_at hl 5 rfl) ?_
          refine lv_iadd hx hb dX5_gain_38 ?_
          refine lv_iload hx hb dX5_gain_39 (lv_at hl 0 rfl) ?_
          obtain ⟨b6, h⟩ := h
          refine g_ast (a := aG) (k := 2) (n := 12) C hK hG hS rfl b6 (RA_in (by decide)) dX5_gain_41 (fun γ7 H locs eγ7 hG hS hq => ?_)
          specialize h γ7 eγ7
          refine lv_aload_n hx hb dX5_gain_42 rfl (lv_at hl 2 rfl) ?_
          refine lv_dup hx hb dX5_gain_43 rfl ?_
          refine g_getI (a := aG) (k := 1) C hK hG fl_X5_22 rfl rfl dX5_gain_44 ?_
          refine lv_iload hx hb dX5_gain_47 (lv_at hl 1 rfl) ?_
          refine lv_iload hx hb dX5_gain_49 (lv_at hl 0 rfl) ?_
          refine lv_isub hx hb dX5_gain_51 ?_
          refine lv_iadd hx hb dX5_gain_52 ?_
          refine g_put (a := aG) (k := 1) C hK hG hS fl_X5_22 fp_X5_1 rfl rfl (by rfl) (by rfl) (RA_in (by decide)) dX5_gain_53 (fun γ8 H locs eγ8 hG hS hq => ?_)
          specialize h γ8 eγ8
          obtain ⟨v9, ev9⟩ : ∃ y : Int32, y = w3 + 1 := ⟨_, rfl⟩
          specialize h v9 ev9
          refine lv_iinc (v := v9) (lv' := [(3, .int v9), (5, .int v5), (4, .int v4), (0, .ref (aG + 1)), (1, .int w1), (2, .int w2)]) hx hb dX5_gain_56 hl (k := 5) rfl (by rw [ev9]; rfl) (by decide) rfl (fun ls hl => ?_)
          refine lv_goto (tgt := 2) hx hb dX5_gain_59 (by decide) ?_
          exact (ih) γ8 w1 w2 v9 _ _ _ hG hS (lv_sub hl [3, 4, 5, 0] rfl) h
  unfold vc_X5_gain at h
  obtain ⟨n, h⟩ := h
  refine lv_iconst (v := 0) hx hb dX5_gain_0 (by decide) ?_
  refine lv_istore_n (lv' := [(3, .int 0), (0, .ref (aG + 1)), (1, .int x1), (2, .int x2)]) hx hb dX5_gain_1 rfl hl (by decide) rfl (fun ls hl => ?_)
  exact ((K n)) γ x1 x2 0 _ _ _ hG hS (lv_sub hl [1, 2, 3, 0] rfl) h
theorem dX5_allGoodsOf_0 : decode cX5_allGoodsOf 0 = .ok (.aload_n 0, 1) := by decide +kernel
theorem dX5_allGoodsOf_1 : decode cX5_allGoodsOf 1 = .ok (.iload_n 1, 1) := by decide +kernel
theorem dX5_allGoodsOf_2 : decode cX5_allGoodsOf 2 = .ok (.iconst 0, 1) := by decide +kernel
theorem dX5_allGoodsOf_3 : decode cX5_allGoodsOf 3 = .ok (.invokevirtual 29, 3) := by decide +kernel
theorem dX5_allGoodsOf_6 : decode cX5_allGoodsOf 6 = .ok (.aload_n 0, 1) := by decide +kernel
theorem dX5_allGoodsOf_7 : decode cX5_allGoodsOf 7 = .ok (.iload_n 1, 1) := by decide +kernel
theorem dX5_allGoodsOf_8 : decode cX5_allGoodsOf 8 = .ok (.iconst 1, 1) := by decide +kernel
theorem dX5_allGoodsOf_9 : decode cX5_allGoodsOf 9 = .ok (.invokevirtual 29, 3) := by decide +kernel
theorem dX5_allGoodsOf_12 : decode cX5_allGoodsOf 12 = .ok (.iadd, 1) := by decide +kernel
theorem dX5_allGoodsOf_13 : decode cX5_allGoodsOf 13 = .ok (.aload_n 0, 1) := by decide +kernel
theorem dX5_allGoodsOf_14 : decode cX5_allGoodsOf 14 = .ok (.iload_n 1, 1) := by decide +kernel
theorem dX5_allGoodsOf_15 : decode cX5_allGoodsOf 15 = .ok (.iconst 2, 1) := by decide +kernel
theorem dX5_allGoodsOf_16 : decode cX5_allGoodsOf 16 = .ok (.invokevirtual 29, 3) := by decide +kernel
theorem dX5_allGoodsOf_19 : decode cX5_allGoodsOf 19 = .ok (.iadd, 1) := by decide +kernel
theorem dX5_allGoodsOf_20 : decode cX5_allGoodsOf 20 = .ok (.ireturn, 1) := by decide +kernel
def vc_X5_allGoodsOf (Q : Int32 → Prop) (γ : Mem) (x1 : Int32) : Prop :=
  vc_X5_amountOf (fun r1 => vc_X5_amountOf (fun r2 => vc_X5_amountOf (fun r3 => Q ((r1 + r2) + r3) ) γ x1 2) γ x1 1) γ x1 0
set_option maxHeartbeats 8000000 in
set_option maxRecDepth 100000 in
theorem m_X5_allGoodsOf (l : Launch) (G : GG) (aG : Nat) (γ : Mem) (x1 : Int32) (Q : Int32 → Prop) (h : vc_X5_allGoodsOf Q γ x1) : CtI l yX5_allGoodsOf cX5_allGoodsOf 2 (some .int) { frames := 1, cells := 0, slots := 0, locals := 22 } [.ref (aG + 1), .int x1] G (fun H => rg G LG aG γ H) (fun r (_ : Unit) => Q r) (fun _ _ => True) (fun _ => False) := by
  unfold CtI
  refine met_start (y := yX5_allGoodsOf) (maxL := 2) (av := [.ref (aG + 1), .int x1]) (G := G) (P := fun H => rg G LG aG γ H) (by decide) rfl (Nat.le_of_ble_eq_true rfl) (fun p e s m below meth c ls C hr hP hK hl => ?_)
  obtain ⟨hx, hb, hml, hown, hts, hlocks⟩ := id C
  have hG : rg G LG aG γ s.heap := hP
  have hS : va_S (fun _ => False) s.heap s.heap [] := va_S.rf
  have hl : lv_has ls 2 [(0, .ref (aG + 1)), (1, .int x1)] := hl
  unfold vc_X5_allGoodsOf at h
  refine lv_aload_n hx hb dX5_allGoodsOf_0 rfl (lv_at hl 0 rfl) ?_
  refine lv_iload_n hx hb dX5_allGoodsOf_1 rfl (lv_at hl 1 rfl) ?_
  refine lv_iconst (v := 0) hx hb dX5_allGoodsOf_2 (by decide) ?_
  refine g_vI C hK hl.1 (m_X5_amountOf l G aG γ x1 0 _ h) mw_X5_amountOf mi_X5_amountOf ml_X5_29 rfl ⟨rfl, rfl, Nat.le_of_ble_eq_true rfl, Nat.le_of_ble_eq_true rfl⟩ ⟨Nat.zero_le _, Nat.zero_le _⟩ (g_recv (a := aG) (k := 1) hK hG rfl rfl) hG hS (fun _ h => h.elim) rfl (Nat.le_of_ble_eq_true rfl) dX5_allGoodsOf_3 (fun r1 u H locs h hu _ hq hS => ?_)
  have hG := hG.past hq (fun _ _ h => h)
  refine lv_aload_n hx hb dX5_allGoodsOf_6 rfl (lv_at hl 0 rfl) ?_
  refine lv_iload_n hx hb dX5_allGoodsOf_7 rfl (lv_at hl 1 rfl) ?_
  refine lv_iconst (v := 1) hx hb dX5_allGoodsOf_8 (by decide) ?_
  refine g_vI C hK hl.1 (m_X5_amountOf l G aG γ x1 1 _ h) mw_X5_amountOf mi_X5_amountOf ml_X5_29 rfl ⟨rfl, rfl, Nat.le_of_ble_eq_true rfl, Nat.le_of_ble_eq_true rfl⟩ ⟨Nat.zero_le _, Nat.zero_le _⟩ (g_recv (a := aG) (k := 1) hK hG rfl rfl) hG hS (fun _ h => h.elim) rfl (Nat.le_of_ble_eq_true rfl) dX5_allGoodsOf_9 (fun r2 u H locs h hu _ hq hS => ?_)
  have hG := hG.past hq (fun _ _ h => h)
  refine lv_iadd hx hb dX5_allGoodsOf_12 ?_
  refine lv_aload_n hx hb dX5_allGoodsOf_13 rfl (lv_at hl 0 rfl) ?_
  refine lv_iload_n hx hb dX5_allGoodsOf_14 rfl (lv_at hl 1 rfl) ?_
  refine lv_iconst (v := 2) hx hb dX5_allGoodsOf_15 (by decide) ?_
  refine g_vI C hK hl.1 (m_X5_amountOf l G aG γ x1 2 _ h) mw_X5_amountOf mi_X5_amountOf ml_X5_29 rfl ⟨rfl, rfl, Nat.le_of_ble_eq_true rfl, Nat.le_of_ble_eq_true rfl⟩ ⟨Nat.zero_le _, Nat.zero_le _⟩ (g_recv (a := aG) (k := 1) hK hG rfl rfl) hG hS (fun _ h => h.elim) rfl (Nat.le_of_ble_eq_true rfl) dX5_allGoodsOf_16 (fun r3 u H locs h hu _ hq hS => ?_)
  have hG := hG.past hq (fun _ _ h => h)
  refine lv_iadd hx hb dX5_allGoodsOf_19 ?_
  exact g_iret (post := fun r (_ : Unit) => Q r) (P' := fun _ _ => True) (r := ((r1 + r2) + r3)) (u := ()) C hr hK hS h trivial dX5_allGoodsOf_20
theorem dX5_isAheadOf_0 : decode cX5_isAheadOf 0 = .ok (.aload_n 0, 1) := by decide +kernel
theorem dX5_isAheadOf_1 : decode cX5_isAheadOf 1 = .ok (.getfield 15, 3) := by decide +kernel
theorem dX5_isAheadOf_4 : decode cX5_isAheadOf 4 = .ok (.iload_n 1, 1) := by decide +kernel
theorem dX5_isAheadOf_5 : decode cX5_isAheadOf 5 = .ok (.iaload, 1) := by decide +kernel
theorem dX5_isAheadOf_6 : decode cX5_isAheadOf 6 = .ok (.aload_n 0, 1) := by decide +kernel
theorem dX5_isAheadOf_7 : decode cX5_isAheadOf 7 = .ok (.getfield 15, 3) := by decide +kernel
theorem dX5_isAheadOf_10 : decode cX5_isAheadOf 10 = .ok (.iload_n 2, 1) := by decide +kernel
theorem dX5_isAheadOf_11 : decode cX5_isAheadOf 11 = .ok (.iaload, 1) := by decide +kernel
theorem dX5_isAheadOf_12 : decode cX5_isAheadOf 12 = .ok (.if_icmp .eq 24, 3) := by decide +kernel
theorem dX5_isAheadOf_15 : decode cX5_isAheadOf 15 = .ok (.aload_n 0, 1) := by decide +kernel
theorem dX5_isAheadOf_16 : decode cX5_isAheadOf 16 = .ok (.getfield 15, 3) := by decide +kernel
theorem dX5_isAheadOf_19 : decode cX5_isAheadOf 19 = .ok (.iload_n 1, 1) := by decide +kernel
theorem dX5_isAheadOf_20 : decode cX5_isAheadOf 20 = .ok (.iaload, 1) := by decide +kernel
theorem dX5_isAheadOf_21 : decode cX5_isAheadOf 21 = .ok (.aload_n 0, 1) := by decide +kernel
theorem dX5_isAheadOf_22 : decode cX5_isAheadOf 22 = .ok (.getfield 15, 3) := by decide +kernel
theorem dX5_isAheadOf_25 : decode cX5_isAheadOf 25 = .ok (.iload_n 2, 1) := by decide +kernel
theorem dX5_isAheadOf_26 : decode cX5_isAheadOf 26 = .ok (.iaload, 1) := by decide +kernel
theorem dX5_isAheadOf_27 : decode cX5_isAheadOf 27 = .ok (.if_icmp .le 7, 3) := by decide +kernel
theorem dX5_isAheadOf_30 : decode cX5_isAheadOf 30 = .ok (.iconst 1, 1) := by decide +kernel
theorem dX5_isAheadOf_31 : decode cX5_isAheadOf 31 = .ok (.goto 4, 3) := by decide +kernel
theorem dX5_isAheadOf_34 : decode cX5_isAheadOf 34 = .ok (.iconst 0, 1) := by decide +kernel
theorem dX5_isAheadOf_35 : decode cX5_isAheadOf 35 = .ok (.ireturn, 1) := by decide +kernel
theorem dX5_isAheadOf_36 : decode cX5_isAheadOf 36 = .ok (.aload_n 0, 1) := by decide +kernel
theorem dX5_isAheadOf_37 : decode cX5_isAheadOf 37 = .ok (.iload_n 1, 1) := by decide +kernel
theorem dX5_isAheadOf_38 : decode cX5_isAheadOf 38 = .ok (.invokevirtual 45, 3) := by decide +kernel
theorem dX5_isAheadOf_41 : decode cX5_isAheadOf 41 = .ok (.aload_n 0, 1) := by decide +kernel
theorem dX5_isAheadOf_42 : decode cX5_isAheadOf 42 = .ok (.iload_n 2, 1) := by decide +kernel
theorem dX5_isAheadOf_43 : decode cX5_isAheadOf 43 = .ok (.invokevirtual 45, 3) := by decide +kernel
theorem dX5_isAheadOf_46 : decode cX5_isAheadOf 46 = .ok (.if_icmp .le 7, 3) := by decide +kernel
theorem dX5_isAheadOf_49 : decode cX5_isAheadOf 49 = .ok (.iconst 1, 1) := by decide +kernel
theorem dX5_isAheadOf_50 : decode cX5_isAheadOf 50 = .ok (.goto 4, 3) := by decide +kernel
theorem dX5_isAheadOf_53 : decode cX5_isAheadOf 53 = .ok (.iconst 0, 1) := by decide +kernel
theorem dX5_isAheadOf_54 : decode cX5_isAheadOf 54 = .ok (.ireturn, 1) := by decide +kernel
def vc_X5_isAheadOf (Q : Int32 → Prop) (γ : Mem) (x1 : Int32) (x2 : Int32) : Prop :=
  vp_in x1 4 ∧ (vp_in x2 4 ∧ ((((γ 3 x1.toNatClampNeg) = (γ 3 x2.toNatClampNeg)) → (vc_X5_allGoodsOf (fun r4 => vc_X5_allGoodsOf (fun r5 => ((r4 ≤ r5) → (Q 0 )) ∧ ((¬ r4 ≤ r5) → (Q 1 ))) γ x2) γ x1)) ∧ ((¬ (γ 3 x1.toNatClampNeg) = (γ 3 x2.toNatClampNeg)) → ((((((γ 3 x1.toNatClampNeg) ≤ (γ 3 x2.toNatClampNeg)) → (Q 0 )) ∧ ((¬ (γ 3 x1.toNatClampNeg) ≤ (γ 3 x2.toNatClampNeg)) → (Q 1 ))))))))
set_option maxHeartbeats 8000000 in
set_option maxRecDepth 100000 in
theorem m_X5_isAheadOf (l : Launch) (G : GG) (aG : Nat) (γ : Mem) (x1 : Int32) (x2 : Int32) (Q : Int32 → Prop) (h : vc_X5_isAheadOf Q γ x1 x2) : CtI l yX5_isAheadOf cX5_isAheadOf 3 (some .boolean) { frames := 2, cells := 0, slots := 0, locals := 43 } [.ref (aG + 1), .int x1, .int x2] G (fun H => rg G LG aG γ H) (fun r (_ : Unit) => Q r) (fun _ _ => True) (fun _ => False) := by
  unfold CtI
  refine met_start (y := yX5_isAheadOf) (maxL := 3) (av := [.ref (aG + 1), .int x1, .int x2]) (G := G) (P := fun H => rg G LG aG γ H) (by decide) rfl (Nat.le_of_ble_eq_true rfl) (fun p e s m below meth c ls C hr hP hK hl => ?_)
  obtain ⟨hx, hb, hml, hown, hts, hlocks⟩ := id C
  have hG : rg G LG aG γ s.heap := hP
  have hS : va_S (fun _ => False) s.heap s.heap [] := va_S.rf
  have hl : lv_has ls 3 [(0, .ref (aG + 1)), (1, .int x1), (2, .int x2)] := hl
  unfold vc_X5_isAheadOf at h
  refine lv_aload_n hx hb dX5_isAheadOf_0 rfl (lv_at hl 0 rfl) ?_
  refine g_getR (a := aG) (k := 1) (o := 3) C hK hG fl_X5_15 rfl rfl dX5_isAheadOf_1 ?_
  refine lv_iload_n hx hb dX5_isAheadOf_4 rfl (lv_at hl 1 rfl) ?_
  obtain ⟨b1, h⟩ := h
  refine g_ald (a := aG) (k := 3) (n := 4) C hK hG rfl b1 dX5_isAheadOf_5 ?_
  refine lv_aload_n hx hb dX5_isAheadOf_6 rfl (lv_at hl 0 rfl) ?_
  refine g_getR (a := aG) (k := 1) (o := 3) C hK hG fl_X5_15 rfl rfl dX5_isAheadOf_7 ?_
  refine lv_iload_n hx hb dX5_isAheadOf_10 rfl (lv_at hl 2 rfl) ?_
  obtain ⟨b2, h⟩ := h
  refine g_ald (a := aG) (k := 3) (n := 4) C hK hG rfl b2 dX5_isAheadOf_11 ?_
  refine lv_icmp_eq (tgt := 36) hx hb dX5_isAheadOf_12 (by decide) (fun c3 => ?_) (fun c3 => ?_)
  · replace h := h.1 c3
    refine lv_aload_n hx hb dX5_isAheadOf_36 rfl (lv_at hl 0 rfl) ?_
    refine lv_iload_n hx hb dX5_isAheadOf_37 rfl (lv_at hl 1 rfl) ?_
    refine g_vI C hK hl.1 (m_X5_allGoodsOf l G aG γ x1 _ h) mw_X5_allGoodsOf mi_X5_allGoodsOf ml_X5_45 rfl ⟨rfl, rfl, Nat.le_of_ble_eq_true rfl, Nat.le_of_ble_eq_true rfl⟩ ⟨Nat.zero_le _, Nat.zero_le _⟩ (g_recv (a := aG) (k := 1) hK hG rfl rfl) hG hS (fun _ h => h.elim) rfl (Nat.le_of_ble_eq_true rfl) dX5_isAheadOf_38 (fun r4 u H locs h hu _ hq hS => ?_)
    have hG := hG.past hq (fun _ _ h => h)
    refine lv_aload_n hx hb dX5_isAheadOf_41 rfl (lv_at hl 0 rfl) ?_
    refine lv_iload_n hx hb dX5_isAheadOf_42 rfl (lv_at hl 2 rfl) ?_
    refine g_vI C hK hl.1 (m_X5_allGoodsOf l G aG γ x2 _ h) mw_X5_allGoodsOf mi_X5_allGoodsOf ml_X5_45 rfl ⟨rfl, rfl, Nat.le_of_ble_eq_true rfl, Nat.le_of_ble_eq_true rfl⟩ ⟨Nat.zero_le _, Nat.zero_le _⟩ (g_recv (a := aG) (k := 1) hK hG rfl rfl) hG hS (fun _ h => h.elim) rfl (Nat.le_of_ble_eq_true rfl) dX5_isAheadOf_43 (fun r5 u H locs h hu _ hq hS => ?_)
    have hG := hG.past hq (fun _ _ h => h)
    refine lv_icmp_le (tgt := 53) hx hb dX5_isAheadOf_46 (by decide) (fun c6 => ?_) (fun c6 => ?_)
    · replace h := h.1 c6
      refine lv_iconst (v := 0) hx hb dX5_isAheadOf_53 (by decide) ?_
      exact g_zret (post := fun r (_ : Unit) => Q r) (P' := fun _ _ => True) (r := 0) (u := ()) C hr hK hS (by rfl) h trivial dX5_isAheadOf_54
    · replace h := h.2 c6
      refine lv_iconst (v := 1) hx hb dX5_isAheadOf_49 (by decide) ?_
      refine lv_goto (tgt := 54) hx hb dX5_isAheadOf_50 (by decide) ?_
      exact g_zret (post := fun r (_ : Unit) => Q r) (P' := fun _ _ => True) (r := 1) (u := ()) C hr hK hS (by rfl) h trivial dX5_isAheadOf_54
  · replace h := h.2 c3
    refine lv_aload_n hx hb dX5_isAheadOf_15 rfl (lv_at hl 0 rfl) ?_
    refine g_getR (a := aG) (k := 1) (o := 3) C hK hG fl_X5_15 rfl rfl dX5_isAheadOf_16 ?_
    refine lv_iload_n hx hb dX5_isAheadOf_19 rfl (lv_at hl 1 rfl) ?_
    refine g_ald (a := aG) (k := 3) (n := 4) C hK hG rfl b1 dX5_isAheadOf_20 ?_
    refine lv_aload_n hx hb dX5_isAheadOf_21 rfl (lv_at hl 0 rfl) ?_
    refine g_getR (a := aG) (k := 1) (o := 3) C hK hG fl_X5_15 rfl rfl dX5_isAheadOf_22 ?_
    refine lv_iload_n hx hb dX5_isAheadOf_25 rfl (lv_at hl 2 rfl) ?_
    refine g_ald (a := aG) (k := 3) (n := 4) C hK hG rfl b2 dX5_isAheadOf_26 ?_
    refine lv_icmp_le (tgt := 34) hx hb dX5_isAheadOf_27 (by decide) (fun c7 => ?_) (fun c7 => ?_)
    · replace h := h.1 c7
      refine lv_iconst (v := 0) hx hb dX5_isAheadOf_34 (by decide) ?_
      exact g_zret (post := fun r (_ : Unit) => Q r) (P' := fun _ _ => True) (r := 0) (u := ()) C hr hK hS (by rfl) h trivial dX5_isAheadOf_35
    · replace h := h.2 c7
      refine lv_iconst (v := 1) hx hb dX5_isAheadOf_30 (by decide) ?_
      refine lv_goto (tgt := 35) hx hb dX5_isAheadOf_31 (by decide) ?_
      exact g_zret (post := fun r (_ : Unit) => Q r) (P' := fun _ _ => True) (r := 1) (u := ()) C hr hK hS (by rfl) h trivial dX5_isAheadOf_35
theorem dX5_ahead_0 : decode cX5_ahead 0 = .ok (.aload_n 0, 1) := by decide +kernel
theorem dX5_ahead_1 : decode cX5_ahead 1 = .ok (.getfield 18, 3) := by decide +kernel
theorem dX5_ahead_4 : decode cX5_ahead 4 = .ok (.ifCond .ne 6, 3) := by decide +kernel
theorem dX5_ahead_7 : decode cX5_ahead 7 = .ok (.ldc 49, 2) := by decide +kernel
theorem dX5_ahead_9 : decode cX5_ahead 9 = .ok (.ireturn, 1) := by decide +kernel
theorem dX5_ahead_10 : decode cX5_ahead 10 = .ok (.iconst 0, 1) := by decide +kernel
theorem dX5_ahead_11 : decode cX5_ahead 11 = .ok (.istore_n 1, 1) := by decide +kernel
theorem dX5_ahead_12 : decode cX5_ahead 12 = .ok (.iconst 1, 1) := by decide +kernel
theorem dX5_ahead_13 : decode cX5_ahead 13 = .ok (.istore_n 2, 1) := by decide +kernel
theorem dX5_ahead_14 : decode cX5_ahead 14 = .ok (.iload_n 2, 1) := by decide +kernel
theorem dX5_ahead_15 : decode cX5_ahead 15 = .ok (.aload_n 0, 1) := by decide +kernel
theorem dX5_ahead_16 : decode cX5_ahead 16 = .ok (.getfield 18, 3) := by decide +kernel
theorem dX5_ahead_19 : decode cX5_ahead 19 = .ok (.if_icmp .ge 25, 3) := by decide +kernel
theorem dX5_ahead_22 : decode cX5_ahead 22 = .ok (.iload_n 2, 1) := by decide +kernel
theorem dX5_ahead_23 : decode cX5_ahead 23 = .ok (.iconst 4, 1) := by decide +kernel
theorem dX5_ahead_24 : decode cX5_ahead 24 = .ok (.if_icmp .ge 20, 3) := by decide +kernel
theorem dX5_ahead_27 : decode cX5_ahead 27 = .ok (.aload_n 0, 1) := by decide +kernel
theorem dX5_ahead_28 : decode cX5_ahead 28 = .ok (.iload_n 2, 1) := by decide +kernel
theorem dX5_ahead_29 : decode cX5_ahead 29 = .ok (.iload_n 1, 1) := by decide +kernel
theorem dX5_ahead_30 : decode cX5_ahead 30 = .ok (.invokevirtual 50, 3) := by decide +kernel
theorem dX5_ahead_33 : decode cX5_ahead 33 = .ok (.ifCond .eq 5, 3) := by decide +kernel
theorem dX5_ahead_36 : decode cX5_ahead 36 = .ok (.iload_n 2, 1) := by decide +kernel
theorem dX5_ahead_37 : decode cX5_ahead 37 = .ok (.istore_n 1, 1) := by decide +kernel
theorem dX5_ahead_38 : decode cX5_ahead 38 = .ok (.iinc 2 1, 3) := by decide +kernel
theorem dX5_ahead_41 : decode cX5_ahead 41 = .ok (.goto (-27), 3) := by decide +kernel
theorem dX5_ahead_44 : decode cX5_ahead 44 = .ok (.iload_n 1, 1) := by decide +kernel
theorem dX5_ahead_45 : decode cX5_ahead 45 = .ok (.ireturn, 1) := by decide +kernel
def vb_X5_ahead_14 (Q : Int32 → Prop) (γ : Mem) (rec : Nat → Int32 → Int32 → Prop) (w1 : Int32) (w2 : Int32) : Prop :=
  (((γ 1 0) ≤ w2) → (Q w1 )) ∧ ((¬ (γ 1 0) ≤ w2) → (((4 ≤ w2) → (Q w1 )) ∧ ((¬ 4 ≤ w2) → (vc_X5_isAheadOf (fun r4 => ((r4 = 0) → (∀ v6 : Int32, v6 = w2 + 1 → (rec 0 w1 v6))) ∧ ((¬ r4 = 0) → (∀ v7 : Int32, v7 = w2 + 1 → (rec 0 w2 v7)))) γ w2 w1))))
def vl_X5_ahead (Q : Int32 → Prop) (γ : Mem) : Nat → Nat → Int32 → Int32 → Prop
  | 0, _, _, _ => False
  | n + 1, 0, w1, w2 => vb_X5_ahead_14 Q γ (vl_X5_ahead Q γ n) w1 w2
  | _ + 1, _, _, _ => False
def vc_X5_ahead (Q : Int32 → Prop) (γ : Mem) : Prop :=
  ∃ n : Nat, ((¬ (γ 1 0) = 0) → (vl_X5_ahead Q γ n 0 0 1)) ∧ (((γ 1 0) = 0) → (Q (-1000004) ))
set_option maxHeartbeats 8000000 in
set_option maxRecDepth 100000 in
theorem m_X5_ahead (l : Launch) (G : GG) (aG : Nat) (γ : Mem) (Q : Int32 → Prop) (h : vc_X5_ahead Q γ) : CtI l yX5_ahead cX5_ahead 3 (some .int) { frames := 3, cells := 0, slots := 0, locals := 65 } [.ref (aG + 1)] G (fun H => rg G LG aG γ H) (fun r (_ : Unit) => Q r) (fun _ _ => True) (fun _ => False) := by
  unfold CtI
  refine met_start (y := yX5_ahead) (maxL := 3) (av := [.ref (aG + 1)]) (G := G) (P := fun H => rg G LG aG γ H) (by decide) rfl (Nat.le_of_ble_eq_true rfl) (fun p e s m below meth c ls C hr hP hK hl => ?_)
  obtain ⟨hx, hb, hml, hown, hts, hlocks⟩ := id C
  have hG : rg G LG aG γ s.heap := hP
  have hS : va_S (fun _ => False) s.heap s.heap [] := va_S.rf
  have hl : lv_has ls 3 [(0, .ref (aG + 1))] := hl
  have K : ∀ n : Nat, (∀ (w1 : Int32) (w2 : Int32) (H : Heap) (locs : List Loc) (ls : Array Slot), rg G LG aG γ H → va_S (fun _ => False) s.heap H locs → lv_has ls 3 [(0, .ref (aG + 1)), (1, .int w1), (2, .int w2)] → vl_X5_ahead Q γ n 0 w1 w2 → W p l e { frames := 3, cells := 0, slots := 0, locals := 65 } s m [.ref (aG + 1)].toArray below meth c H locs 0 0 (MQ below (va_Qi (fun r (_ : Unit) => Q r) (fun u t => (fun _ _ => True) u t.heap ∧ KK G t) (fun _ => False)) [.ref (aG + 1)].toArray s 0 0 (fun _ => False)) (F0 m 14 ls [])) := by
    intro n
    induction n with
    | zero => exact fun _ _ _ _ _ _ _ _ h => h.elim
    | succ n ih =>
      · intro w1 w2 H locs ls hG hS hl h
        replace h : vb_X5_ahead_14 Q γ (vl_X5_ahead Q γ n) w1 w2 := h
        unfold vb_X5_ahead_14 at h
        refine lv_iload_n hx hb dX5_ahead_14 rfl (lv_at hl 2 rfl) ?_
        refine lv_aload_n hx hb dX5_ahead_15 rfl (lv_at hl 0 rfl) ?_
        refine g_getI (a := aG) (k := 1) C hK hG fl_X5_18 rfl rfl dX5_ahead_16 ?_
        refine lv_icmp_ge (tgt := 44) hx hb dX5_ahead_19 (by decide) (fun c2 => ?_) (fun c2 => ?_)
        · replace h := h.1 c2
          refine lv_iload_n hx hb dX5_ahead_44 rfl (lv_at hl 1 rfl) ?_
          exact g_iret (post := fun r (_ : Unit) => Q r) (P' := fun _ _ => True) (r := w1) (u := ()) C hr hK hS h trivial dX5_ahead_45
        · replace h := h.2 c2
          refine lv_iload_n hx hb dX5_ahead_22 rfl (lv_at hl 2 rfl) ?_
          refine lv_iconst (v := 4) hx hb dX5_ahead_23 (by decide) ?_
          refine lv_icmp_ge (tgt := 44) hx hb dX5_ahead_24 (by decide) (fun c3 => ?_) (fun c3 => ?_)
          · replace h := h.1 c3
            refine lv_iload_n hx hb dX5_ahead_44 rfl (lv_at hl 1 rfl) ?_
            exact g_iret (post := fun r (_ : Unit) => Q r) (P' := fun _ _ => True) (r := w1) (u := ()) C hr hK hS h trivial dX5_ahead_45
          · replace h := h.2 c3
            refine lv_aload_n hx hb dX5_ahead_27 rfl (lv_at hl 0 rfl) ?_
            refine lv_iload_n hx hb dX5_ahead_28 rfl (lv_at hl 2 rfl) ?_
            refine lv_iload_n hx hb dX5_ahead_29 rfl (lv_at hl 1 rfl) ?_
            refine g_vI C hK hl.1 (m_X5_isAheadOf l G aG γ w2 w1 _ h) mw_X5_isAheadOf mi_X5_isAheadOf ml_X5_50 rfl ⟨rfl, rfl, Nat.le_of_ble_eq_true rfl, Nat.le_of_ble_eq_true rfl⟩ ⟨Nat.zero_le _, Nat.zero_le _⟩ (g_recv (a := aG) (k := 1) hK hG rfl rfl) hG hS (fun _ h => h.elim) rfl (Nat.le_of_ble_eq_true rfl) dX5_ahead_30 (fun r4 u H locs h hu _ hq hS => ?_)
            have hG := hG.past hq (fun _ _ h => h)
            refine lv_if_eq (tgt := 38) hx hb dX5_ahead_33 (by decide) (fun c5 => ?_) (fun c5 => ?_)
            · replace h := h.1 c5
              obtain ⟨v6, ev6⟩ : ∃ y : Int32, y = w2 + 1 := ⟨_, rfl⟩
              specialize h v6 ev6
              refine lv_iinc (v := v6) (lv' := [(2, .int v6), (0, .ref (aG + 1)), (1, .int w1)]) hx hb dX5_ahead_38 hl (k := 2) rfl (by rw [ev6]; rfl) (by decide) rfl (fun ls hl => ?_)
              refine lv_goto (tgt := 14) hx hb dX5_ahead_41 (by decide) ?_
              exact (ih) w1 v6 _ _ _ hG hS (lv_sub hl [1, 2, 0] rfl) h
            · replace h := h.2 c5
              refine lv_iload_n hx hb dX5_ahead_36 rfl (lv_at hl 2 rfl) ?_
              refine lv_istore_n (lv' := [(1, .int w2), (0, .ref (aG + 1)), (2, .int w2)]) hx hb dX5_ahead_37 rfl hl (by decide) rfl (fun ls hl => ?_)
              obtain ⟨v7, ev7⟩ : ∃ y : Int32, y = w2 + 1 := ⟨_, rfl⟩
              specialize h v7 ev7
              refine lv_iinc (v := v7) (lv' := [(2, .int v7), (1, .int w2), (0, .ref (aG + 1))]) hx hb dX5_ahead_38 hl (k := 2) rfl (by rw [ev7]; rfl) (by decide) rfl (fun ls hl => ?_)
              refine lv_goto (tgt := 14) hx hb dX5_ahead_41 (by decide) ?_
              exact (ih) w2 v7 _ _ _ hG hS (lv_sub hl [2, 1, 0] rfl) h
  unfold vc_X5_ahead at h
  obtain ⟨n, h⟩ := h
  refine lv_aload_n hx hb dX5_ahead_0 rfl (lv_at hl 0 rfl) ?_
  refine g_getI (a := aG) (k := 1) C hK hG fl_X5_18 rfl rfl dX5_ahead_1 ?_
  refine lv_if_ne (tgt := 10) hx hb dX5_ahead_4 (by decide) (fun c1 => ?_) (fun c1 => ?_)
  · replace h := h.1 c1
    refine lv_iconst (v := 0) hx hb dX5_ahead_10 (by decide) ?_
    refine lv_istore_n (lv' := [(1, .int 0), (0, .ref (aG + 1))]) hx hb dX5_ahead_11 rfl hl (by decide) rfl (fun ls hl => ?_)
    refine lv_iconst (v := 1) hx hb dX5_ahead_12 (by decide) ?_
    refine lv_istore_n (lv' := [(2, .int 1), (1, .int 0), (0, .ref (aG + 1))]) hx hb dX5_ahead_13 rfl hl (by decide) rfl (fun ls hl => ?_)
    exact ((K n)) 0 1 _ _ _ hG hS (lv_sub hl [2, 1, 0] rfl) h
  · replace h := h.2 c1
    refine g_ldc C kc_X5_49 dX5_ahead_7 ?_
    exact g_iret (post := fun r (_ : Unit) => Q r) (P' := fun _ _ => True) (r := (-1000004)) (u := ()) C hr hK hS h trivial dX5_ahead_9
theorem dX2_isOut_0 : decode cX2_isOut 0 = .ok (.aload_n 0, 1) := by decide +kernel
theorem dX2_isOut_1 : decode cX2_isOut 1 = .ok (.getfield 18, 3) := by decide +kernel
theorem dX2_isOut_4 : decode cX2_isOut 4 = .ok (.iload_n 1, 1) := by decide +kernel
theorem dX2_isOut_5 : decode cX2_isOut 5 = .ok (.iaload, 1) := by decide +kernel
theorem dX2_isOut_6 : decode cX2_isOut 6 = .ok (.ifCond .ne 7, 3) := by decide +kernel
theorem dX2_isOut_9 : decode cX2_isOut 9 = .ok (.iconst 1, 1) := by decide +kernel
theorem dX2_isOut_10 : decode cX2_isOut 10 = .ok (.goto 4, 3) := by decide +kernel
theorem dX2_isOut_13 : decode cX2_isOut 13 = .ok (.iconst 0, 1) := by decide +kernel
theorem dX2_isOut_14 : decode cX2_isOut 14 = .ok (.ireturn, 1) := by decide +kernel
def vc_X2_isOut (Q : Int32 → Prop) (γ : Mem) (x1 : Int32) : Prop :=
  vp_in x1 12 ∧ (((¬ (γ 7 x1.toNatClampNeg) = 0) → (Q 0 )) ∧ (((γ 7 x1.toNatClampNeg) = 0) → (Q 1 )))
set_option maxHeartbeats 8000000 in
set_option maxRecDepth 100000 in
theorem m_X2_isOut (l : Launch) (G : GG) (aG : Nat) (γ : Mem) (x1 : Int32) (Q : Int32 → Prop) (h : vc_X2_isOut Q γ x1) : CtI l yX2_isOut cX2_isOut 2 (some .boolean) { frames := 0, cells := 0, slots := 0, locals := 0 } [.ref (aG + 4), .int x1] G (fun H => rg G LG aG γ H) (fun r (_ : Unit) => Q r) (fun _ _ => True) (fun _ => False) := by
  unfold CtI
  refine met_start (y := yX2_isOut) (maxL := 2) (av := [.ref (aG + 4), .int x1]) (G := G) (P := fun H => rg G LG aG γ H) (by decide) rfl (Nat.le_of_ble_eq_true rfl) (fun p e s m below meth c ls C hr hP hK hl => ?_)
  obtain ⟨hx, hb, hml, hown, hts, hlocks⟩ := id C
  have hG : rg G LG aG γ s.heap := hP
  have hS : va_S (fun _ => False) s.heap s.heap [] := va_S.rf
  have hl : lv_has ls 2 [(0, .ref (aG + 4)), (1, .int x1)] := hl
  unfold vc_X2_isOut at h
  refine lv_aload_n hx hb dX2_isOut_0 rfl (lv_at hl 0 rfl) ?_
  refine g_getR (a := aG) (k := 4) (o := 7) C hK hG fl_X2_18 rfl rfl dX2_isOut_1 ?_
  refine lv_iload_n hx hb dX2_isOut_4 rfl (lv_at hl 1 rfl) ?_
  obtain ⟨b1, h⟩ := h
  refine g_ald (a := aG) (k := 7) (n := 12) C hK hG rfl b1 dX2_isOut_5 ?_
  refine lv_if_ne (tgt := 13) hx hb dX2_isOut_6 (by decide) (fun c2 => ?_) (fun c2 => ?_)
  · replace h := h.1 c2
    refine lv_iconst (v := 0) hx hb dX2_isOut_13 (by decide) ?_
    exact g_zret (post := fun r (_ : Unit) => Q r) (P' := fun _ _ => True) (r := 0) (u := ()) C hr hK hS (by rfl) h trivial dX2_isOut_14
  · replace h := h.2 c2
    refine lv_iconst (v := 1) hx hb dX2_isOut_9 (by decide) ?_
    refine lv_goto (tgt := 14) hx hb dX2_isOut_10 (by decide) ?_
    exact g_zret (post := fun r (_ : Unit) => Q r) (P' := fun _ _ => True) (r := 1) (u := ()) C hr hK hS (by rfl) h trivial dX2_isOut_14
theorem dX2_start_0 : decode cX2_start 0 = .ok (.aload_n 0, 1) := by decide +kernel
theorem dX2_start_1 : decode cX2_start 1 = .ok (.getfield 15, 3) := by decide +kernel
theorem dX2_start_4 : decode cX2_start 4 = .ok (.iload_n 1, 1) := by decide +kernel
theorem dX2_start_5 : decode cX2_start 5 = .ok (.iload_n 2, 1) := by decide +kernel
theorem dX2_start_6 : decode cX2_start 6 = .ok (.iastore, 1) := by decide +kernel
theorem dX2_start_7 : decode cX2_start 7 = .ok (.aload_n 0, 1) := by decide +kernel
theorem dX2_start_8 : decode cX2_start 8 = .ok (.getfield 18, 3) := by decide +kernel
theorem dX2_start_11 : decode cX2_start 11 = .ok (.iload_n 1, 1) := by decide +kernel
theorem dX2_start_12 : decode cX2_start 12 = .ok (.aload_n 0, 1) := by decide +kernel
theorem dX2_start_13 : decode cX2_start 13 = .ok (.getfield 9, 3) := by decide +kernel
theorem dX2_start_16 : decode cX2_start 16 = .ok (.iload_n 1, 1) := by decide +kernel
theorem dX2_start_17 : decode cX2_start 17 = .ok (.iaload, 1) := by decide +kernel
theorem dX2_start_18 : decode cX2_start 18 = .ok (.iastore, 1) := by decide +kernel
theorem dX2_start_19 : decode cX2_start 19 = .ok (.aload_n 0, 1) := by decide +kernel
theorem dX2_start_20 : decode cX2_start 20 = .ok (.getfield 21, 3) := by decide +kernel
theorem dX2_start_23 : decode cX2_start 23 = .ok (.iload_n 1, 1) := by decide +kernel
theorem dX2_start_24 : decode cX2_start 24 = .ok (.aload_n 0, 1) := by decide +kernel
theorem dX2_start_25 : decode cX2_start 25 = .ok (.getfield 33, 3) := by decide +kernel
theorem dX2_start_28 : decode cX2_start 28 = .ok (.iastore, 1) := by decide +kernel
theorem dX2_start_29 : decode cX2_start 29 = .ok (.aload_n 0, 1) := by decide +kernel
theorem dX2_start_30 : decode cX2_start 30 = .ok (.dup, 1) := by decide +kernel
theorem dX2_start_31 : decode cX2_start 31 = .ok (.getfield 33, 3) := by decide +kernel
theorem dX2_start_34 : decode cX2_start 34 = .ok (.iconst 1, 1) := by decide +kernel
theorem dX2_start_35 : decode cX2_start 35 = .ok (.iadd, 1) := by decide +kernel
theorem dX2_start_36 : decode cX2_start 36 = .ok (.putfield 33, 3) := by decide +kernel
theorem dX2_start_39 : decode cX2_start 39 = .ok (.return_, 1) := by decide +kernel
def vc_X2_start (Q : Mem → Prop) (γ : Mem) (x1 : Int32) (x2 : Int32) : Prop :=
  vp_in x1 12 ∧ (∀ γ2 : Mem, γ2 = up γ 6 x1.toNatClampNeg x2 → (((∀ γ3 : Mem, γ3 = up γ2 7 x1.toNatClampNeg (γ2 5 x1.toNatClampNeg) → ((∀ γ4 : Mem, γ4 = up γ3 8 x1.toNatClampNeg (γ3 4 0) → (∀ γ5 : Mem, γ5 = up γ4 4 0 ((γ4 4 0) + 1) → (Q γ5))))))))
set_option maxHeartbeats 8000000 in
set_option maxRecDepth 100000 in
theorem m_X2_start (l : Launch) (G : GG) (aG : Nat) (γ : Mem) (x1 : Int32) (x2 : Int32) (Q : Mem → Prop) (h : vc_X2_start Q γ x1 x2) : CtV l yX2_start cX2_start 3 { frames := 0, cells := 0, slots := 0, locals := 0 } [.ref (aG + 4), .int x1, .int x2] G (fun H => rg G LG aG γ H) (Q) (fun u H => rg G LG aG u H) (RA aG 22) := by
  unfold CtV
  refine met_start (y := yX2_start) (maxL := 3) (av := [.ref (aG + 4), .int x1, .int x2]) (G := G) (P := fun H => rg G LG aG γ H) (by decide) rfl (Nat.le_of_ble_eq_true rfl) (fun p e s m below meth c ls C hr hP hK hl => ?_)
  obtain ⟨hx, hb, hml, hown, hts, hlocks⟩ := id C
  have hG : rg G LG aG γ s.heap := hP
  have hS : va_S (RA aG 22) s.heap s.heap [] := va_S.rf
  have hl : lv_has ls 3 [(0, .ref (aG + 4)), (1, .int x1), (2, .int x2)] := hl
  unfold vc_X2_start at h
  refine lv_aload_n hx hb dX2_start_0 rfl (lv_at hl 0 rfl) ?_
  refine g_getR (a := aG) (k := 4) (o := 6) C hK hG fl_X2_15 rfl rfl dX2_start_1 ?_
  refine lv_iload_n hx hb dX2_start_4 rfl (lv_at hl 1 rfl) ?_
  refine lv_iload_n hx hb dX2_start_5 rfl (lv_at hl 2 rfl) ?_
  obtain ⟨b1, h⟩ := h
  refine g_ast (a := aG) (k := 6) (n := 12) C hK hG hS rfl b1 (RA_in (by decide)) dX2_start_6 (fun γ2 H locs eγ2 hG hS hq => ?_)
  specialize h γ2 eγ2
  refine lv_aload_n hx hb dX2_start_7 rfl (lv_at hl 0 rfl) ?_
  refine g_getR (a := aG) (k := 4) (o := 7) C hK hG fl_X2_18 rfl rfl dX2_start_8 ?_
  refine lv_iload_n hx hb dX2_start_11 rfl (lv_at hl 1 rfl) ?_
  refine lv_aload_n hx hb dX2_start_12 rfl (lv_at hl 0 rfl) ?_
  refine g_getR (a := aG) (k := 4) (o := 5) C hK hG fl_X2_9 rfl rfl dX2_start_13 ?_
  refine lv_iload_n hx hb dX2_start_16 rfl (lv_at hl 1 rfl) ?_
  refine g_ald (a := aG) (k := 5) (n := 12) C hK hG rfl b1 dX2_start_17 ?_
  refine g_ast (a := aG) (k := 7) (n := 12) C hK hG hS rfl b1 (RA_in (by decide)) dX2_start_18 (fun γ3 H locs eγ3 hG hS hq => ?_)
  specialize h γ3 eγ3
  refine lv_aload_n hx hb dX2_start_19 rfl (lv_at hl 0 rfl) ?_
  refine g_getR (a := aG) (k := 4) (o := 8) C hK hG fl_X2_21 rfl rfl dX2_start_20 ?_
  refine lv_iload_n hx hb dX2_start_23 rfl (lv_at hl 1 rfl) ?_
  refine lv_aload_n hx hb dX2_start_24 rfl (lv_at hl 0 rfl) ?_
  refine g_getI (a := aG) (k := 4) C hK hG fl_X2_33 rfl rfl dX2_start_25 ?_
  refine g_ast (a := aG) (k := 8) (n := 12) C hK hG hS rfl b1 (RA_in (by decide)) dX2_start_28 (fun γ4 H locs eγ4 hG hS hq => ?_)
  specialize h γ4 eγ4
  refine lv_aload_n hx hb dX2_start_29 rfl (lv_at hl 0 rfl) ?_
  refine lv_dup hx hb dX2_start_30 rfl ?_
  refine g_getI (a := aG) (k := 4) C hK hG fl_X2_33 rfl rfl dX2_start_31 ?_
  refine lv_iconst (v := 1) hx hb dX2_start_34 (by decide) ?_
  refine lv_iadd hx hb dX2_start_35 ?_
  refine g_put (a := aG) (k := 4) C hK hG hS fl_X2_33 fp_X2_0 rfl rfl (by rfl) (by rfl) (RA_in (by decide)) dX2_start_36 (fun γ5 H locs eγ5 hG hS hq => ?_)
  specialize h γ5 eγ5
  exact g_vret (post := Q) (P' := fun u H => rg G LG aG u H) (u := γ5) C hr hK hS h hG dX2_start_39
