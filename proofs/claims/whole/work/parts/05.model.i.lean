theorem dX8_play_0 : decode cX8_play 0 = .ok (.aload_n 0, 1) := by decide +kernel
theorem dX8_play_1 : decode cX8_play 1 = .ok (.getfield 7, 3) := by decide +kernel
theorem dX8_play_4 : decode cX8_play 4 = .ok (.aload_n 0, 1) := by decide +kernel
theorem dX8_play_5 : decode cX8_play 5 = .ok (.getfield 16, 3) := by decide +kernel
theorem dX8_play_8 : decode cX8_play 8 = .ok (.invokestatic 114, 3) := by decide +kernel
theorem dX8_play_11 : decode cX8_play 11 = .ok (.aload_n 0, 1) := by decide +kernel
theorem dX8_play_12 : decode cX8_play 12 = .ok (.invokevirtual 205, 3) := by decide +kernel
theorem dX8_play_15 : decode cX8_play 15 = .ok (.istore_n 1, 1) := by decide +kernel
theorem dX8_play_16 : decode cX8_play 16 = .ok (.aload_n 0, 1) := by decide +kernel
theorem dX8_play_17 : decode cX8_play 17 = .ok (.getfield 16, 3) := by decide +kernel
theorem dX8_play_20 : decode cX8_play 20 = .ok (.aload_n 0, 1) := by decide +kernel
theorem dX8_play_21 : decode cX8_play 21 = .ok (.getfield 7, 3) := by decide +kernel
theorem dX8_play_24 : decode cX8_play 24 = .ok (.invokestatic 114, 3) := by decide +kernel
theorem dX8_play_27 : decode cX8_play 27 = .ok (.iload_n 1, 1) := by decide +kernel
theorem dX8_play_28 : decode cX8_play 28 = .ok (.ifCond .ne 6, 3) := by decide +kernel
theorem dX8_play_31 : decode cX8_play 31 = .ok (.ldc 63, 2) := by decide +kernel
theorem dX8_play_33 : decode cX8_play 33 = .ok (.ireturn, 1) := by decide +kernel
theorem dX8_play_34 : decode cX8_play 34 = .ok (.aload_n 0, 1) := by decide +kernel
theorem dX8_play_35 : decode cX8_play 35 = .ok (.invokevirtual 52, 3) := by decide +kernel
theorem dX8_play_38 : decode cX8_play 38 = .ok (.aload_n 0, 1) := by decide +kernel
theorem dX8_play_39 : decode cX8_play 39 = .ok (.invokevirtual 205, 3) := by decide +kernel
theorem dX8_play_42 : decode cX8_play 42 = .ok (.ifCond .eq 10, 3) := by decide +kernel
theorem dX8_play_45 : decode cX8_play 45 = .ok (.aload_n 0, 1) := by decide +kernel
theorem dX8_play_46 : decode cX8_play 46 = .ok (.getfield 190, 3) := by decide +kernel
theorem dX8_play_49 : decode cX8_play 49 = .ok (.goto 5, 3) := by decide +kernel
theorem dX8_play_52 : decode cX8_play 52 = .ok (.ldc 113, 2) := by decide +kernel
theorem dX8_play_54 : decode cX8_play 54 = .ok (.ireturn, 1) := by decide +kernel
def vc_X8_play (Q : Int32 → Mem → Prop) (ρ : Mem) : Prop :=
  vc_X8_copies (fun ρ2 => vc_X8_plays (fun r3 ρ4 => vc_X8_copies (fun ρ6 => ((¬ r3 = 0) → (vc_X8_changes (fun ρ9 => vc_X8_plays (fun r10 ρ11 => ((r10 = 0) → (Q (-1000004) ρ11)) ∧ ((¬ r10 = 0) → (Q (ρ11 0 14) ρ11))) ρ9) ρ6)) ∧ ((r3 = 0) → (Q (-1000002) ρ6))) ρ4 3 1) ρ2) ρ 1 3
set_option maxHeartbeats 8000000 in
set_option maxRecDepth 100000 in
theorem m_X8_play (l : Launch) (G : GG) (aM : Nat) (ρ : Mem) (Q : Int32 → Mem → Prop) (h : vc_X8_play Q ρ) : CtI l yX8_play cX8_play 2 (some .int) { frames := 7, cells := 0, slots := 0, locals := 156 } [.ref (aM + 0)] G (fun H => rg G LM aM ρ H) (Q) (fun u H => rg G LM aM u H) (RA aM 8) := by
  unfold CtI
  refine met_start (y := yX8_play) (maxL := 2) (av := [.ref (aM + 0)]) (G := G) (P := fun H => rg G LM aM ρ H) (by decide) rfl (Nat.le_of_ble_eq_true rfl) (fun p e s m below meth c ls C hr hP hK hl => ?_)
  obtain ⟨hx, hb, hml, hown, hts, hlocks⟩ := id C
  have hM : rg G LM aM ρ s.heap := hP
  have hS : va_S (RA aM 8) s.heap s.heap [] := va_S.rf
  have hl : lv_has ls 2 [(0, .ref (aM + 0))] := hl
  unfold vc_X8_play at h
  refine lv_aload_n hx hb dX8_play_0 rfl (lv_at hl 0 rfl) ?_
  refine g_getR (a := aM) (k := 0) (o := 1) C hK hM fl_X8_7 rfl rfl dX8_play_1 ?_
  refine lv_aload_n hx hb dX8_play_4 rfl (lv_at hl 0 rfl) ?_
  refine g_getR (a := aM) (k := 0) (o := 3) C hK hM fl_X8_16 rfl rfl dX8_play_5 ?_
  refine g_sV C hK hl.1 (m_X8_copies l G aM ρ 1 rfl 3 rfl _ h) mw_X8_copies ms_X8_copies ml_X8_114 rfl ⟨rfl, rfl, Nat.le_of_ble_eq_true rfl, Nat.le_of_ble_eq_true rfl⟩ ⟨Nat.zero_le _, Nat.zero_le _⟩ hM hS (fun _ h => h) rfl (Nat.le_of_ble_eq_true rfl) dX8_play_8 (fun u H locs h hu _ hq hS => ?_)
  obtain ⟨ρ2, rfl⟩ : ∃ z, z = u := ⟨_, rfl⟩
  have hM := hu
  refine lv_aload_n hx hb dX8_play_11 rfl (lv_at hl 0 rfl) ?_
  refine g_vI C hK hl.1 (m_X8_plays l G aM ρ2 _ h) mw_X8_plays mi_X8_plays ml_X8_205 rfl ⟨rfl, rfl, Nat.le_of_ble_eq_true rfl, Nat.le_of_ble_eq_true rfl⟩ ⟨Nat.zero_le _, Nat.zero_le _⟩ (g_recv (a := aM) (k := 0) hK hM rfl rfl) hM hS (fun _ h => h) rfl (Nat.le_of_ble_eq_true rfl) dX8_play_12 (fun r3 u H locs h hu _ hq hS => ?_)
  obtain ⟨ρ4, rfl⟩ : ∃ z, z = u := ⟨_, rfl⟩
  have hM := hu
  refine lv_istore_n (lv' := [(1, .int r3), (0, .ref (aM + 0))]) hx hb dX8_play_15 rfl hl (by decide) rfl (fun ls hl => ?_)
  refine lv_aload_n hx hb dX8_play_16 rfl (lv_at hl 1 rfl) ?_
  refine g_getR (a := aM) (k := 0) (o := 3) C hK hM fl_X8_16 rfl rfl dX8_play_17 ?_
  refine lv_aload_n hx hb dX8_play_20 rfl (lv_at hl 1 rfl) ?_
  refine g_getR (a := aM) (k := 0) (o := 1) C hK hM fl_X8_7 rfl rfl dX8_play_21 ?_
  refine g_sV C hK hl.1 (m_X8_copies l G aM ρ4 3 rfl 1 rfl _ h) mw_X8_copies ms_X8_copies ml_X8_114 rfl ⟨rfl, rfl, Nat.le_of_ble_eq_true rfl, Nat.le_of_ble_eq_true rfl⟩ ⟨Nat.zero_le _, Nat.zero_le _⟩ hM hS (fun _ h => h) rfl (Nat.le_of_ble_eq_true rfl) dX8_play_24 (fun u H locs h hu _ hq hS => ?_)
  obtain ⟨ρ6, rfl⟩ : ∃ z, z = u := ⟨_, rfl⟩
  have hM := hu
  refine lv_iload_n hx hb dX8_play_27 rfl (lv_at hl 0 rfl) ?_
  refine lv_if_ne (tgt := 34) hx hb dX8_play_28 (by decide) (fun c7 => ?_) (fun c7 => ?_)
  · replace h := h.1 c7
    refine lv_aload_n hx hb dX8_play_34 rfl (lv_at hl 1 rfl) ?_
    refine g_vV C hK hl.1 (m_X8_changes l G aM ρ6 _ h) mw_X8_changes mi_X8_changes ml_X8_52 rfl ⟨rfl, rfl, Nat.le_of_ble_eq_true rfl, Nat.le_of_ble_eq_true rfl⟩ ⟨Nat.zero_le _, Nat.zero_le _⟩ (g_recv (a := aM) (k := 0) hK hM rfl rfl) hM hS (fun _ h => h) rfl (Nat.le_of_ble_eq_true rfl) dX8_play_35 (fun u H locs h hu _ hq hS => ?_)
    obtain ⟨ρ9, rfl⟩ : ∃ z, z = u := ⟨_, rfl⟩
    have hM := hu
    refine lv_aload_n hx hb dX8_play_38 rfl (lv_at hl 1 rfl) ?_
    refine g_vI C hK hl.1 (m_X8_plays l G aM ρ9 _ h) mw_X8_plays mi_X8_plays ml_X8_205 rfl ⟨rfl, rfl, Nat.le_of_ble_eq_true rfl, Nat.le_of_ble_eq_true rfl⟩ ⟨Nat.zero_le _, Nat.zero_le _⟩ (g_recv (a := aM) (k := 0) hK hM rfl rfl) hM hS (fun _ h => h) rfl (Nat.le_of_ble_eq_true rfl) dX8_play_39 (fun r10 u H locs h hu _ hq hS => ?_)
    obtain ⟨ρ11, rfl⟩ : ∃ z, z = u := ⟨_, rfl⟩
    have hM := hu
    refine lv_if_eq (tgt := 52) hx hb dX8_play_42 (by decide) (fun c12 => ?_) (fun c12 => ?_)
    · replace h := h.1 c12
      refine g_ldc C kc_X8_113 dX8_play_52 ?_
      exact g_iret (post := Q) (P' := fun u H => rg G LM aM u H) (r := (-1000004)) (u := ρ11) C hr hK hS h hM dX8_play_54
    · replace h := h.2 c12
      refine lv_aload_n hx hb dX8_play_45 rfl (lv_at hl 1 rfl) ?_
      refine g_getI (a := aM) (k := 0) C hK hM fl_X8_190 rfl rfl dX8_play_46 ?_
      refine lv_goto (tgt := 54) hx hb dX8_play_49 (by decide) ?_
      exact g_iret (post := Q) (P' := fun u H => rg G LM aM u H) (r := (ρ11 0 14)) (u := ρ11) C hr hK hS h hM dX8_play_54
  · replace h := h.2 c7
    refine g_ldc C kc_X8_63 dX8_play_31 ?_
    exact g_iret (post := Q) (P' := fun u H => rg G LM aM u H) (r := (-1000002)) (u := ρ6) C hr hK hS h hM dX8_play_33
