theorem dX0_copyFrom_0 : decode cX0_copyFrom 0 = .ok (.aload_n 0, 1) := by decide +kernel
theorem dX0_copyFrom_1 : decode cX0_copyFrom 1 = .ok (.aload_n 1, 1) := by decide +kernel
theorem dX0_copyFrom_2 : decode cX0_copyFrom 2 = .ok (.getfield 18, 3) := by decide +kernel
theorem dX0_copyFrom_5 : decode cX0_copyFrom 5 = .ok (.putfield 18, 3) := by decide +kernel
theorem dX0_copyFrom_8 : decode cX0_copyFrom 8 = .ok (.aload_n 1, 1) := by decide +kernel
theorem dX0_copyFrom_9 : decode cX0_copyFrom 9 = .ok (.getfield 9, 3) := by decide +kernel
theorem dX0_copyFrom_12 : decode cX0_copyFrom 12 = .ok (.aload_n 0, 1) := by decide +kernel
theorem dX0_copyFrom_13 : decode cX0_copyFrom 13 = .ok (.getfield 9, 3) := by decide +kernel
theorem dX0_copyFrom_16 : decode cX0_copyFrom 16 = .ok (.invokestatic 22, 3) := by decide +kernel
theorem dX0_copyFrom_19 : decode cX0_copyFrom 19 = .ok (.aload_n 1, 1) := by decide +kernel
theorem dX0_copyFrom_20 : decode cX0_copyFrom 20 = .ok (.getfield 15, 3) := by decide +kernel
theorem dX0_copyFrom_23 : decode cX0_copyFrom 23 = .ok (.aload_n 0, 1) := by decide +kernel
theorem dX0_copyFrom_24 : decode cX0_copyFrom 24 = .ok (.getfield 15, 3) := by decide +kernel
theorem dX0_copyFrom_27 : decode cX0_copyFrom 27 = .ok (.invokestatic 22, 3) := by decide +kernel
theorem dX0_copyFrom_30 : decode cX0_copyFrom 30 = .ok (.return_, 1) := by decide +kernel
def vc_X0_copyFrom (Q : Mem → Prop) (τ : Mem) (γ : Mem) : Prop :=
  ∀ τ1 : Mem, τ1 = up τ 18 0 (γ 18 0) → (vc_X7_copyRow (fun τ3 => vc_X7_copyRow (fun τ5 => Q τ5) τ3 γ 20 20) τ1 γ 19 19)
set_option maxHeartbeats 8000000 in
set_option maxRecDepth 100000 in
theorem m_X0_copyFrom (l : Launch) (G : GG) (aT : Nat) (aS : Nat) (τ : Mem) (γ : Mem) (hd : aT + 22 ≤ aS ∨ aS + 22 ≤ aT) (Q : Mem → Prop) (h : vc_X0_copyFrom Q τ γ) : CtV l yX0_copyFrom cX0_copyFrom 2 { frames := 2, cells := 0, slots := 0, locals := 61 } [.ref (aT + 18), .ref (aS + 18)] G (fun H => rg G LG aT τ H ∧ rg G LG aS γ H) (Q) (fun u H => rg G LG aT u H) (RA aT 22) := by
  unfold CtV
  refine met_start (y := yX0_copyFrom) (maxL := 2) (av := [.ref (aT + 18), .ref (aS + 18)]) (G := G) (P := fun H => rg G LG aT τ H ∧ rg G LG aS γ H) (by decide) rfl (Nat.le_of_ble_eq_true rfl) (fun p e s m below meth c ls C hr hP hK hl => ?_)
  obtain ⟨hx, hb, hml, hown, hts, hlocks⟩ := id C
  obtain ⟨hT, hF⟩ := hP
  have hS : va_S (RA aT 22) s.heap s.heap [] := va_S.rf
  have hl : lv_has ls 2 [(0, .ref (aT + 18)), (1, .ref (aS + 18))] := hl
  unfold vc_X0_copyFrom at h
  refine lv_aload_n hx hb dX0_copyFrom_0 rfl (lv_at hl 0 rfl) ?_
  refine lv_aload_n hx hb dX0_copyFrom_1 rfl (lv_at hl 1 rfl) ?_
  refine g_getI (a := aS) (k := 18) C hK hF fl_X0_18 rfl rfl dX0_copyFrom_2 ?_
  refine g_put (a := aT) (k := 18) C hK hT hS fl_X0_18 fp_X0_0 rfl rfl (by rfl) (by rfl) (RA_in (by decide)) dX0_copyFrom_5 (fun τ1 H locs eτ1 hT hS hq => ?_)
  specialize h τ1 eτ1
  have hF := hF.kept (fun j hj => hq _ (by have hj : j < 22 := hj; omega))
  refine lv_aload_n hx hb dX0_copyFrom_8 rfl (lv_at hl 1 rfl) ?_
  refine g_getR (a := aS) (k := 18) (o := 19) C hK hF fl_X0_9 rfl rfl dX0_copyFrom_9 ?_
  refine lv_aload_n hx hb dX0_copyFrom_12 rfl (lv_at hl 0 rfl) ?_
  refine g_getR (a := aT) (k := 18) (o := 19) C hK hT fl_X0_9 rfl rfl dX0_copyFrom_13 ?_
  refine g_nV C hK hl.1 (m_X7_copyRow l G aT aS τ1 γ 19 rfl 19 rfl (by omega) _ h) mw_X7_copyRow ms_X7_copyRow nl_X0_22 rfl ⟨rfl, rfl, Nat.le_of_ble_eq_true rfl, Nat.le_of_ble_eq_true rfl⟩ ⟨Nat.zero_le _, Nat.zero_le _⟩ ⟨hT, hF⟩ hS (fun _ h => h) rfl (Nat.le_of_ble_eq_true rfl) dX0_copyFrom_16 (fun u H locs h hu _ hq hS => ?_)
  obtain ⟨τ3, rfl⟩ : ∃ z, z = u := ⟨_, rfl⟩
  have hT := hu
  have hF := hF.past hq (fun j hj h => by have hj : j < 22 := hj; simp only [RA] at h; omega)
  refine lv_aload_n hx hb dX0_copyFrom_19 rfl (lv_at hl 1 rfl) ?_
  refine g_getR (a := aS) (k := 18) (o := 20) C hK hF fl_X0_15 rfl rfl dX0_copyFrom_20 ?_
  refine lv_aload_n hx hb dX0_copyFrom_23 rfl (lv_at hl 0 rfl) ?_
  refine g_getR (a := aT) (k := 18) (o := 20) C hK hT fl_X0_15 rfl rfl dX0_copyFrom_24 ?_
  refine g_nV C hK hl.1 (m_X7_copyRow l G aT aS τ3 γ 20 rfl 20 rfl (by omega) _ h) mw_X7_copyRow ms_X7_copyRow nl_X0_22 rfl ⟨rfl, rfl, Nat.le_of_ble_eq_true rfl, Nat.le_of_ble_eq_true rfl⟩ ⟨Nat.zero_le _, Nat.zero_le _⟩ ⟨hT, hF⟩ hS (fun _ h => h) rfl (Nat.le_of_ble_eq_true rfl) dX0_copyFrom_27 (fun u H locs h hu _ hq hS => ?_)
  obtain ⟨τ5, rfl⟩ : ∃ z, z = u := ⟨_, rfl⟩
  have hT := hu
  have hF := hF.past hq (fun j hj h => by have hj : j < 22 := hj; simp only [RA] at h; omega)
  exact g_vret (post := Q) (P' := fun u H => rg G LG aT u H) (u := τ5) C hr hK hS h hT dX0_copyFrom_30
theorem dX5_copyFrom_0 : decode cX5_copyFrom 0 = .ok (.aload_n 0, 1) := by decide +kernel
theorem dX5_copyFrom_1 : decode cX5_copyFrom 1 = .ok (.aload_n 1, 1) := by decide +kernel
theorem dX5_copyFrom_2 : decode cX5_copyFrom 2 = .ok (.getfield 18, 3) := by decide +kernel
theorem dX5_copyFrom_5 : decode cX5_copyFrom 5 = .ok (.putfield 18, 3) := by decide +kernel
theorem dX5_copyFrom_8 : decode cX5_copyFrom 8 = .ok (.aload_n 0, 1) := by decide +kernel
theorem dX5_copyFrom_9 : decode cX5_copyFrom 9 = .ok (.aload_n 1, 1) := by decide +kernel
theorem dX5_copyFrom_10 : decode cX5_copyFrom 10 = .ok (.getfield 22, 3) := by decide +kernel
theorem dX5_copyFrom_13 : decode cX5_copyFrom 13 = .ok (.putfield 22, 3) := by decide +kernel
theorem dX5_copyFrom_16 : decode cX5_copyFrom 16 = .ok (.aload_n 1, 1) := by decide +kernel
theorem dX5_copyFrom_17 : decode cX5_copyFrom 17 = .ok (.getfield 9, 3) := by decide +kernel
theorem dX5_copyFrom_20 : decode cX5_copyFrom 20 = .ok (.aload_n 0, 1) := by decide +kernel
theorem dX5_copyFrom_21 : decode cX5_copyFrom 21 = .ok (.getfield 9, 3) := by decide +kernel
theorem dX5_copyFrom_24 : decode cX5_copyFrom 24 = .ok (.invokestatic 25, 3) := by decide +kernel
theorem dX5_copyFrom_27 : decode cX5_copyFrom 27 = .ok (.aload_n 1, 1) := by decide +kernel
theorem dX5_copyFrom_28 : decode cX5_copyFrom 28 = .ok (.getfield 15, 3) := by decide +kernel
theorem dX5_copyFrom_31 : decode cX5_copyFrom 31 = .ok (.aload_n 0, 1) := by decide +kernel
theorem dX5_copyFrom_32 : decode cX5_copyFrom 32 = .ok (.getfield 15, 3) := by decide +kernel
theorem dX5_copyFrom_35 : decode cX5_copyFrom 35 = .ok (.invokestatic 25, 3) := by decide +kernel
theorem dX5_copyFrom_38 : decode cX5_copyFrom 38 = .ok (.return_, 1) := by decide +kernel
def vc_X5_copyFrom (Q : Mem → Prop) (τ : Mem) (γ : Mem) : Prop :=
  ∀ τ1 : Mem, τ1 = up τ 1 0 (γ 1 0) → (∀ τ2 : Mem, τ2 = up τ1 1 1 (γ 1 1) → (vc_X7_copyRow (fun τ4 => vc_X7_copyRow (fun τ6 => Q τ6) τ4 γ 3 3) τ2 γ 2 2))
set_option maxHeartbeats 8000000 in
set_option maxRecDepth 100000 in
theorem m_X5_copyFrom (l : Launch) (G : GG) (aT : Nat) (aS : Nat) (τ : Mem) (γ : Mem) (hd : aT + 22 ≤ aS ∨ aS + 22 ≤ aT) (Q : Mem → Prop) (h : vc_X5_copyFrom Q τ γ) : CtV l yX5_copyFrom cX5_copyFrom 2 { frames := 2, cells := 0, slots := 0, locals := 61 } [.ref (aT + 1), .ref (aS + 1)] G (fun H => rg G LG aT τ H ∧ rg G LG aS γ H) (Q) (fun u H => rg G LG aT u H) (RA aT 22) := by
  unfold CtV
  refine met_start (y := yX5_copyFrom) (maxL := 2) (av := [.ref (aT + 1), .ref (aS + 1)]) (G := G) (P := fun H => rg G LG aT τ H ∧ rg G LG aS γ H) (by decide) rfl (Nat.le_of_ble_eq_true rfl) (fun p e s m below meth c ls C hr hP hK hl => ?_)
  obtain ⟨hx, hb, hml, hown, hts, hlocks⟩ := id C
  obtain ⟨hT, hF⟩ := hP
  have hS : va_S (RA aT 22) s.heap s.heap [] := va_S.rf
  have hl : lv_has ls 2 [(0, .ref (aT + 1)), (1, .ref (aS + 1))] := hl
  unfold vc_X5_copyFrom at h
  refine lv_aload_n hx hb dX5_copyFrom_0 rfl (lv_at hl 0 rfl) ?_
  refine lv_aload_n hx hb dX5_copyFrom_1 rfl (lv_at hl 1 rfl) ?_
  refine g_getI (a := aS) (k := 1) C hK hF fl_X5_18 rfl rfl dX5_copyFrom_2 ?_
  refine g_put (a := aT) (k := 1) C hK hT hS fl_X5_18 fp_X5_0 rfl rfl (by rfl) (by rfl) (RA_in (by decide)) dX5_copyFrom_5 (fun τ1 H locs eτ1 hT hS hq => ?_)
  specialize h τ1 eτ1
  have hF := hF.kept (fun j hj => hq _ (by have hj : j < 22 := hj; omega))
  refine lv_aload_n hx hb dX5_copyFrom_8 rfl (lv_at hl 0 rfl) ?_
  refine lv_aload_n hx hb dX5_copyFrom_9 rfl (lv_at hl 1 rfl) ?_
  refine g_getI (a := aS) (k := 1) C hK hF fl_X5_22 rfl rfl dX5_copyFrom_10 ?_
  refine g_put (a := aT) (k := 1) C hK hT hS fl_X5_22 fp_X5_1 rfl rfl (by rfl) (by rfl) (RA_in (by decide)) dX5_copyFrom_13 (fun τ2 H locs eτ2 hT hS hq => ?_)
  specialize h τ2 eτ2
  have hF := hF.kept (fun j hj => hq _ (by have hj : j < 22 := hj; omega))
  refine lv_aload_n hx hb dX5_copyFrom_16 rfl (lv_at hl 1 rfl) ?_
  refine g_getR (a := aS) (k := 1) (o := 2) C hK hF fl_X5_9 rfl rfl dX5_copyFrom_17 ?_
  refine lv_aload_n hx hb dX5_copyFrom_20 rfl (lv_at hl 0 rfl) ?_
  refine g_getR (a := aT) (k := 1) (o := 2) C hK hT fl_X5_9 rfl rfl dX5_copyFrom_21 ?_
  refine g_nV C hK hl.1 (m_X7_copyRow l G aT aS τ2 γ 2 rfl 2 rfl (by omega) _ h) mw_X7_copyRow ms_X7_copyRow nl_X5_25 rfl ⟨rfl, rfl, Nat.le_of_ble_eq_true rfl, Nat.le_of_ble_eq_true rfl⟩ ⟨Nat.zero_le _, Nat.zero_le _⟩ ⟨hT, hF⟩ hS (fun _ h => h) rfl (Nat.le_of_ble_eq_true rfl) dX5_copyFrom_24 (fun u H locs h hu _ hq hS => ?_)
  obtain ⟨τ4, rfl⟩ : ∃ z, z = u := ⟨_, rfl⟩
  have hT := hu
  have hF := hF.past hq (fun j hj h => by have hj : j < 22 := hj; simp only [RA] at h; omega)
  refine lv_aload_n hx hb dX5_copyFrom_27 rfl (lv_at hl 1 rfl) ?_
  refine g_getR (a := aS) (k := 1) (o := 3) C hK hF fl_X5_15 rfl rfl dX5_copyFrom_28 ?_
  refine lv_aload_n hx hb dX5_copyFrom_31 rfl (lv_at hl 0 rfl) ?_
  refine g_getR (a := aT) (k := 1) (o := 3) C hK hT fl_X5_15 rfl rfl dX5_copyFrom_32 ?_
  refine g_nV C hK hl.1 (m_X7_copyRow l G aT aS τ4 γ 3 rfl 3 rfl (by omega) _ h) mw_X7_copyRow ms_X7_copyRow nl_X5_25 rfl ⟨rfl, rfl, Nat.le_of_ble_eq_true rfl, Nat.le_of_ble_eq_true rfl⟩ ⟨Nat.zero_le _, Nat.zero_le _⟩ ⟨hT, hF⟩ hS (fun _ h => h) rfl (Nat.le_of_ble_eq_true rfl) dX5_copyFrom_35 (fun u H locs h hu _ hq hS => ?_)
  obtain ⟨τ6, rfl⟩ : ∃ z, z = u := ⟨_, rfl⟩
  have hT := hu
  have hF := hF.past hq (fun j hj h => by have hj : j < 22 := hj; simp only [RA] at h; omega)
  exact g_vret (post := Q) (P' := fun u H => rg G LG aT u H) (u := τ6) C hr hK hS h hT dX5_copyFrom_38
theorem dX2_copyFrom_0 : decode cX2_copyFrom 0 = .ok (.aload_n 0, 1) := by decide +kernel
theorem dX2_copyFrom_1 : decode cX2_copyFrom 1 = .ok (.aload_n 1, 1) := by decide +kernel
theorem dX2_copyFrom_2 : decode cX2_copyFrom 2 = .ok (.getfield 33, 3) := by decide +kernel
theorem dX2_copyFrom_5 : decode cX2_copyFrom 5 = .ok (.putfield 33, 3) := by decide +kernel
theorem dX2_copyFrom_8 : decode cX2_copyFrom 8 = .ok (.aload_n 1, 1) := by decide +kernel
theorem dX2_copyFrom_9 : decode cX2_copyFrom 9 = .ok (.getfield 9, 3) := by decide +kernel
theorem dX2_copyFrom_12 : decode cX2_copyFrom 12 = .ok (.aload_n 0, 1) := by decide +kernel
theorem dX2_copyFrom_13 : decode cX2_copyFrom 13 = .ok (.getfield 9, 3) := by decide +kernel
theorem dX2_copyFrom_16 : decode cX2_copyFrom 16 = .ok (.invokestatic 37, 3) := by decide +kernel
theorem dX2_copyFrom_19 : decode cX2_copyFrom 19 = .ok (.aload_n 1, 1) := by decide +kernel
theorem dX2_copyFrom_20 : decode cX2_copyFrom 20 = .ok (.getfield 15, 3) := by decide +kernel
theorem dX2_copyFrom_23 : decode cX2_copyFrom 23 = .ok (.aload_n 0, 1) := by decide +kernel
theorem dX2_copyFrom_24 : decode cX2_copyFrom 24 = .ok (.getfield 15, 3) := by decide +kernel
theorem dX2_copyFrom_27 : decode cX2_copyFrom 27 = .ok (.invokestatic 37, 3) := by decide +kernel
theorem dX2_copyFrom_30 : decode cX2_copyFrom 30 = .ok (.aload_n 1, 1) := by decide +kernel
theorem dX2_copyFrom_31 : decode cX2_copyFrom 31 = .ok (.getfield 18, 3) := by decide +kernel
theorem dX2_copyFrom_34 : decode cX2_copyFrom 34 = .ok (.aload_n 0, 1) := by decide +kernel
theorem dX2_copyFrom_35 : decode cX2_copyFrom 35 = .ok (.getfield 18, 3) := by decide +kernel
theorem dX2_copyFrom_38 : decode cX2_copyFrom 38 = .ok (.invokestatic 37, 3) := by decide +kernel
theorem dX2_copyFrom_41 : decode cX2_copyFrom 41 = .ok (.aload_n 1, 1) := by decide +kernel
theorem dX2_copyFrom_42 : decode cX2_copyFrom 42 = .ok (.getfield 21, 3) := by decide +kernel
theorem dX2_copyFrom_45 : decode cX2_copyFrom 45 = .ok (.aload_n 0, 1) := by decide +kernel
theorem dX2_copyFrom_46 : decode cX2_copyFrom 46 = .ok (.getfield 21, 3) := by decide +kernel
theorem dX2_copyFrom_49 : decode cX2_copyFrom 49 = .ok (.invokestatic 37, 3) := by decide +kernel
theorem dX2_copyFrom_52 : decode cX2_copyFrom 52 = .ok (.aload_n 1, 1) := by decide +kernel
theorem dX2_copyFrom_53 : decode cX2_copyFrom 53 = .ok (.getfield 24, 3) := by decide +kernel
theorem dX2_copyFrom_56 : decode cX2_copyFrom 56 = .ok (.aload_n 0, 1) := by decide +kernel
theorem dX2_copyFrom_57 : decode cX2_copyFrom 57 = .ok (.getfield 24, 3) := by decide +kernel
theorem dX2_copyFrom_60 : decode cX2_copyFrom 60 = .ok (.invokestatic 37, 3) := by decide +kernel
theorem dX2_copyFrom_63 : decode cX2_copyFrom 63 = .ok (.aload_n 1, 1) := by decide +kernel
theorem dX2_copyFrom_64 : decode cX2_copyFrom 64 = .ok (.getfield 27, 3) := by decide +kernel
theorem dX2_copyFrom_67 : decode cX2_copyFrom 67 = .ok (.aload_n 0, 1) := by decide +kernel
theorem dX2_copyFrom_68 : decode cX2_copyFrom 68 = .ok (.getfield 27, 3) := by decide +kernel
theorem dX2_copyFrom_71 : decode cX2_copyFrom 71 = .ok (.invokestatic 37, 3) := by decide +kernel
theorem dX2_copyFrom_74 : decode cX2_copyFrom 74 = .ok (.aload_n 1, 1) := by decide +kernel
theorem dX2_copyFrom_75 : decode cX2_copyFrom 75 = .ok (.getfield 30, 3) := by decide +kernel
theorem dX2_copyFrom_78 : decode cX2_copyFrom 78 = .ok (.aload_n 0, 1) := by decide +kernel
theorem dX2_copyFrom_79 : decode cX2_copyFrom 79 = .ok (.getfield 30, 3) := by decide +kernel
theorem dX2_copyFrom_82 : decode cX2_copyFrom 82 = .ok (.invokestatic 37, 3) := by decide +kernel
theorem dX2_copyFrom_85 : decode cX2_copyFrom 85 = .ok (.return_, 1) := by decide +kernel
def vc_X2_copyFrom (Q : Mem → Prop) (τ : Mem) (γ : Mem) : Prop :=
  ∀ τ1 : Mem, τ1 = up τ 4 0 (γ 4 0) → (vc_X7_copyRow (fun τ3 => vc_X7_copyRow (fun τ5 => vc_X7_copyRow (fun τ7 => vc_X7_copyRow (fun τ9 => vc_X7_copyRow (fun τ11 => vc_X7_copyRow (fun τ13 => vc_X7_copyRow (fun τ15 => Q τ15) τ13 γ 11 11) τ11 γ 10 10) τ9 γ 9 9) τ7 γ 8 8) τ5 γ 7 7) τ3 γ 6 6) τ1 γ 5 5)
set_option maxHeartbeats 8000000 in
set_option maxRecDepth 100000 in
theorem m_X2_copyFrom (l : Launch) (G : GG) (aT : Nat) (aS : Nat) (τ : Mem) (γ : Mem) (hd : aT + 22 ≤ aS ∨ aS + 22 ≤ aT) (Q : Mem → Prop) (h : vc_X2_copyFrom Q τ γ) : CtV l yX2_copyFrom cX2_copyFrom 2 { frames := 2, cells := 0, slots := 0, locals := 61 } [.ref (aT + 4), .ref (aS + 4)] G (fun H => rg G LG aT τ H ∧ rg G LG aS γ H) (Q) (fun u H => rg G LG aT u H) (RA aT 22) := by
  unfold CtV
  refine met_start (y := yX2_copyFrom) (maxL := 2) (av := [.ref (aT + 4), .ref (aS + 4)]) (G := G) (P := fun H => rg G LG aT τ H ∧ rg G LG aS γ H) (by decide) rfl (Nat.le_of_ble_eq_true rfl) (fun p e s m below meth c ls C hr hP hK hl => ?_)
  obtain ⟨hx, hb, hml, hown, hts, hlocks⟩ := id C
  obtain ⟨hT, hF⟩ := hP
  have hS : va_S (RA aT 22) s.heap s.heap [] := va_S.rf
  have hl : lv_has ls 2 [(0, .ref (aT + 4)), (1, .ref (aS + 4))] := hl
  unfold vc_X2_copyFrom at h
  refine lv_aload_n hx hb dX2_copyFrom_0 rfl (lv_at hl 0 rfl) ?_
  refine lv_aload_n hx hb dX2_copyFrom_1 rfl (lv_at hl 1 rfl) ?_
  refine g_getI (a := aS) (k := 4) C hK hF fl_X2_33 rfl rfl dX2_copyFrom_2 ?_
  refine g_put (a := aT) (k := 4) C hK hT hS fl_X2_33 fp_X2_0 rfl rfl (by rfl) (by rfl) (RA_in (by decide)) dX2_copyFrom_5 (fun τ1 H locs eτ1 hT hS hq => ?_)
  specialize h τ1 eτ1
  have hF := hF.kept (fun j hj => hq _ (by have hj : j < 22 := hj; omega))
  refine lv_aload_n hx hb dX2_copyFrom_8 rfl (lv_at hl 1 rfl) ?_
  refine g_getR (a := aS) (k := 4) (o := 5) C hK hF fl_X2_9 rfl rfl dX2_copyFrom_9 ?_
  refine lv_aload_n hx hb dX2_copyFrom_12 rfl (lv_at hl 0 rfl) ?_
  refine g_getR (a := aT) (k := 4) (o := 5) C hK hT fl_X2_9 rfl rfl dX2_copyFrom_13 ?_
  refine g_nV C hK hl.1 (m_X7_copyRow l G aT aS τ1 γ 5 rfl 5 rfl (by omega) _ h) mw_X7_copyRow ms_X7_copyRow nl_X2_37 rfl ⟨rfl, rfl, Nat.le_of_ble_eq_true rfl, Nat.le_of_ble_eq_true rfl⟩ ⟨Nat.zero_le _, Nat.zero_le _⟩ ⟨hT, hF⟩ hS (fun _ h => h) rfl (Nat.le_of_ble_eq_true rfl) dX2_copyFrom_16 (fun u H locs h hu _ hq hS => ?_)
  obtain ⟨τ3, rfl⟩ : ∃ z, z = u := ⟨_, rfl⟩
  have hT := hu
  have hF := hF.past hq (fun j hj h => by have hj : j < 22 := hj; simp only [RA] at h; omega)
  refine lv_aload_n hx hb dX2_copyFrom_19 rfl (lv_at hl 1 rfl) ?_
  refine g_getR (a := aS) (k := 4) (o := 6) C hK hF fl_X2_15 rfl rfl dX2_copyFrom_20 ?_
  refine lv_aload_n hx hb dX2_copyFrom_23 rfl (lv_at hl 0 rfl) ?_
  refine g_getR (a := aT) (k := 4) (o := 6) C hK hT fl_X2_15 rfl rfl dX2_copyFrom_24 ?_
  refine g_nV C hK hl.1 (m_X7_copyRow l G aT aS τ3 γ 6 rfl 6 rfl (by omega) _ h) mw_X7_copyRow ms_X7_copyRow nl_X2_37 rfl ⟨rfl, rfl, Nat.le_of_ble_eq_true rfl, Nat.le_of_ble_eq_true rfl⟩ ⟨Nat.zero_le _, Nat.zero_le _⟩ ⟨hT, hF⟩ hS (fun _ h => h) rfl (Nat.le_of_ble_eq_true rfl) dX2_copyFrom_27 (fun u H locs h hu _ hq hS => ?_)
  obtain ⟨τ5, rfl⟩ : ∃ z, z = u := ⟨_, rfl⟩
  have hT := hu
  have hF := hF.past hq (fun j hj h => by have hj : j < 22 := hj; simp only [RA] at h; omega)
  refine lv_aload_n hx hb dX2_copyFrom_30 rfl (lv_at hl 1 rfl) ?_
  refine g_getR (a := aS) (k := 4) (o := 7) C hK hF fl_X2_18 rfl rfl dX2_copyFrom_31 ?_
  refine lv_aload_n hx hb dX2_copyFrom_34 rfl (lv_at hl 0 rfl) ?_
  refine g_getR (a := aT) (k := 4) (o := 7) C hK hT fl_X2_18 rfl rfl dX2_copyFrom_35 ?_
  refine g_nV C hK hl.1 (m_X7_copyRow l G aT aS τ5 γ 7 rfl 7 rfl (by omega) _ h) mw_X7_copyRow ms_X7_copyRow nl_X2_37 rfl ⟨rfl, rfl, Nat.le_of_ble_eq_true rfl, Nat.le_of_ble_eq_true rfl⟩ ⟨Nat.zero_le _, Nat.zero_le _⟩ ⟨hT, hF⟩ hS (fun _ h => h) rfl (Nat.le_of_ble_eq_true rfl) dX2_copyFrom_38 (fun u H locs h hu _ hq hS => ?_)
  obtain ⟨τ7, rfl⟩ : ∃ z, z = u := ⟨_, rfl⟩
  have hT := hu
  have hF := hF.past hq (fun j hj h => by have hj : j < 22 := hj; simp only [RA] at h; omega)
  refine lv_aload_n hx hb dX2_copyFrom_41 rfl (lv_at hl 1 rfl) ?_
  refine g_getR (a := aS) (k := 4) (o := 8) C hK hF fl_X2_21 rfl rfl dX2_copyFrom_42 ?_
  refine lv_aload_n hx hb dX2_copyFrom_45 rfl (lv_at hl 0 rfl) ?_
  refine g_getR (a := aT) (k := 4) (o := 8) C hK hT fl_X2_21 rfl rfl dX2_copyFrom_46 ?_
  refine g_nV C hK hl.1 (m_X7_copyRow l G aT aS τ7 γ 8 rfl 8 rfl (by omega) _ h) mw_X7_copyRow ms_X7_copyRow nl_X2_37 rfl ⟨rfl, rfl, Nat.le_of_ble_eq_true rfl, Nat.le_of_ble_eq_true rfl⟩ ⟨Nat.zero_le _, Nat.zero_le _⟩ ⟨hT, hF⟩ hS (fun _ h => h) rfl (Nat.le_of_ble_eq_true rfl) dX2_copyFrom_49 (fun u H locs h hu _ hq hS => ?_)
  obtain ⟨τ9, rfl⟩ : ∃ z, z = u := ⟨_, rfl⟩
  have hT := hu
  have hF := hF.past hq (fun j hj h => by have hj : j < 22 := hj; simp only [RA] at h; omega)
  refine lv_aload_n hx hb dX2_copyFrom_52 rfl (lv_at hl 1 rfl) ?_
  refine g_getR (a := aS) (k := 4) (o := 9) C hK hF fl_X2_24 rfl rfl dX2_copyFrom_53 ?_
  refine lv_aload_n hx hb dX2_copyFrom_56 rfl (lv_at hl 0 rfl) ?_
  refine g_getR (a := aT) (k := 4) (o := 9) C hK hT fl_X2_24 rfl rfl dX2_copyFrom_57 ?_
  refine g_nV C hK hl.1 (m_X7_copyRow l G aT aS τ9 γ 9 rfl 9 rfl (by omega) _ h) mw_X7_copyRow ms_X7_copyRow nl_X2_37 rfl ⟨rfl, rfl, Nat.le_of_ble_eq_true rfl, Nat.le_of_ble_eq_true rfl⟩ ⟨Nat.zero_le _, Nat.zero_le _⟩ ⟨hT, hF⟩ hS (fun _ h => h) rfl (Nat.le_of_ble_eq_true rfl) dX2_copyFrom_60 (fun u H locs h hu _ hq hS => ?_)
  obtain ⟨τ11, rfl⟩ : ∃ z, z = u := ⟨_, rfl⟩
  have hT := hu
  have hF := hF.past hq (fun j hj h => by have hj : j < 22 := hj; simp only [RA] at h; omega)
  refine lv_aload_n hx hb dX2_copyFrom_63 rfl (lv_at hl 1 rfl) ?_
  refine g_getR (a := aS) (k := 4) (o := 10) C hK hF fl_X2_27 rfl rfl dX2_copyFrom_64 ?_
  refine lv_aload_n hx hb dX2_copyFrom_67 rfl (lv_at hl 0 rfl) ?_
  refine g_getR (a := aT) (k := 4) (o := 10) C hK hT fl_X2_27 rfl rfl dX2_copyFrom_68 ?_
  refine g_nV C hK hl.1 (m_X7_copyRow l G aT aS τ11 γ 10 rfl 10 rfl (by omega) _ h) mw_X7_copyRow ms_X7_copyRow nl_X2_37 rfl ⟨rfl, rfl, Nat.le_of_ble_eq_true rfl, Nat.le_of_ble_eq_true rfl⟩ ⟨Nat.zero_le _, Nat.zero_le _⟩ ⟨hT, hF⟩ hS (fun _ h => h) rfl (Nat.le_of_ble_eq_true rfl) dX2_copyFrom_71 (fun u H locs h hu _ hq hS => ?_)
  obtain ⟨τ13, rfl⟩ : ∃ z, z = u := ⟨_, rfl⟩
  have hT := hu
  have hF := hF.past hq (fun j hj h => by have hj : j < 22 := hj; simp only [RA] at h; omega)
  refine lv_aload_n hx hb dX2_copyFrom_74 rfl (lv_at hl 1 rfl) ?_
  refine g_getR (a := aS) (k := 4) (o := 11) C hK hF fl_X2_30 rfl rfl dX2_copyFrom_75 ?_
  refine lv_aload_n hx hb dX2_copyFrom_78 rfl (lv_at hl 0 rfl) ?_
  refine g_getR (a := aT) (k := 4) (o := 11) C hK hT fl_X2_30 rfl rfl dX2_copyFrom_79 ?_
  refine g_nV C hK hl.1 (m_X7_copyRow l G aT aS τ13 γ 11 rfl 11 rfl (by omega) _ h) mw_X7_copyRow ms_X7_copyRow nl_X2_37 rfl ⟨rfl, rfl, Nat.le_of_ble_eq_true rfl, Nat.le_of_ble_eq_true rfl⟩ ⟨Nat.zero_le _, Nat.zero_le _⟩ ⟨hT, hF⟩ hS (fun _ h => h) rfl (Nat.le_of_ble_eq_true rfl) dX2_copyFrom_82 (fun u H locs h hu _ hq hS => ?_)
  obtain ⟨τ15, rfl⟩ : ∃ z, z = u := ⟨_, rfl⟩
  have hT := hu
  have hF := hF.past hq (fun j hj h => by have hj : j < 22 := hj; simp only [RA] at h; omega)
  exact g_vret (post := Q) (P' := fun u H => rg G LG aT u H) (u := τ15) C hr hK hS h hT dX2_copyFrom_85
theorem dX6_copyFrom_0 : decode cX6_copyFrom 0 = .ok (.aload_n 0, 1) := by decide +kernel
theorem dX6_copyFrom_1 : decode cX6_copyFrom 1 = .ok (.aload_n 1, 1) := by decide +kernel
theorem dX6_copyFrom_2 : decode cX6_copyFrom 2 = .ok (.getfield 27, 3) := by decide +kernel
theorem dX6_copyFrom_5 : decode cX6_copyFrom 5 = .ok (.putfield 27, 3) := by decide +kernel
theorem dX6_copyFrom_8 : decode cX6_copyFrom 8 = .ok (.aload_n 1, 1) := by decide +kernel
theorem dX6_copyFrom_9 : decode cX6_copyFrom 9 = .ok (.getfield 9, 3) := by decide +kernel
theorem dX6_copyFrom_12 : decode cX6_copyFrom 12 = .ok (.aload_n 0, 1) := by decide +kernel
theorem dX6_copyFrom_13 : decode cX6_copyFrom 13 = .ok (.getfield 9, 3) := by decide +kernel
theorem dX6_copyFrom_16 : decode cX6_copyFrom 16 = .ok (.invokestatic 31, 3) := by decide +kernel
theorem dX6_copyFrom_19 : decode cX6_copyFrom 19 = .ok (.aload_n 1, 1) := by decide +kernel
theorem dX6_copyFrom_20 : decode cX6_copyFrom 20 = .ok (.getfield 15, 3) := by decide +kernel
theorem dX6_copyFrom_23 : decode cX6_copyFrom 23 = .ok (.aload_n 0, 1) := by decide +kernel
theorem dX6_copyFrom_24 : decode cX6_copyFrom 24 = .ok (.getfield 15, 3) := by decide +kernel
theorem dX6_copyFrom_27 : decode cX6_copyFrom 27 = .ok (.invokestatic 31, 3) := by decide +kernel
theorem dX6_copyFrom_30 : decode cX6_copyFrom 30 = .ok (.aload_n 1, 1) := by decide +kernel
theorem dX6_copyFrom_31 : decode cX6_copyFrom 31 = .ok (.getfield 18, 3) := by decide +kernel
theorem dX6_copyFrom_34 : decode cX6_copyFrom 34 = .ok (.aload_n 0, 1) := by decide +kernel
theorem dX6_copyFrom_35 : decode cX6_copyFrom 35 = .ok (.getfield 18, 3) := by decide +kernel
theorem dX6_copyFrom_38 : decode cX6_copyFrom 38 = .ok (.invokestatic 31, 3) := by decide +kernel
theorem dX6_copyFrom_41 : decode cX6_copyFrom 41 = .ok (.aload_n 1, 1) := by decide +kernel
theorem dX6_copyFrom_42 : decode cX6_copyFrom 42 = .ok (.getfield 21, 3) := by decide +kernel
theorem dX6_copyFrom_45 : decode cX6_copyFrom 45 = .ok (.aload_n 0, 1) := by decide +kernel
theorem dX6_copyFrom_46 : decode cX6_copyFrom 46 = .ok (.getfield 21, 3) := by decide +kernel
theorem dX6_copyFrom_49 : decode cX6_copyFrom 49 = .ok (.invokestatic 31, 3) := by decide +kernel
theorem dX6_copyFrom_52 : decode cX6_copyFrom 52 = .ok (.aload_n 1, 1) := by decide +kernel
theorem dX6_copyFrom_53 : decode cX6_copyFrom 53 = .ok (.getfield 24, 3) := by decide +kernel
theorem dX6_copyFrom_56 : decode cX6_copyFrom 56 = .ok (.aload_n 0, 1) := by decide +kernel
theorem dX6_copyFrom_57 : decode cX6_copyFrom 57 = .ok (.getfield 24, 3) := by decide +kernel
theorem dX6_copyFrom_60 : decode cX6_copyFrom 60 = .ok (.invokestatic 31, 3) := by decide +kernel
theorem dX6_copyFrom_63 : decode cX6_copyFrom 63 = .ok (.return_, 1) := by decide +kernel
def vc_X6_copyFrom (Q : Mem → Prop) (τ : Mem) (γ : Mem) : Prop :=
  ∀ τ1 : Mem, τ1 = up τ 12 0 (γ 12 0) → (vc_X7_copyRow (fun τ3 => vc_X7_copyRow (fun τ5 => vc_X7_copyRow (fun τ7 => vc_X7_copyRow (fun τ9 => vc_X7_copyRow (fun τ11 => Q τ11) τ9 γ 17 17) τ7 γ 16 16) τ5 γ 15 15) τ3 γ 14 14) τ1 γ 13 13)
set_option maxHeartbeats 8000000 in
set_option maxRecDepth 100000 in
theorem m_X6_copyFrom (l : Launch) (G : GG) (aT : Nat) (aS : Nat) (τ : Mem) (γ : Mem) (hd : aT + 22 ≤ aS ∨ aS + 22 ≤ aT) (Q : Mem → Prop) (h : vc_X6_copyFrom Q τ γ) : CtV l yX6_copyFrom cX6_copyFrom 2 { frames := 2, cells := 0, slots := 0, locals := 61 } [.ref (aT + 12), .ref (aS + 12)] G (fun H => rg G LG aT τ H ∧ rg G LG aS γ H) (Q) (fun u H => rg G LG aT u H) (RA aT 22) := by
  unfold CtV
  refine met_start (y := yX6_copyFrom) (maxL := 2) (av := [.ref (aT + 12), .ref (aS + 12)]) (G := G) (P := fun H => rg G LG aT τ H ∧ rg G LG aS γ H) (by decide) rfl (Nat.le_of_ble_eq_true rfl) (fun p e s m below meth c ls C hr hP hK hl => ?_)
  obtain ⟨hx, hb, hml, hown, hts, hlocks⟩ := id C
  obtain ⟨hT, hF⟩ := hP
  have hS : va_S (RA aT 22) s.heap s.heap [] := va_S.rf
  have hl : lv_has ls 2 [(0, .ref (aT + 12)), (1, .ref (aS + 12))] := hl
  unfold vc_X6_copyFrom at h
  refine lv_aload_n hx hb dX6_copyFrom_0 rfl (lv_at hl 0 rfl) ?_
  refine lv_aload_n hx hb dX6_copyFrom_1 rfl (lv_at hl 1 rfl) ?_
  refine g_getI (a := aS) (k := 12) C hK hF fl_X6_27 rfl rfl dX6_copyFrom_2 ?_
  refine g_put (a := aT) (k := 12) C hK hT hS fl_X6_27 fp_X6_0 rfl rfl (by rfl) (by rfl) (RA_in (by decide)) dX6_copyFrom_5 (fun τ1 H locs eτ1 hT hS hq => ?_)
  specialize h τ1 eτ1
  have hF := hF.kept (fun j hj => hq _ (by have hj : j < 22 := hj; omega))
  refine lv_aload_n hx hb dX6_copyFrom_8 rfl (lv_at hl 1 rfl) ?_
  refine g_getR (a := aS) (k := 12) (o := 13) C hK hF fl_X6_9 rfl rfl dX6_copyFrom_9 ?_
  refine lv_aload_n hx hb dX6_copyFrom_12 rfl (lv_at hl 0 rfl) ?_
  refine g_getR (a := aT) (k := 12) (o := 13) C hK hT fl_X6_9 rfl rfl dX6_copyFrom_13 ?_
  refine g_nV C hK hl.1 (m_X7_copyRow l G aT aS τ1 γ 13 rfl 13 rfl (by omega) _ h) mw_X7_copyRow ms_X7_copyRow nl_X6_31 rfl ⟨rfl, rfl, Nat.le_of_ble_eq_true rfl, Nat.le_of_ble_eq_true rfl⟩ ⟨Nat.zero_le _, Nat.zero_le _⟩ ⟨hT, hF⟩ hS (fun _ h => h) rfl (Nat.le_of_ble_eq_true rfl) dX6_copyFrom_16 (fun u H locs h hu _ hq hS => ?_)
  obtain ⟨τ3, rfl⟩ : ∃ z, z = u := ⟨_, rfl⟩
  have hT := hu
  have hF := hF.past hq (fun j hj h => by have hj : j < 22 := hj; simp only [RA] at h; omega)
  refine lv_aload_n hx hb dX6_copyFrom_19 rfl (lv_at hl 1 rfl) ?_
  refine g_getR (a := aS) (k := 12) (o := 14) C hK hF fl_X6_15 rfl rfl dX6_copyFrom_20 ?_
  refine lv_aload_n hx hb dX6_copyFrom_23 rfl (lv_at hl 0 rfl) ?_
  refine g_getR (a := aT) (k := 12) (o := 14) C hK hT fl_X6_15 rfl rfl dX6_copyFrom_24 ?_
  refine g_nV C hK hl.1 (m_X7_copyRow l G aT aS τ3 γ 14 rfl 14 rfl (by omega) _ h) mw_X7_copyRow ms_X7_copyRow nl_X6_31 rfl ⟨rfl, rfl, Nat.le_of_ble_eq_true rfl, Nat.le_of_ble_eq_true rfl⟩ ⟨Nat.zero_le _, Nat.zero_le _⟩ ⟨hT, hF⟩ hS (fun _ h => h) rfl (Nat.le_of_ble_eq_true rfl) dX6_copyFrom_27 (fun u H locs h hu _ hq hS => ?_)
  obtain ⟨τ5, rfl⟩ : ∃ z, z = u := ⟨_, rfl⟩
  have hT := hu
  have hF := hF.past hq (fun j hj h => by have hj : j < 22 := hj; simp only [RA] at h; omega)
  refine lv_aload_n hx hb dX6_copyFrom_30 rfl (lv_at hl 1 rfl) ?_
  refine g_getR (a := aS) (k := 12) (o := 15) C hK hF fl_X6_18 rfl rfl dX6_copyFrom_31 ?_
  refine lv_aload_n hx hb dX6_copyFrom_34 rfl (lv_at hl 0 rfl) ?_
  refine g_getR (a := aT) (k := 12) (o := 15) C hK hT fl_X6_18 rfl rfl dX6_copyFrom_35 ?_
  refine g_nV C hK hl.1 (m_X7_copyRow l G aT aS τ5 γ 15 rfl 15 rfl (by omega) _ h) mw_X7_copyRow ms_X7_copyRow nl_X6_31 rfl ⟨rfl, rfl, Nat.le_of_ble_eq_true rfl, Nat.le_of_ble_eq_true rfl⟩ ⟨Nat.zero_le _, Nat.zero_le _⟩ ⟨hT, hF⟩ hS (fun _ h => h) rfl (Nat.le_of_ble_eq_true rfl) dX6_copyFrom_38 (fun u H locs h hu _ hq hS => ?_)
  obtain ⟨τ7, rfl⟩ : ∃ z, z = u := ⟨_, rfl⟩
  have hT := hu
  have hF := hF.past hq (fun j hj h => by have hj : j < 22 := hj; simp only [RA] at h; omega)
  refine lv_aload_n hx hb dX6_copyFrom_41 rfl (lv_at hl 1 rfl) ?_
  refine g_getR (a := aS) (k := 12) (o := 16) C hK hF fl_X6_21 rfl rfl dX6_copyFrom_42 ?_
  refine lv_aload_n hx hb dX6_copyFrom_45 rfl (lv_at hl 0 rfl) ?_
  refine g_getR (a := aT) (k := 12) (o := 16) C hK hT fl_X6_21 rfl rfl dX6_copyFrom_46 ?_
  refine g_nV C hK hl.1 (m_X7_copyRow l G aT aS τ7 γ 16 rfl 16 rfl (by omega) _ h) mw_X7_copyRow ms_X7_copyRow nl_X6_31 rfl ⟨rfl, rfl, Nat.le_of_ble_eq_true rfl, Nat.le_of_ble_eq_true rfl⟩ ⟨Nat.zero_le _, Nat.zero_le _⟩ ⟨hT, hF⟩ hS (fun _ h => h) rfl (Nat.le_of_ble_eq_true rfl) dX6_copyFrom_49 (fun u H locs h hu _ hq hS => ?_)
  obtain ⟨τ9, rfl⟩ : ∃ z, z = u := ⟨_, rfl⟩
  have hT := hu
  have hF := hF.past hq (fun j hj h => by have hj : j < 22 := hj; simp only [RA] at h; omega)
  refine lv_aload_n hx hb dX6_copyFrom_52 rfl (lv_at hl 1 rfl) ?_
  refine g_getR (a := aS) (k := 12) (o := 17) C hK hF fl_X6_24 rfl rfl dX6_copyFrom_53 ?_
  refine lv_aload_n hx hb dX6_copyFrom_56 rfl (lv_at hl 0 rfl) ?_
  refine g_getR (a := aT) (k := 12) (o := 17) C hK hT fl_X6_24 rfl rfl dX6_copyFrom_57 ?_
  refine g_nV C hK hl.1 (m_X7_copyRow l G aT aS τ9 γ 17 rfl 17 rfl (by omega) _ h) mw_X7_copyRow ms_X7_copyRow nl_X6_31 rfl ⟨rfl, rfl, Nat.le_of_ble_eq_true rfl, Nat.le_of_ble_eq_true rfl⟩ ⟨Nat.zero_le _, Nat.zero_le _⟩ ⟨hT, hF⟩ hS (fun _ h => h) rfl (Nat.le_of_ble_eq_true rfl) dX6_copyFrom_60 (fun u H locs h hu _ hq hS => ?_)
  obtain ⟨τ11, rfl⟩ : ∃ z, z = u := ⟨_, rfl⟩
  have hT := hu
  have hF := hF.past hq (fun j hj h => by have hj : j < 22 := hj; simp only [RA] at h; omega)
  exact g_vret (post := Q) (P' := fun u H => rg G LG aT u H) (u := τ11) C hr hK hS h hT dX6_copyFrom_63
theorem dX1_copyFrom_0 : decode cX1_copyFrom 0 = .ok (.aload_n 0, 1) := by decide +kernel
theorem dX1_copyFrom_1 : decode cX1_copyFrom 1 = .ok (.aload_n 1, 1) := by decide +kernel
theorem dX1_copyFrom_2 : decode cX1_copyFrom 2 = .ok (.getfield 43, 3) := by decide +kernel
theorem dX1_copyFrom_5 : decode cX1_copyFrom 5 = .ok (.putfield 43, 3) := by decide +kernel
theorem dX1_copyFrom_8 : decode cX1_copyFrom 8 = .ok (.aload_n 0, 1) := by decide +kernel
theorem dX1_copyFrom_9 : decode cX1_copyFrom 9 = .ok (.getfield 12, 3) := by decide +kernel
theorem dX1_copyFrom_12 : decode cX1_copyFrom 12 = .ok (.aload_n 1, 1) := by decide +kernel
theorem dX1_copyFrom_13 : decode cX1_copyFrom 13 = .ok (.getfield 12, 3) := by decide +kernel
theorem dX1_copyFrom_16 : decode cX1_copyFrom 16 = .ok (.invokevirtual 47, 3) := by decide +kernel
theorem dX1_copyFrom_19 : decode cX1_copyFrom 19 = .ok (.aload_n 0, 1) := by decide +kernel
theorem dX1_copyFrom_20 : decode cX1_copyFrom 20 = .ok (.getfield 21, 3) := by decide +kernel
theorem dX1_copyFrom_23 : decode cX1_copyFrom 23 = .ok (.aload_n 1, 1) := by decide +kernel
theorem dX1_copyFrom_24 : decode cX1_copyFrom 24 = .ok (.getfield 21, 3) := by decide +kernel
theorem dX1_copyFrom_27 : decode cX1_copyFrom 27 = .ok (.invokevirtual 51, 3) := by decide +kernel
theorem dX1_copyFrom_30 : decode cX1_copyFrom 30 = .ok (.aload_n 0, 1) := by decide +kernel
theorem dX1_copyFrom_31 : decode cX1_copyFrom 31 = .ok (.getfield 28, 3) := by decide +kernel
theorem dX1_copyFrom_34 : decode cX1_copyFrom 34 = .ok (.aload_n 1, 1) := by decide +kernel
theorem dX1_copyFrom_35 : decode cX1_copyFrom 35 = .ok (.getfield 28, 3) := by decide +kernel
theorem dX1_copyFrom_38 : decode cX1_copyFrom 38 = .ok (.invokevirtual 54, 3) := by decide +kernel
theorem dX1_copyFrom_41 : decode cX1_copyFrom 41 = .ok (.aload_n 0, 1) := by decide +kernel
theorem dX1_copyFrom_42 : decode cX1_copyFrom 42 = .ok (.getfield 35, 3) := by decide +kernel
theorem dX1_copyFrom_45 : decode cX1_copyFrom 45 = .ok (.aload_n 1, 1) := by decide +kernel
theorem dX1_copyFrom_46 : decode cX1_copyFrom 46 = .ok (.getfield 35, 3) := by decide +kernel
theorem dX1_copyFrom_49 : decode cX1_copyFrom 49 = .ok (.invokevirtual 57, 3) := by decide +kernel
theorem dX1_copyFrom_52 : decode cX1_copyFrom 52 = .ok (.return_, 1) := by decide +kernel
def vc_X1_copyFrom (Q : Mem → Prop) (τ : Mem) (γ : Mem) : Prop :=
  ∀ τ1 : Mem, τ1 = up τ 0 0 (γ 0 0) → (vc_X5_copyFrom (fun τ3 => vc_X2_copyFrom (fun τ5 => vc_X6_copyFrom (fun τ7 => vc_X0_copyFrom (fun τ9 => Q τ9) τ7 γ) τ5 γ) τ3 γ) τ1 γ)
set_option maxHeartbeats 8000000 in
set_option maxRecDepth 100000 in
theorem m_X1_copyFrom (l : Launch) (G : GG) (aT : Nat) (aS : Nat) (τ : Mem) (γ : Mem) (hd : aT + 22 ≤ aS ∨ aS + 22 ≤ aT) (Q : Mem → Prop) (h : vc_X1_copyFrom Q τ γ) : CtV l yX1_copyFrom cX1_copyFrom 2 { frames := 3, cells := 0, slots := 0, locals := 82 } [.ref (aT + 0), .ref (aS + 0)] G (fun H => rg G LG aT τ H ∧ rg G LG aS γ H) (Q) (fun u H => rg G LG aT u H) (RA aT 22) := by
  unfold CtV
  refine met_start (y := yX1_copyFrom) (maxL := 2) (av := [.ref (aT + 0), .ref (aS + 0)]) (G := G) (P := fun H => rg G LG aT τ H ∧ rg G LG aS γ H) (by decide) rfl (Nat.le_of_ble_eq_true rfl) (fun p e s m below meth c ls C hr hP hK hl => ?_)
  obtain ⟨hx, hb, hml, hown, hts, hlocks⟩ := id C
  obtain ⟨hT, hF⟩ := hP
  have hS : va_S (RA aT 22) s.heap s.heap [] := va_S.rf
  have hl : lv_has ls 2 [(0, .ref (aT + 0)), (1, .ref (aS + 0))] := hl
  unfold vc_X1_copyFrom at h
  refine lv_aload_n hx hb dX1_copyFrom_0 rfl (lv_at hl 0 rfl) ?_
  refine lv_aload_n hx hb dX1_copyFrom_1 rfl (lv_at hl 1 rfl) ?_
  refine g_getI (a := aS) (k := 0) C hK hF fl_X1_43 rfl rfl dX1_copyFrom_2 ?_
  refine g_put (a := aT) (k := 0) C hK hT hS fl_X1_43 fp_X1_0 rfl rfl (by rfl) (by rfl) (RA_in (by decide)) dX1_copyFrom_5 (fun τ1 H locs eτ1 hT hS hq => ?_)
  specialize h τ1 eτ1
  have hF := hF.kept (fun j hj => hq _ (by have hj : j < 22 := hj; omega))
  refine lv_aload_n hx hb dX1_copyFrom_8 rfl (lv_at hl 0 rfl) ?_
  refine g_getR (a := aT) (k := 0) (o := 1) C hK hT fl_X1_12 rfl rfl dX1_copyFrom_9 ?_
  refine lv_aload_n hx hb dX1_copyFrom_12 rfl (lv_at hl 1 rfl) ?_
  refine g_getR (a := aS) (k := 0) (o := 1) C hK hF fl_X1_12 rfl rfl dX1_copyFrom_13 ?_
  refine g_vV C hK hl.1 (m_X5_copyFrom l G aT aS τ1 γ (by omega) _ h) mw_X5_copyFrom mi_X5_copyFrom ml_X1_47 rfl ⟨rfl, rfl, Nat.le_of_ble_eq_true rfl, Nat.le_of_ble_eq_true rfl⟩ ⟨Nat.zero_le _, Nat.zero_le _⟩ (g_recv (a := aT) (k := 1) hK hT rfl rfl) ⟨hT, hF⟩ hS (fun _ h => h) rfl (Nat.le_of_ble_eq_true rfl) dX1_copyFrom_16 (fun u H locs h hu _ hq hS => ?_)
  obtain ⟨τ3, rfl⟩ : ∃ z, z = u := ⟨_, rfl⟩
  have hT := hu
  have hF := hF.past hq (fun j hj h => by have hj : j < 22 := hj; simp only [RA] at h; omega)
  refine lv_aload_n hx hb dX1_copyFrom_19 rfl (lv_at hl 0 rfl) ?_
  refine g_getR (a := aT) (k := 0) (o := 4) C hK hT fl_X1_21 rfl rfl dX1_copyFrom_20 ?_
  refine lv_aload_n hx hb dX1_copyFrom_23 rfl (lv_at hl 1 rfl) ?_
  refine g_getR (a := aS) (k := 0) (o := 4) C hK hF fl_X1_21 rfl rfl dX1_copyFrom_24 ?_
  refine g_vV C hK hl.1 (m_X2_copyFrom l G aT aS τ3 γ (by omega) _ h) mw_X2_copyFrom mi_X2_copyFrom ml_X1_51 rfl ⟨rfl, rfl, Nat.le_of_ble_eq_true rfl, Nat.le_of_ble_eq_true rfl⟩ ⟨Nat.zero_le _, Nat.zero_le _⟩ (g_recv (a := aT) (k := 4) hK hT rfl rfl) ⟨hT, hF⟩ hS (fun _ h => h) rfl (Nat.le_of_ble_eq_true rfl) dX1_copyFrom_27 (fun u H locs h hu _ hq hS => ?_)
  obtain ⟨τ5, rfl⟩ : ∃ z, z = u := ⟨_, rfl⟩
  have hT := hu
  have hF := hF.past hq (fun j hj h => by have hj : j < 22 := hj; simp only [RA] at h; omega)
  refine lv_aload_n hx hb dX1_copyFrom_30 rfl (lv_at hl 0 rfl) ?_
  refine g_getR (a := aT) (k := 0) (o := 12) C hK hT fl_X1_28 rfl rfl dX1_copyFrom_31 ?_
  refine lv_aload_n hx hb dX1_copyFrom_34 rfl (lv_at hl 1 rfl) ?_
  refine g_getR (a := aS) (k := 0) (o := 12) C hK hF fl_X1_28 rfl rfl dX1_copyFrom_35 ?_
  refine g_vV C hK hl.1 (m_X6_copyFrom l G aT aS τ5 γ (by omega) _ h) mw_X6_copyFrom mi_X6_copyFrom ml_X1_54 rfl ⟨rfl, rfl, Nat.le_of_ble_eq_true rfl, Nat.le_of_ble_eq_true rfl⟩ ⟨Nat.zero_le _, Nat.zero_le _⟩ (g_recv (a := aT) (k := 12) hK hT rfl rfl) ⟨hT, hF⟩ hS (fun _ h => h) rfl (Nat.le_of_ble_eq_true rfl) dX1_copyFrom_38 (fun u H locs h hu _ hq hS => ?_)
  obtain ⟨τ7, rfl⟩ : ∃ z, z = u := ⟨_, rfl⟩
  have hT := hu
  have hF := hF.past hq (fun j hj h => by have hj : j < 22 := hj; simp only [RA] at h; omega)
  refine lv_aload_n hx hb dX1_copyFrom_41 rfl (lv_at hl 0 rfl) ?_
  refine g_getR (a := aT) (k := 0) (o := 18) C hK hT fl_X1_35 rfl rfl dX1_copyFrom_42 ?_
  refine lv_aload_n hx hb dX1_copyFrom_45 rfl (lv_at hl 1 rfl) ?_
  refine g_getR (a := aS) (k := 0) (o := 18) C hK hF fl_X1_35 rfl rfl dX1_copyFrom_46 ?_
  refine g_vV C hK hl.1 (m_X0_copyFrom l G aT aS τ7 γ (by omega) _ h) mw_X0_copyFrom mi_X0_copyFrom ml_X1_57 rfl ⟨rfl, rfl, Nat.le_of_ble_eq_true rfl, Nat.le_of_ble_eq_true rfl⟩ ⟨Nat.zero_le _, Nat.zero_le _⟩ (g_recv (a := aT) (k := 18) hK hT rfl rfl) ⟨hT, hF⟩ hS (fun _ h => h) rfl (Nat.le_of_ble_eq_true rfl) dX1_copyFrom_49 (fun u H locs h hu _ hq hS => ?_)
  obtain ⟨τ9, rfl⟩ : ∃ z, z = u := ⟨_, rfl⟩
  have hT := hu
  have hF := hF.past hq (fun j hj h => by have hj : j < 22 := hj; simp only [RA] at h; omega)
  exact g_vret (post := Q) (P' := fun u H => rg G LG aT u H) (u := τ9) C hr hK hS h hT dX1_copyFrom_52
