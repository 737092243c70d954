theorem dX7_undo_0 : decode cX7_undo 0 = .ok (.aload_n 0, 1) := by decide +kernel
theorem dX7_undo_1 : decode cX7_undo 1 = .ok (.getfield 22, 3) := by decide +kernel
theorem dX7_undo_4 : decode cX7_undo 4 = .ok (.aload_n 0, 1) := by decide +kernel
theorem dX7_undo_5 : decode cX7_undo 5 = .ok (.getfield 12, 3) := by decide +kernel
theorem dX7_undo_8 : decode cX7_undo 8 = .ok (.invokevirtual 232, 3) := by decide +kernel
theorem dX7_undo_11 : decode cX7_undo 11 = .ok (.ireturn, 1) := by decide +kernel
def vc_X7_undo (Q : Int32 → Mem → Mem → Prop) (ξ : Mem) (γ : Mem) (τ : Mem) (η : Mem) (σ : (Nat → Mem)) (ο : Mem) : Prop :=
  vc_X3_restore (fun r1 η2 γ3 => Q r1 γ3 η2) η σ γ
set_option maxHeartbeats 8000000 in
set_option maxRecDepth 100000 in
theorem m_X7_undo (l : Launch) (G : GG) (x : Nat) (ξ : Mem) (γ : Mem) (τ : Mem) (η : Mem) (σ : (Nat → Mem)) (ο : Mem) (Q : Int32 → Mem → Mem → Prop) (h : vc_X7_undo Q ξ γ τ η σ ο) : CtI l yX7_undo cX7_undo 1 (some .int) { frames := 5, cells := 0, slots := 0, locals := 124 } [.ref (x + 0)] G (fun H => rg G LX x ξ H ∧ rg G LG (x + 1) γ H ∧ rg G LG (x + 23) τ H ∧ rg G LH (x + 45) η H ∧ HG G (x + 46) σ H ∧ rg G LO (x + 135) ο H) (fun r (u : Mem × Mem) => Q r u.1 u.2) (fun (u : Mem × Mem) H => rg G LG (x + 1) u.1 H ∧ rg G LH (x + 45) u.2 H) (fun q => RA (x + 1) 22 q ∨ RA (x + 45) 1 q) := by
  unfold CtI
  refine met_start (y := yX7_undo) (maxL := 1) (av := [.ref (x + 0)]) (G := G) (P := fun H => rg G LX x ξ H ∧ rg G LG (x + 1) γ H ∧ rg G LG (x + 23) τ H ∧ rg G LH (x + 45) η H ∧ HG G (x + 46) σ H ∧ rg G LO (x + 135) ο H) (by decide) rfl (Nat.le_of_ble_eq_true rfl) (fun p e s m below meth c ls C hr hP hK hl => ?_)
  obtain ⟨hx, hb, hml, hown, hts, hlocks⟩ := id C
  obtain ⟨hX, hG, hT, hH, hZ, hO⟩ := hP
  have hS : va_S (fun q => RA (x + 1) 22 q ∨ RA (x + 45) 1 q) s.heap s.heap [] := va_S.rf
  have hl : lv_has ls 1 [(0, .ref (x + 0))] := hl
  unfold vc_X7_undo at h
  refine lv_aload_n hx hb dX7_undo_0 rfl (lv_at hl 0 rfl) ?_
  refine g_getR (a := x) (k := 0) (o := 45) C hK hX fl_X7_22 rfl rfl dX7_undo_1 ?_
  refine lv_aload_n hx hb dX7_undo_4 rfl (lv_at hl 0 rfl) ?_
  refine g_getR (a := x) (k := 0) (o := 1) C hK hX fl_X7_12 rfl rfl dX7_undo_5 ?_
  refine g_vI C hK hl.1 (m_X3_restore l G (x + 45) (x + 1) η σ γ (by omega) _ h) mw_X3_restore mi_X3_restore ml_X7_232 rfl ⟨rfl, rfl, Nat.le_of_ble_eq_true rfl, Nat.le_of_ble_eq_true rfl⟩ ⟨Nat.zero_le _, Nat.zero_le _⟩ (g_recv (a := (x + 45)) (k := 0) hK hH rfl rfl) ⟨hH, hZ, hG⟩ hS (fun q h => by simp only [RA] at h ⊢; omega) rfl (Nat.le_of_ble_eq_true rfl) dX7_undo_8 (fun r1 u H locs h hu _ hq hS => ?_)
  obtain ⟨η2, γ3⟩ := u
  dsimp only at h hu
  obtain ⟨hH, hG⟩ := hu
  have hX := hX.past hq (fun j hj h => by have hj : j < 1 := hj; simp only [RA] at h; omega)
  have hT := hT.past hq (fun j hj h => by have hj : j < 22 := hj; simp only [RA] at h; omega)
  have hZ := hZ.past hq (fun j hj h => by have hj : j < 89 := hj; simp only [RA] at h; omega)
  have hO := hO.past hq (fun j hj h => by have hj : j < 3 := hj; simp only [RA] at h; omega)
  exact g_iret (post := fun r (u : Mem × Mem) => Q r u.1 u.2) (P' := fun (u : Mem × Mem) H => rg G LG (x + 1) u.1 H ∧ rg G LH (x + 45) u.2 H) (r := r1) (u := (γ3, η2)) C hr hK hS h ⟨hG, hH⟩ dX7_undo_11
theorem dX7_type_0 : decode cX7_type 0 = .ok (.iload_n 1, 1) := by decide +kernel
theorem dX7_type_1 : decode cX7_type 1 = .ok (.bipush 32, 2) := by decide +kernel
theorem dX7_type_3 : decode cX7_type 3 = .ok (.bipush 126, 2) := by decide +kernel
theorem dX7_type_5 : decode cX7_type 5 = .ok (.invokestatic 75, 3) := by decide +kernel
theorem dX7_type_8 : decode cX7_type 8 = .ok (.ifCond .ne 6, 3) := by decide +kernel
theorem dX7_type_11 : decode cX7_type 11 = .ok (.ldc 79, 2) := by decide +kernel
theorem dX7_type_13 : decode cX7_type 13 = .ok (.ireturn, 1) := by decide +kernel
theorem dX7_type_14 : decode cX7_type 14 = .ok (.aload_n 0, 1) := by decide +kernel
theorem dX7_type_15 : decode cX7_type 15 = .ok (.getfield 29, 3) := by decide +kernel
theorem dX7_type_18 : decode cX7_type 18 = .ok (.iload_n 1, 1) := by decide +kernel
theorem dX7_type_19 : decode cX7_type 19 = .ok (.invokevirtual 236, 3) := by decide +kernel
theorem dX7_type_22 : decode cX7_type 22 = .ok (.ireturn, 1) := by decide +kernel
def vc_X7_type (Q : Int32 → Mem → Prop) (ξ : Mem) (γ : Mem) (τ : Mem) (η : Mem) (σ : (Nat → Mem)) (ο : Mem) (x1 : Int32) : Prop :=
  vc_X7_within (fun r1 => ((¬ r1 = 0) → (vc_X4_append (fun r3 ο4 => Q r3 ο4) ο x1)) ∧ ((r1 = 0) → (Q (-1000001) ο))) x1 32 126
set_option maxHeartbeats 8000000 in
set_option maxRecDepth 100000 in
theorem m_X7_type (l : Launch) (G : GG) (x : Nat) (ξ : Mem) (γ : Mem) (τ : Mem) (η : Mem) (σ : (Nat → Mem)) (ο : Mem) (x1 : Int32) (Q : Int32 → Mem → Prop) (h : vc_X7_type Q ξ γ τ η σ ο x1) : CtI l yX7_type cX7_type 2 (some .int) { frames := 1, cells := 0, slots := 0, locals := 22 } [.ref (x + 0), .int x1] G (fun H => rg G LX x ξ H ∧ rg G LG (x + 1) γ H ∧ rg G LG (x + 23) τ H ∧ rg G LH (x + 45) η H ∧ HG G (x + 46) σ H ∧ rg G LO (x + 135) ο H) (Q) (fun u H => rg G LO (x + 135) u H) (RA (x + 135) 3) := by
  unfold CtI
  refine met_start (y := yX7_type) (maxL := 2) (av := [.ref (x + 0), .int x1]) (G := G) (P := fun H => rg G LX x ξ H ∧ rg G LG (x + 1) γ H ∧ rg G LG (x + 23) τ H ∧ rg G LH (x + 45) η H ∧ HG G (x + 46) σ H ∧ rg G LO (x + 135) ο H) (by decide) rfl (Nat.le_of_ble_eq_true rfl) (fun p e s m below meth c ls C hr hP hK hl => ?_)
  obtain ⟨hx, hb, hml, hown, hts, hlocks⟩ := id C
  obtain ⟨hX, hG, hT, hH, hZ, hO⟩ := hP
  have hS : va_S (RA (x + 135) 3) s.heap s.heap [] := va_S.rf
  have hl : lv_has ls 2 [(0, .ref (x + 0)), (1, .int x1)] := hl
  unfold vc_X7_type at h
  refine lv_iload_n hx hb dX7_type_0 rfl (lv_at hl 1 rfl) ?_
  refine lv_bipush (v := 32) hx hb dX7_type_1 (by decide) ?_
  refine lv_bipush (v := 126) hx hb dX7_type_3 (by decide) ?_
  refine g_sI C hK hl.1 (m_X7_within l G x1 32 126 _ h) mw_X7_within ms_X7_within ml_X7_75 rfl ⟨rfl, rfl, Nat.le_of_ble_eq_true rfl, Nat.le_of_ble_eq_true rfl⟩ ⟨Nat.zero_le _, Nat.zero_le _⟩ trivial hS (fun _ h => h.elim) rfl (Nat.le_of_ble_eq_true rfl) dX7_type_5 (fun r1 u H locs h hu _ hq hS => ?_)
  have hX := hX.past hq (fun _ _ h => h)
  have hG := hG.past hq (fun _ _ h => h)
  have hT := hT.past hq (fun _ _ h => h)
  have hH := hH.past hq (fun _ _ h => h)
  have hZ := hZ.past hq (fun _ _ h => h)
  have hO := hO.past hq (fun _ _ h => h)
  refine lv_if_ne (tgt := 14) hx hb dX7_type_8 (by decide) (fun c2 => ?_) (fun c2 => ?_)
  · replace h := h.1 c2
    refine lv_aload_n hx hb dX7_type_14 rfl (lv_at hl 0 rfl) ?_
    refine g_getR (a := x) (k := 0) (o := 135) C hK hX fl_X7_29 rfl rfl dX7_type_15 ?_
    refine lv_iload_n hx hb dX7_type_18 rfl (lv_at hl 1 rfl) ?_
    refine g_vI C hK hl.1 (m_X4_append l G (x + 135) ο x1 _ h) mw_X4_append mi_X4_append ml_X7_236 rfl ⟨rfl, rfl, Nat.le_of_ble_eq_true rfl, Nat.le_of_ble_eq_true rfl⟩ ⟨Nat.zero_le _, Nat.zero_le _⟩ (g_recv (a := (x + 135)) (k := 0) hK hO rfl rfl) hO hS (fun _ h => h) rfl (Nat.le_of_ble_eq_true rfl) dX7_type_19 (fun r3 u H locs h hu _ hq hS => ?_)
    obtain ⟨ο4, rfl⟩ : ∃ z, z = u := ⟨_, rfl⟩
    have hO := hu
    have hX := hX.past hq (fun j hj h => by have hj : j < 1 := hj; simp only [RA] at h; omega)
    have hG := hG.past hq (fun j hj h => by have hj : j < 22 := hj; simp only [RA] at h; omega)
    have hT := hT.past hq (fun j hj h => by have hj : j < 22 := hj; simp only [RA] at h; omega)
    have hH := hH.past hq (fun j hj h => by have hj : j < 1 := hj; simp only [RA] at h; omega)
    have hZ := hZ.past hq (fun j hj h => by have hj : j < 89 := hj; simp only [RA] at h; omega)
    exact g_iret (post := Q) (P' := fun u H => rg G LO (x + 135) u H) (r := r3) (u := ο4) C hr hK hS h hO dX7_type_22
  · replace h := h.2 c2
    refine g_ldc C kc_X7_79 dX7_type_11 ?_
    exact g_iret (post := Q) (P' := fun u H => rg G LO (x + 135) u H) (r := (-1000001)) (u := ο) C hr hK hS h hO dX7_type_13
theorem dX7_clearText_0 : decode cX7_clearText 0 = .ok (.aload_n 0, 1) := by decide +kernel
theorem dX7_clearText_1 : decode cX7_clearText 1 = .ok (.getfield 29, 3) := by decide +kernel
theorem dX7_clearText_4 : decode cX7_clearText 4 = .ok (.invokevirtual 239, 3) := by decide +kernel
theorem dX7_clearText_7 : decode cX7_clearText 7 = .ok (.ireturn, 1) := by decide +kernel
def vc_X7_clearText (Q : Int32 → Mem → Prop) (ξ : Mem) (γ : Mem) (τ : Mem) (η : Mem) (σ : (Nat → Mem)) (ο : Mem) : Prop :=
  vc_X4_clear (fun r1 ο2 => Q r1 ο2) ο
set_option maxHeartbeats 8000000 in
set_option maxRecDepth 100000 in
theorem m_X7_clearText (l : Launch) (G : GG) (x : Nat) (ξ : Mem) (γ : Mem) (τ : Mem) (η : Mem) (σ : (Nat → Mem)) (ο : Mem) (Q : Int32 → Mem → Prop) (h : vc_X7_clearText Q ξ γ τ η σ ο) : CtI l yX7_clearText cX7_clearText 1 (some .int) { frames := 1, cells := 0, slots := 0, locals := 21 } [.ref (x + 0)] G (fun H => rg G LX x ξ H ∧ rg G LG (x + 1) γ H ∧ rg G LG (x + 23) τ H ∧ rg G LH (x + 45) η H ∧ HG G (x + 46) σ H ∧ rg G LO (x + 135) ο H) (Q) (fun u H => rg G LO (x + 135) u H) (RA (x + 135) 3) := by
  unfold CtI
  refine met_start (y := yX7_clearText) (maxL := 1) (av := [.ref (x + 0)]) (G := G) (P := fun H => rg G LX x ξ H ∧ rg G LG (x + 1) γ H ∧ rg G LG (x + 23) τ H ∧ rg G LH (x + 45) η H ∧ HG G (x + 46) σ H ∧ rg G LO (x + 135) ο H) (by decide) rfl (Nat.le_of_ble_eq_true rfl) (fun p e s m below meth c ls C hr hP hK hl => ?_)
  obtain ⟨hx, hb, hml, hown, hts, hlocks⟩ := id C
  obtain ⟨hX, hG, hT, hH, hZ, hO⟩ := hP
  have hS : va_S (RA (x + 135) 3) s.heap s.heap [] := va_S.rf
  have hl : lv_has ls 1 [(0, .ref (x + 0))] := hl
  unfold vc_X7_clearText at h
  refine lv_aload_n hx hb dX7_clearText_0 rfl (lv_at hl 0 rfl) ?_
  refine g_getR (a := x) (k := 0) (o := 135) C hK hX fl_X7_29 rfl rfl dX7_clearText_1 ?_
  refine g_vI C hK hl.1 (m_X4_clear l G (x + 135) ο _ h) mw_X4_clear mi_X4_clear ml_X7_239 rfl ⟨rfl, rfl, Nat.le_of_ble_eq_true rfl, Nat.le_of_ble_eq_true rfl⟩ ⟨Nat.zero_le _, Nat.zero_le _⟩ (g_recv (a := (x + 135)) (k := 0) hK hO rfl rfl) hO hS (fun _ h => h) rfl (Nat.le_of_ble_eq_true rfl) dX7_clearText_4 (fun r1 u H locs h hu _ hq hS => ?_)
  obtain ⟨ο2, rfl⟩ : ∃ z, z = u := ⟨_, rfl⟩
  have hO := hu
  have hX := hX.past hq (fun j hj h => by have hj : j < 1 := hj; simp only [RA] at h; omega)
  have hG := hG.past hq (fun j hj h => by have hj : j < 22 := hj; simp only [RA] at h; omega)
  have hT := hT.past hq (fun j hj h => by have hj : j < 22 := hj; simp only [RA] at h; omega)
  have hH := hH.past hq (fun j hj h => by have hj : j < 1 := hj; simp only [RA] at h; omega)
  have hZ := hZ.past hq (fun j hj h => by have hj : j < 89 := hj; simp only [RA] at h; omega)
  exact g_iret (post := Q) (P' := fun u H => rg G LO (x + 135) u H) (r := r1) (u := ο2) C hr hK hS h hO dX7_clearText_7
theorem dX7_fault_0 : decode cX7_fault 0 = .ok (.iload_n 1, 1) := by decide +kernel
theorem dX7_fault_1 : decode cX7_fault 1 = .ok (.iconst 0, 1) := by decide +kernel
theorem dX7_fault_2 : decode cX7_fault 2 = .ok (.iconst 2, 1) := by decide +kernel
theorem dX7_fault_3 : decode cX7_fault 3 = .ok (.invokestatic 75, 3) := by decide +kernel
theorem dX7_fault_6 : decode cX7_fault 6 = .ok (.ifCond .ne 6, 3) := by decide +kernel
theorem dX7_fault_9 : decode cX7_fault 9 = .ok (.ldc 79, 2) := by decide +kernel
theorem dX7_fault_11 : decode cX7_fault 11 = .ok (.ireturn, 1) := by decide +kernel
theorem dX7_fault_12 : decode cX7_fault 12 = .ok (.aload_n 0, 1) := by decide +kernel
theorem dX7_fault_13 : decode cX7_fault 13 = .ok (.invokevirtual 33, 3) := by decide +kernel
theorem dX7_fault_16 : decode cX7_fault 16 = .ok (.aload_n 0, 1) := by decide +kernel
theorem dX7_fault_17 : decode cX7_fault 17 = .ok (.getfield 29, 3) := by decide +kernel
theorem dX7_fault_20 : decode cX7_fault 20 = .ok (.aload_n 0, 1) := by decide +kernel
theorem dX7_fault_21 : decode cX7_fault 21 = .ok (.getfield 16, 3) := by decide +kernel
theorem dX7_fault_24 : decode cX7_fault 24 = .ok (.invokevirtual 242, 3) := by decide +kernel
theorem dX7_fault_27 : decode cX7_fault 27 = .ok (.ifCond .eq 6, 3) := by decide +kernel
theorem dX7_fault_30 : decode cX7_fault 30 = .ok (.ldc 124, 2) := by decide +kernel
theorem dX7_fault_32 : decode cX7_fault 32 = .ok (.ireturn, 1) := by decide +kernel
theorem dX7_fault_33 : decode cX7_fault 33 = .ok (.iload_n 1, 1) := by decide +kernel
theorem dX7_fault_34 : decode cX7_fault 34 = .ok (.lookupswitch 42 #[(0, 26), (1, 34)], 26) := by decide +kernel
theorem dX7_fault_60 : decode cX7_fault 60 = .ok (.aload_n 0, 1) := by decide +kernel
theorem dX7_fault_61 : decode cX7_fault 61 = .ok (.getfield 29, 3) := by decide +kernel
theorem dX7_fault_64 : decode cX7_fault 64 = .ok (.getfield 246, 3) := by decide +kernel
theorem dX7_fault_67 : decode cX7_fault 67 = .ok (.ireturn, 1) := by decide +kernel
theorem dX7_fault_68 : decode cX7_fault 68 = .ok (.aload_n 0, 1) := by decide +kernel
theorem dX7_fault_69 : decode cX7_fault 69 = .ok (.getfield 29, 3) := by decide +kernel
theorem dX7_fault_72 : decode cX7_fault 72 = .ok (.getfield 249, 3) := by decide +kernel
theorem dX7_fault_75 : decode cX7_fault 75 = .ok (.ireturn, 1) := by decide +kernel
theorem dX7_fault_76 : decode cX7_fault 76 = .ok (.aload_n 0, 1) := by decide +kernel
theorem dX7_fault_77 : decode cX7_fault 77 = .ok (.getfield 29, 3) := by decide +kernel
theorem dX7_fault_80 : decode cX7_fault 80 = .ok (.getfield 252, 3) := by decide +kernel
theorem dX7_fault_83 : decode cX7_fault 83 = .ok (.ireturn, 1) := by decide +kernel
def vc_X7_fault (Q : Int32 → Mem → Mem → Prop) (ξ : Mem) (γ : Mem) (τ : Mem) (η : Mem) (σ : (Nat → Mem)) (ο : Mem) (x1 : Int32) : Prop :=
  vc_X7_within (fun r1 => ((¬ r1 = 0) → (vc_X7_startTrial (fun τ4 => vc_X4_obeyAll (fun r5 ο6 τ7 => ((r5 = 0) → (((x1 = 0) → (Q (ο6 0 2) τ7 ο6)) ∧ ((¬ x1 = 0) → (((x1 = 1) → (Q (ο6 0 3) τ7 ο6)) ∧ ((¬ x1 = 1) → (Q (ο6 0 4) τ7 ο6)))))) ∧ ((¬ r5 = 0) → (Q (-1000004) τ7 ο6))) ο τ4) ξ γ τ η σ ο)) ∧ ((r1 = 0) → (Q (-1000001) τ ο))) x1 0 2
set_option maxHeartbeats 8000000 in
set_option maxRecDepth 100000 in
theorem m_X7_fault (l : Launch) (G : GG) (x : Nat) (ξ : Mem) (γ : Mem) (τ : Mem) (η : Mem) (σ : (Nat → Mem)) (ο : Mem) (x1 : Int32) (Q : Int32 → Mem → Mem → Prop) (h : vc_X7_fault Q ξ γ τ η σ ο x1) : CtI l yX7_fault cX7_fault 2 (some .int) { frames := 7, cells := 0, slots := 0, locals := 160 } [.ref (x + 0), .int x1] G (fun H => rg G LX x ξ H ∧ rg G LG (x + 1) γ H ∧ rg G LG (x + 23) τ H ∧ rg G LH (x + 45) η H ∧ HG G (x + 46) σ H ∧ rg G LO (x + 135) ο H) (fun r (u : Mem × Mem) => Q r u.1 u.2) (fun (u : Mem × Mem) H => rg G LG (x + 23) u.1 H ∧ rg G LO (x + 135) u.2 H) (fun q => RA (x + 23) 22 q ∨ RA (x + 135) 3 q) := by
  unfold CtI
  refine met_start (y := yX7_fault) (maxL := 2) (av := [.ref (x + 0), .int x1]) (G := G) (P := fun H => rg G LX x ξ H ∧ rg G LG (x + 1) γ H ∧ rg G LG (x + 23) τ H ∧ rg G LH (x + 45) η H ∧ HG G (x + 46) σ H ∧ rg G LO (x + 135) ο H) (by decide) rfl (Nat.le_of_ble_eq_true rfl) (fun p e s m below meth c ls C hr hP hK hl => ?_)
  obtain ⟨hx, hb, hml, hown, hts, hlocks⟩ := id C
  obtain ⟨hX, hG, hT, hH, hZ, hO⟩ := hP
  have hS : va_S (fun q => RA (x + 23) 22 q ∨ RA (x + 135) 3 q) s.heap s.heap [] := va_S.rf
  have hl : lv_has ls 2 [(0, .ref (x + 0)), (1, .int x1)] := hl
  unfold vc_X7_fault at h
  refine lv_iload_n hx hb dX7_fault_0 rfl (lv_at hl 1 rfl) ?_
  refine lv_iconst (v := 0) hx hb dX7_fault_1 (by decide) ?_
  refine lv_iconst (v := 2) hx hb dX7_fault_2 (by decide) ?_
  refine g_sI C hK hl.1 (m_X7_within l G x1 0 2 _ h) mw_X7_within ms_X7_within ml_X7_75 rfl ⟨rfl, rfl, Nat.le_of_ble_eq_true rfl, Nat.le_of_ble_eq_true rfl⟩ ⟨Nat.zero_le _, Nat.zero_le _⟩ trivial hS (fun _ h => h.elim) rfl (Nat.le_of_ble_eq_true rfl) dX7_fault_3 (fun r1 u H locs h hu _ hq hS => ?_)
  have hX := hX.past hq (fun _ _ h => h)
  have hG := hG.past hq (fun _ _ h => h)
  have hT := hT.past hq (fun _ _ h => h)
  have hH := hH.past hq (fun _ _ h => h)
  have hZ := hZ.past hq (fun _ _ h => h)
  have hO := hO.past hq (fun _ _ h => h)
  refine lv_if_ne (tgt := 12) hx hb dX7_fault_6 (by decide) (fun c2 => ?_) (fun c2 => ?_)
  · replace h := h.1 c2
    refine lv_aload_n hx hb dX7_fault_12 rfl (lv_at hl 0 rfl) ?_
    refine g_vV C hK hl.1 (m_X7_startTrial l G x ξ γ τ η σ ο _ h) mw_X7_startTrial mi_X7_startTrial ml_X7_33 rfl ⟨rfl, rfl, Nat.le_of_ble_eq_true rfl, Nat.le_of_ble_eq_true rfl⟩ ⟨Nat.zero_le _, Nat.zero_le _⟩ (g_recv (a := x) (k := 0) hK hX rfl rfl) ⟨hX, hG, hT, hH, hZ, hO⟩ hS (fun q h => by simp only [RA] at h ⊢; omega) rfl (Nat.le_of_ble_eq_true rfl) dX7_fault_13 (fun u H locs h hu _ hq hS => ?_)
    obtain ⟨τ4, rfl⟩ : ∃ z, z = u := ⟨_, rfl⟩
    have hT := hu
    have hX := hX.past hq (fun j hj h => by have hj : j < 1 := hj; simp only [RA] at h; omega)
    have hG := hG.past hq (fun j hj h => by have hj : j < 22 := hj; simp only [RA] at h; omega)
    have hH := hH.past hq (fun j hj h => by have hj : j < 1 := hj; simp only [RA] at h; omega)
    have hZ := hZ.past hq (fun j hj h => by have hj : j < 89 := hj; simp only [RA] at h; omega)
    have hO := hO.past hq (fun j hj h => by have hj : j < 3 := hj; simp only [RA] at h; omega)
    refine lv_aload_n hx hb dX7_fault_16 rfl (lv_at hl 0 rfl) ?_
    refine g_getR (a := x) (k := 0) (o := 135) C hK hX fl_X7_29 rfl rfl dX7_fault_17 ?_
    refine lv_aload_n hx hb dX7_fault_20 rfl (lv_at hl 0 rfl) ?_
    refine g_getR (a := x) (k := 0) (o := 23) C hK hX fl_X7_16 rfl rfl dX7_fault_21 ?_
    refine g_vI C hK hl.1 (m_X4_obeyAll l G (x + 135) (x + 23) ο τ4 (by omega) _ h) mw_X4_obeyAll mi_X4_obeyAll ml_X7_242 rfl ⟨rfl, rfl, Nat.le_of_ble_eq_true rfl, Nat.le_of_ble_eq_true rfl⟩ ⟨Nat.zero_le _, Nat.zero_le _⟩ (g_recv (a := (x + 135)) (k := 0) hK hO rfl rfl) ⟨hO, hT⟩ hS (fun q h => by simp only [RA] at h ⊢; omega) rfl (Nat.le_of_ble_eq_true rfl) dX7_fault_24 (fun r5 u H locs h hu _ hq hS => ?_)
    obtain ⟨ο6, τ7⟩ := u
    dsimp only at h hu
    obtain ⟨hO, hT⟩ := hu
    have hX := hX.past hq (fun j hj h => by have hj : j < 1 := hj; simp only [RA] at h; omega)
    have hG := hG.past hq (fun j hj h => by have hj : j < 22 := hj; simp only [RA] at h; omega)
    have hH := hH.past hq (fun j hj h => by have hj : j < 1 := hj; simp only [RA] at h; omega)
    have hZ := hZ.past hq (fun j hj h => by have hj : j < 89 := hj; simp only [RA] at h; omega)
    refine lv_if_eq (tgt := 33) hx hb dX7_fault_27 (by decide) (fun c8 => ?_) (fun c8 => ?_)
    · replace h := h.1 c8
      refine lv_iload_n hx hb dX7_fault_33 rfl (lv_at hl 1 rfl) ?_
      by_cases c9 : x1 = 0
      · replace h := h.1 c9
        refine lv_lookup (off := 26) (tgt := 60) hx hb dX7_fault_34 (by decide) (by rw [c9]; rfl) (by decide) ?_
        refine lv_aload_n hx hb dX7_fault_60 rfl (lv_at hl 0 rfl) ?_
        refine g_getR (a := x) (k := 0) (o := 135) C hK hX fl_X7_29 rfl rfl dX7_fault_61 ?_
        refine g_getI (a := (x + 135)) (k := 0) C hK hO fl_X7_246 rfl rfl dX7_fault_64 ?_
        exact g_iret (post := fun r (u : Mem × Mem) => Q r u.1 u.2) (P' := fun (u : Mem × Mem) H => rg G LG (x + 23) u.1 H ∧ rg G LO (x + 135) u.2 H) (r := (ο6 0 2)) (u := (τ7, ο6)) C hr hK hS h ⟨hT, hO⟩ dX7_fault_67
      · replace h := h.2 c9
        by_cases c10 : x1 = 1
        · replace h := h.1 c10
          refine lv_lookup (off := 34) (tgt := 68) hx hb dX7_fault_34 (by decide) (by rw [c10]; rfl) (by decide) ?_
          refine lv_aload_n hx hb dX7_fault_68 rfl (lv_at hl 0 rfl) ?_
          refine g_getR (a := x) (k := 0) (o := 135) C hK hX fl_X7_29 rfl rfl dX7_fault_69 ?_
          refine g_getI (a := (x + 135)) (k := 0) C hK hO fl_X7_249 rfl rfl dX7_fault_72 ?_
          exact g_iret (post := fun r (u : Mem × Mem) => Q r u.1 u.2) (P' := fun (u : Mem × Mem) H => rg G LG (x + 23) u.1 H ∧ rg G LO (x + 135) u.2 H) (r := (ο6 0 3)) (u := (τ7, ο6)) C hr hK hS h ⟨hT, hO⟩ dX7_fault_75
        · replace h := h.2 c10
          refine lv_lookup (off := 42) (tgt := 76) hx hb dX7_fault_34 (by decide) (by simp only [List.toList_toArray]; rw [lv_osw c9 (by rfl), lv_osw c10 (by rfl)]; rfl) (by decide) ?_
          refine lv_aload_n hx hb dX7_fault_76 rfl (lv_at hl 0 rfl) ?_
          refine g_getR (a := x) (k := 0) (o := 135) C hK hX fl_X7_29 rfl rfl dX7_fault_77 ?_
          refine g_getI (a := (x + 135)) (k := 0) C hK hO fl_X7_252 rfl rfl dX7_fault_80 ?_
          exact g_iret (post := fun r (u : Mem × Mem) => Q r u.1 u.2) (P' := fun (u : Mem × Mem) H => rg G LG (x + 23) u.1 H ∧ rg G LO (x + 135) u.2 H) (r := (ο6 0 4)) (u := (τ7, ο6)) C hr hK hS h ⟨hT, hO⟩ dX7_fault_83
    · replace h := h.2 c8
      refine g_ldc C kc_X7_124 dX7_fault_30 ?_
      exact g_iret (post := fun r (u : Mem × Mem) => Q r u.1 u.2) (P' := fun (u : Mem × Mem) H => rg G LG (x + 23) u.1 H ∧ rg G LO (x + 135) u.2 H) (r := (-1000004)) (u := (τ7, ο6)) C hr hK hS h ⟨hT, hO⟩ dX7_fault_32
  · replace h := h.2 c2
    refine g_ldc C kc_X7_79 dX7_fault_9 ?_
    exact g_iret (post := fun r (u : Mem × Mem) => Q r u.1 u.2) (P' := fun (u : Mem × Mem) H => rg G LG (x + 23) u.1 H ∧ rg G LO (x + 135) u.2 H) (r := (-1000001)) (u := (τ, ο)) C hr hK hS h ⟨hT, hO⟩ dX7_fault_11
theorem dX7_play_0 : decode cX7_play 0 = .ok (.aload_n 0, 1) := by decide +kernel
theorem dX7_play_1 : decode cX7_play 1 = .ok (.invokevirtual 33, 3) := by decide +kernel
theorem dX7_play_4 : decode cX7_play 4 = .ok (.aload_n 0, 1) := by decide +kernel
theorem dX7_play_5 : decode cX7_play 5 = .ok (.getfield 29, 3) := by decide +kernel
theorem dX7_play_8 : decode cX7_play 8 = .ok (.aload_n 0, 1) := by decide +kernel
theorem dX7_play_9 : decode cX7_play 9 = .ok (.getfield 16, 3) := by decide +kernel
theorem dX7_play_12 : decode cX7_play 12 = .ok (.invokevirtual 242, 3) := by decide +kernel
theorem dX7_play_15 : decode cX7_play 15 = .ok (.ifCond .ne 6, 3) := by decide +kernel
theorem dX7_play_18 : decode cX7_play 18 = .ok (.ldc 193, 2) := by decide +kernel
theorem dX7_play_20 : decode cX7_play 20 = .ok (.ireturn, 1) := by decide +kernel
theorem dX7_play_21 : decode cX7_play 21 = .ok (.aload_n 0, 1) := by decide +kernel
theorem dX7_play_22 : decode cX7_play 22 = .ok (.aload_n 0, 1) := by decide +kernel
theorem dX7_play_23 : decode cX7_play 23 = .ok (.getfield 29, 3) := by decide +kernel
theorem dX7_play_26 : decode cX7_play 26 = .ok (.getfield 255, 3) := by decide +kernel
theorem dX7_play_29 : decode cX7_play 29 = .ok (.invokevirtual 40, 3) := by decide +kernel
theorem dX7_play_32 : decode cX7_play 32 = .ok (.ireturn, 1) := by decide +kernel
def vc_X7_play (Q : Int32 → Mem → Mem → Mem → (Nat → Mem) → Mem → Prop) (ξ : Mem) (γ : Mem) (τ : Mem) (η : Mem) (σ : (Nat → Mem)) (ο : Mem) : Prop :=
  vc_X7_startTrial (fun τ2 => vc_X4_obeyAll (fun r3 ο4 τ5 => ((¬ r3 = 0) → (vc_X7_keepTrial (fun r7 γ8 η9 σ10 => Q r7 γ8 τ5 η9 σ10 ο4) ξ γ τ5 η σ ο4 (ο4 0 1))) ∧ ((r3 = 0) → (Q (-1000002) γ τ5 η σ ο4))) ο τ2) ξ γ τ η σ ο
set_option maxHeartbeats 8000000 in
set_option maxRecDepth 100000 in
theorem m_X7_play (l : Launch) (G : GG) (x : Nat) (ξ : Mem) (γ : Mem) (τ : Mem) (η : Mem) (σ : (Nat → Mem)) (ο : Mem) (Q : Int32 → Mem → Mem → Mem → (Nat → Mem) → Mem → Prop) (h : vc_X7_play Q ξ γ τ η σ ο) : CtI l yX7_play cX7_play 1 (some .int) { frames := 7, cells := 0, slots := 0, locals := 160 } [.ref (x + 0)] G (fun H => rg G LX x ξ H ∧ rg G LG (x + 1) γ H ∧ rg G LG (x + 23) τ H ∧ rg G LH (x + 45) η H ∧ HG G (x + 46) σ H ∧ rg G LO (x + 135) ο H) (fun r (u : Mem × Mem × Mem × ((Nat → Mem)) × Mem) => Q r u.1 u.2.1 u.2.2.1 u.2.2.2.1 u.2.2.2.2) (fun (u : Mem × Mem × Mem × ((Nat → Mem)) × Mem) H => rg G LG (x + 1) u.1 H ∧ rg G LG (x + 23) u.2.1 H ∧ rg G LH (x + 45) u.2.2.1 H ∧ HG G (x + 46) u.2.2.2.1 H ∧ rg G LO (x + 135) u.2.2.2.2 H) (fun q => RA (x + 1) 22 q ∨ RA (x + 23) 22 q ∨ RA (x + 45) 1 q ∨ RA (x + 46) 89 q ∨ RA (x + 135) 3 q) := by
  unfold CtI
  refine met_start (y := yX7_play) (maxL := 1) (av := [.ref (x + 0)]) (G := G) (P := fun H => rg G LX x ξ H ∧ rg G LG (x + 1) γ H ∧ rg G LG (x + 23) τ H ∧ rg G LH (x + 45) η H ∧ HG G (x + 46) σ H ∧ rg G LO (x + 135) ο H) (by decide) rfl (Nat.le_of_ble_eq_true rfl) (fun p e s m below meth c ls C hr hP hK hl => ?_)
  obtain ⟨hx, hb, hml, hown, hts, hlocks⟩ := id C
  obtain ⟨hX, hG, hT, hH, hZ, hO⟩ := hP
  have hS : va_S (fun q => RA (x + 1) 22 q ∨ RA (x + 23) 22 q ∨ RA (x + 45) 1 q ∨ RA (x + 46) 89 q ∨ RA (x + 135) 3 q) s.heap s.heap [] := va_S.rf
  have hl : lv_has ls 1 [(0, .ref (x + 0))] := hl
  unfold vc_X7_play at h
  refine lv_aload_n hx hb dX7_play_0 rfl (lv_at hl 0 rfl) ?_
  refine g_vV C hK hl.1 (m_X7_startTrial l G x ξ γ τ η σ ο _ h) mw_X7_startTrial mi_X7_startTrial ml_X7_33 rfl ⟨rfl, rfl, Nat.le_of_ble_eq_true rfl, Nat.le_of_ble_eq_true rfl⟩ ⟨Nat.zero_le _, Nat.zero_le _⟩ (g_recv (a := x) (k := 0) hK hX rfl rfl) ⟨hX, hG, hT, hH, hZ, hO⟩ hS (fun q h => by simp only [RA] at h ⊢; omega) rfl (Nat.le_of_ble_eq_true rfl) dX7_play_1 (fun u H locs h hu _ hq hS => ?_)
  obtain ⟨τ2, rfl⟩ : ∃ z, z = u := ⟨_, rfl⟩
  have hT := hu
  have hX := hX.past hq (fun j hj h => by have hj : j < 1 := hj; simp only [RA] at h; omega)
  have hG := hG.past hq (fun j hj h => by have hj : j < 22 := hj; simp only [RA] at h; omega)
  have hH := hH.past hq (fun j hj h => by have hj : j < 1 := hj; simp only [RA] at h; omega)
  have hZ := hZ.past hq (fun j hj h => by have hj : j < 89 := hj; simp only [RA] at h; omega)
  have hO := hO.past hq (fun j hj h => by have hj : j < 3 := hj; simp only [RA] at h; omega)
  refine lv_aload_n hx hb dX7_play_4 rfl (lv_at hl 0 rfl) ?_
  refine g_getR (a := x) (k := 0) (o := 135) C hK hX fl_X7_29 rfl rfl dX7_play_5 ?_
  refine lv_aload_n hx hb dX7_play_8 rfl (lv_at hl 0 rfl) ?_
  refine g_getR (a := x) (k := 0) (o := 23) C hK hX fl_X7_16 rfl rfl dX7_play_9 ?_
  refine g_vI C hK hl.1 (m_X4_obeyAll l G (x + 135) (x + 23) ο τ2 (by omega) _ h) mw_X4_obeyAll mi_X4_obeyAll ml_X7_242 rfl ⟨rfl, rfl, Nat.le_of_ble_eq_true rfl, Nat.le_of_ble_eq_true rfl⟩ ⟨Nat.zero_le _, Nat.zero_le _⟩ (g_recv (a := (x + 135)) (k := 0) hK hO rfl rfl) ⟨hO, hT⟩ hS (fun q h => by simp only [RA] at h ⊢; omega) rfl (Nat.le_of_ble_eq_true rfl) dX7_play_12 (fun r3 u H locs h hu _ hq hS => ?_)
  obtain ⟨ο4, τ5⟩ := u
  dsimp only at h hu
  obtain ⟨hO, hT⟩ := hu
  have hX := hX.past hq (fun j hj h => by have hj : j < 1 := hj; simp only [RA] at h; omega)
  have hG := hG.past hq (fun j hj h => by have hj : j < 22 := hj; simp only [RA] at h; omega)
  have hH := hH.past hq (fun j hj h => by have hj : j < 1 := hj; simp only [RA] at h; omega)
  have hZ := hZ.past hq (fun j hj h => by have hj : j < 89 := hj; simp only [RA] at h; omega)
  refine lv_if_ne (tgt := 21) hx hb dX7_play_15 (by decide) (fun c6 => ?_) (fun c6 => ?_)
  · replace h := h.1 c6
    refine lv_aload_n hx hb dX7_play_21 rfl (lv_at hl 0 rfl) ?_
    refine lv_aload_n hx hb dX7_play_22 rfl (lv_at hl 0 rfl) ?_
    refine g_getR (a := x) (k := 0) (o := 135) C hK hX fl_X7_29 rfl rfl dX7_play_23 ?_
    refine g_getI (a := (x + 135)) (k := 0) C hK hO fl_X7_255 rfl rfl dX7_play_26 ?_
    refine g_vI C hK hl.1 (m_X7_keepTrial l G x ξ γ τ5 η σ ο4 (ο4 0 1) _ h) mw_X7_keepTrial mi_X7_keepTrial ml_X7_40 rfl ⟨rfl, rfl, Nat.le_of_ble_eq_true rfl, Nat.le_of_ble_eq_true rfl⟩ ⟨Nat.zero_le _, Nat.zero_le _⟩ (g_recv (a := x) (k := 0) hK hX rfl rfl) ⟨hX, hG, hT, hH, hZ, hO⟩ hS (fun q h => by simp only [RA] at h ⊢; omega) rfl (Nat.le_of_ble_eq_true rfl) dX7_play_29 (fun r7 u H locs h hu _ hq hS => ?_)
    obtain ⟨γ8, η9, σ10⟩ := u
    dsimp only at h hu
    obtain ⟨hG, hH, hZ⟩ := hu
    have hX := hX.past hq (fun j hj h => by have hj : j < 1 := hj; simp only [RA] at h; omega)
    have hT := hT.past hq (fun j hj h => by have hj : j < 22 := hj; simp only [RA] at h; omega)
    have hO := hO.past hq (fun j hj h => by have hj : j < 3 := hj; simp only [RA] at h; omega)
    exact g_iret (post := fun r (u : Mem × Mem × Mem × ((Nat → Mem)) × Mem) => Q r u.1 u.2.1 u.2.2.1 u.2.2.2.1 u.2.2.2.2) (P' := fun (u : Mem × Mem × Mem × ((Nat → Mem)) × Mem) H => rg G LG (x + 1) u.1 H ∧ rg G LG (x + 23) u.2.1 H ∧ rg G LH (x + 45) u.2.2.1 H ∧ HG G (x + 46) u.2.2.2.1 H ∧ rg G LO (x + 135) u.2.2.2.2 H) (r := r7) (u := (γ8, τ5, η9, σ10, ο4)) C hr hK hS h ⟨hG, hT, hH, hZ, hO⟩ dX7_play_32
  · replace h := h.2 c6
    refine g_ldc C kc_X7_193 dX7_play_18 ?_
    exact g_iret (post := fun r (u : Mem × Mem × Mem × ((Nat → Mem)) × Mem) => Q r u.1 u.2.1 u.2.2.1 u.2.2.2.1 u.2.2.2.2) (P' := fun (u : Mem × Mem × Mem × ((Nat → Mem)) × Mem) H => rg G LG (x + 1) u.1 H ∧ rg G LG (x + 23) u.2.1 H ∧ rg G LH (x + 45) u.2.2.1 H ∧ HG G (x + 46) u.2.2.2.1 H ∧ rg G LO (x + 135) u.2.2.2.2 H) (r := (-1000002)) (u := (γ, τ5, η, σ, ο4)) C hr hK hS h ⟨hG, hT, hH, hZ, hO⟩ dX7_play_20
