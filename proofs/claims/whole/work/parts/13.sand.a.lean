theorem dX7_startTrial_0 : decode cX7_startTrial 0 = .ok (.aload_n 0, 1) := by decide +kernel
theorem dX7_startTrial_1 : decode cX7_startTrial 1 = .ok (.getfield 16, 3) := by decide +kernel
theorem dX7_startTrial_4 : decode cX7_startTrial 4 = .ok (.aload_n 0, 1) := by decide +kernel
theorem dX7_startTrial_5 : decode cX7_startTrial 5 = .ok (.getfield 12, 3) := by decide +kernel
theorem dX7_startTrial_8 : decode cX7_startTrial 8 = .ok (.invokevirtual 258, 3) := by decide +kernel
theorem dX7_startTrial_11 : decode cX7_startTrial 11 = .ok (.return_, 1) := by decide +kernel
def vc_X7_startTrial (Q : Mem → Prop) (ξ : Mem) (γ : Mem) (τ : Mem) (η : Mem) (σ : (Nat → Mem)) (ο : Mem) : Prop :=
  vc_X1_copyFrom (fun τ2 => Q τ2) τ γ
set_option maxHeartbeats 8000000 in
set_option maxRecDepth 100000 in
theorem m_X7_startTrial (l : Launch) (G : GG) (x : Nat) (ξ : Mem) (γ : Mem) (τ : Mem) (η : Mem) (σ : (Nat → Mem)) (ο : Mem) (Q : Mem → Prop) (h : vc_X7_startTrial Q ξ γ τ η σ ο) : CtV l yX7_startTrial cX7_startTrial 1 { frames := 4, cells := 0, slots := 0, locals := 103 } [.ref (x + 0)] G (fun H => rg G LX x ξ H ∧ rg G LG (x + 1) γ H ∧ rg G LG (x + 23) τ H ∧ rg G LH (x + 45) η H ∧ HG G (x + 46) σ H ∧ rg G LO (x + 135) ο H) (Q) (fun u H => rg G LG (x + 23) u H) (RA (x + 23) 22) := by
  unfold CtV
  refine met_start (y := yX7_startTrial) (maxL := 1) (av := [.ref (x + 0)]) (G := G) (P := fun H => rg G LX x ξ H ∧ rg G LG (x + 1) γ H ∧ rg G LG (x + 23) τ H ∧ rg G LH (x + 45) η H ∧ HG G (x + 46) σ H ∧ rg G LO (x + 135) ο H) (by decide) rfl (Nat.le_of_ble_eq_true rfl) (fun p e s m below meth c ls C hr hP hK hl => ?_)
  obtain ⟨hx, hb, hml, hown, hts, hlocks⟩ := id C
  obtain ⟨hX, hG, hT, hH, hZ, hO⟩ := hP
  have hS : va_S (RA (x + 23) 22) s.heap s.heap [] := va_S.rf
  have hl : lv_has ls 1 [(0, .ref (x + 0))] := hl
  unfold vc_X7_startTrial at h
  refine lv_aload_n hx hb dX7_startTrial_0 rfl (lv_at hl 0 rfl) ?_
  refine g_getR (a := x) (k := 0) (o := 23) C hK hX fl_X7_16 rfl rfl dX7_startTrial_1 ?_
  refine lv_aload_n hx hb dX7_startTrial_4 rfl (lv_at hl 0 rfl) ?_
  refine g_getR (a := x) (k := 0) (o := 1) C hK hX fl_X7_12 rfl rfl dX7_startTrial_5 ?_
  refine g_vV C hK hl.1 (m_X1_copyFrom l G (x + 23) (x + 1) τ γ (by omega) _ h) mw_X1_copyFrom mi_X1_copyFrom ml_X7_258 rfl ⟨rfl, rfl, Nat.le_of_ble_eq_true rfl, Nat.le_of_ble_eq_true rfl⟩ ⟨Nat.zero_le _, Nat.zero_le _⟩ (g_recv (a := (x + 23)) (k := 0) hK hT rfl rfl) ⟨hT, hG⟩ hS (fun _ h => h) rfl (Nat.le_of_ble_eq_true rfl) dX7_startTrial_8 (fun u H locs h hu _ hq hS => ?_)
  obtain ⟨τ2, rfl⟩ : ∃ z, z = u := ⟨_, rfl⟩
  have hT := hu
  have hX := hX.past hq (fun j hj h => by have hj : j < 1 := hj; simp only [RA] at h; omega)
  have hG := hG.past hq (fun j hj h => by have hj : j < 22 := hj; simp only [RA] at h; omega)
  have hH := hH.past hq (fun j hj h => by have hj : j < 1 := hj; simp only [RA] at h; omega)
  have hZ := hZ.past hq (fun j hj h => by have hj : j < 89 := hj; simp only [RA] at h; omega)
  have hO := hO.past hq (fun j hj h => by have hj : j < 3 := hj; simp only [RA] at h; omega)
  exact g_vret (post := Q) (P' := fun u H => rg G LG (x + 23) u H) (u := τ2) C hr hK hS h hT dX7_startTrial_11
theorem dX7_keepTrial_0 : decode cX7_keepTrial 0 = .ok (.iload_n 1, 1) := by decide +kernel
theorem dX7_keepTrial_1 : decode cX7_keepTrial 1 = .ok (.ifCond .lt 25, 3) := by decide +kernel
theorem dX7_keepTrial_4 : decode cX7_keepTrial 4 = .ok (.aload_n 0, 1) := by decide +kernel
theorem dX7_keepTrial_5 : decode cX7_keepTrial 5 = .ok (.getfield 22, 3) := by decide +kernel
theorem dX7_keepTrial_8 : decode cX7_keepTrial 8 = .ok (.aload_n 0, 1) := by decide +kernel
theorem dX7_keepTrial_9 : decode cX7_keepTrial 9 = .ok (.getfield 12, 3) := by decide +kernel
theorem dX7_keepTrial_12 : decode cX7_keepTrial 12 = .ok (.invokevirtual 262, 3) := by decide +kernel
theorem dX7_keepTrial_15 : decode cX7_keepTrial 15 = .ok (.aload_n 0, 1) := by decide +kernel
theorem dX7_keepTrial_16 : decode cX7_keepTrial 16 = .ok (.getfield 12, 3) := by decide +kernel
theorem dX7_keepTrial_19 : decode cX7_keepTrial 19 = .ok (.aload_n 0, 1) := by decide +kernel
theorem dX7_keepTrial_20 : decode cX7_keepTrial 20 = .ok (.getfield 16, 3) := by decide +kernel
theorem dX7_keepTrial_23 : decode cX7_keepTrial 23 = .ok (.invokevirtual 258, 3) := by decide +kernel
theorem dX7_keepTrial_26 : decode cX7_keepTrial 26 = .ok (.iload_n 1, 1) := by decide +kernel
theorem dX7_keepTrial_27 : decode cX7_keepTrial 27 = .ok (.ireturn, 1) := by decide +kernel
def vc_X7_keepTrial (Q : Int32 → Mem → Mem → (Nat → Mem) → Prop) (ξ : Mem) (γ : Mem) (τ : Mem) (η : Mem) (σ : (Nat → Mem)) (ο : Mem) (x1 : Int32) : Prop :=
  ((x1 < 0) → (Q x1 γ η σ)) ∧ ((¬ x1 < 0) → (vc_X3_record (fun η3 σ4 => vc_X1_copyFrom (fun γ6 => Q x1 γ6 η3 σ4) γ τ) η σ γ))
set_option maxHeartbeats 8000000 in
set_option maxRecDepth 100000 in
theorem m_X7_keepTrial (l : Launch) (G : GG) (x : Nat) (ξ : Mem) (γ : Mem) (τ : Mem) (η : Mem) (σ : (Nat → Mem)) (ο : Mem) (x1 : Int32) (Q : Int32 → Mem → Mem → (Nat → Mem) → Prop) (h : vc_X7_keepTrial Q ξ γ τ η σ ο x1) : CtI l yX7_keepTrial cX7_keepTrial 2 (some .int) { frames := 5, cells := 0, slots := 0, locals := 124 } [.ref (x + 0), .int x1] G (fun H => rg G LX x ξ H ∧ rg G LG (x + 1) γ H ∧ rg G LG (x + 23) τ H ∧ rg G LH (x + 45) η H ∧ HG G (x + 46) σ H ∧ rg G LO (x + 135) ο H) (fun r (u : Mem × Mem × ((Nat → Mem))) => Q r u.1 u.2.1 u.2.2) (fun (u : Mem × Mem × ((Nat → Mem))) H => rg G LG (x + 1) u.1 H ∧ rg G LH (x + 45) u.2.1 H ∧ HG G (x + 46) u.2.2 H) (fun q => RA (x + 1) 22 q ∨ RA (x + 45) 1 q ∨ RA (x + 46) 89 q) := by
  unfold CtI
  refine met_start (y := yX7_keepTrial) (maxL := 2) (av := [.ref (x + 0), .int x1]) (G := G) (P := fun H => rg G LX x ξ H ∧ rg G LG (x + 1) γ H ∧ rg G LG (x + 23) τ H ∧ rg G LH (x + 45) η H ∧ HG G (x + 46) σ H ∧ rg G LO (x + 135) ο H) (by decide) rfl (Nat.le_of_ble_eq_true rfl) (fun p e s m below meth c ls C hr hP hK hl => ?_)
  obtain ⟨hx, hb, hml, hown, hts, hlocks⟩ := id C
  obtain ⟨hX, hG, hT, hH, hZ, hO⟩ := hP
  have hS : va_S (fun q => RA (x + 1) 22 q ∨ RA (x + 45) 1 q ∨ RA (x + 46) 89 q) s.heap s.heap [] := va_S.rf
  have hl : lv_has ls 2 [(0, .ref (x + 0)), (1, .int x1)] := hl
  unfold vc_X7_keepTrial at h
  refine lv_iload_n hx hb dX7_keepTrial_0 rfl (lv_at hl 1 rfl) ?_
  refine lv_if_lt (tgt := 26) hx hb dX7_keepTrial_1 (by decide) (fun c1 => ?_) (fun c1 => ?_)
  · replace h := h.1 c1
    refine lv_iload_n hx hb dX7_keepTrial_26 rfl (lv_at hl 1 rfl) ?_
    exact g_iret (post := fun r (u : Mem × Mem × ((Nat → Mem))) => Q r u.1 u.2.1 u.2.2) (P' := fun (u : Mem × Mem × ((Nat → Mem))) H => rg G LG (x + 1) u.1 H ∧ rg G LH (x + 45) u.2.1 H ∧ HG G (x + 46) u.2.2 H) (r := x1) (u := (γ, η, σ)) C hr hK hS h ⟨hG, hH, hZ⟩ dX7_keepTrial_27
  · replace h := h.2 c1
    refine lv_aload_n hx hb dX7_keepTrial_4 rfl (lv_at hl 0 rfl) ?_
    refine g_getR (a := x) (k := 0) (o := 45) C hK hX fl_X7_22 rfl rfl dX7_keepTrial_5 ?_
    refine lv_aload_n hx hb dX7_keepTrial_8 rfl (lv_at hl 0 rfl) ?_
    refine g_getR (a := x) (k := 0) (o := 1) C hK hX fl_X7_12 rfl rfl dX7_keepTrial_9 ?_
    refine g_vV C hK hl.1 (m_X3_record l G (x + 45) (x + 1) η σ γ (by omega) _ h) mw_X3_record mi_X3_record ml_X7_262 rfl ⟨rfl, rfl, Nat.le_of_ble_eq_true rfl, Nat.le_of_ble_eq_true rfl⟩ ⟨Nat.zero_le _, Nat.zero_le _⟩ (g_recv (a := (x + 45)) (k := 0) hK hH rfl rfl) ⟨hH, hZ, hG⟩ hS (fun q h => by simp only [RA] at h ⊢; omega) rfl (Nat.le_of_ble_eq_true rfl) dX7_keepTrial_12 (fun u H locs h hu _ hq hS => ?_)
    obtain ⟨η3, σ4⟩ := u
    dsimp only at h hu
    obtain ⟨hH, hZ⟩ := hu
    have hX := hX.past hq (fun j hj h => by have hj : j < 1 := hj; simp only [RA] at h; omega)
    have hG := hG.past hq (fun j hj h => by have hj : j < 22 := hj; simp only [RA] at h; omega)
    have hT := hT.past hq (fun j hj h => by have hj : j < 22 := hj; simp only [RA] at h; omega)
    have hO := hO.past hq (fun j hj h => by have hj : j < 3 := hj; simp only [RA] at h; omega)
    refine lv_aload_n hx hb dX7_keepTrial_15 rfl (lv_at hl 0 rfl) ?_
    refine g_getR (a := x) (k := 0) (o := 1) C hK hX fl_X7_12 rfl rfl dX7_keepTrial_16 ?_
    refine lv_aload_n hx hb dX7_keepTrial_19 rfl (lv_at hl 0 rfl) ?_
    refine g_getR (a := x) (k := 0) (o := 23) C hK hX fl_X7_16 rfl rfl dX7_keepTrial_20 ?_
    refine g_vV C hK hl.1 (m_X1_copyFrom l G (x + 1) (x + 23) γ τ (by omega) _ h) mw_X1_copyFrom mi_X1_copyFrom ml_X7_258 rfl ⟨rfl, rfl, Nat.le_of_ble_eq_true rfl, Nat.le_of_ble_eq_true rfl⟩ ⟨Nat.zero_le _, Nat.zero_le _⟩ (g_recv (a := (x + 1)) (k := 0) hK hG rfl rfl) ⟨hG, hT⟩ hS (fun q h => by simp only [RA] at h ⊢; omega) rfl (Nat.le_of_ble_eq_true rfl) dX7_keepTrial_23 (fun u H locs h hu _ hq hS => ?_)
    obtain ⟨γ6, rfl⟩ : ∃ z, z = u := ⟨_, rfl⟩
    have hG := hu
    have hX := hX.past hq (fun j hj h => by have hj : j < 1 := hj; simp only [RA] at h; omega)
    have hT := hT.past hq (fun j hj h => by have hj : j < 22 := hj; simp only [RA] at h; omega)
    have hH := hH.past hq (fun j hj h => by have hj : j < 1 := hj; simp only [RA] at h; omega)
    have hZ := hZ.past hq (fun j hj h => by have hj : j < 89 := hj; simp only [RA] at h; omega)
    have hO := hO.past hq (fun j hj h => by have hj : j < 3 := hj; simp only [RA] at h; omega)
    refine lv_iload_n hx hb dX7_keepTrial_26 rfl (lv_at hl 1 rfl) ?_
    exact g_iret (post := fun r (u : Mem × Mem × ((Nat → Mem))) => Q r u.1 u.2.1 u.2.2) (P' := fun (u : Mem × Mem × ((Nat → Mem))) H => rg G LG (x + 1) u.1 H ∧ rg G LH (x + 45) u.2.1 H ∧ HG G (x + 46) u.2.2 H) (r := x1) (u := (γ6, η3, σ4)) C hr hK hS h ⟨hG, hH, hZ⟩ dX7_keepTrial_27
theorem dX7_player_0 : decode cX7_player 0 = .ok (.aload_n 0, 1) := by decide +kernel
theorem dX7_player_1 : decode cX7_player 1 = .ok (.invokevirtual 33, 3) := by decide +kernel
theorem dX7_player_4 : decode cX7_player 4 = .ok (.aload_n 0, 1) := by decide +kernel
theorem dX7_player_5 : decode cX7_player 5 = .ok (.aload_n 0, 1) := by decide +kernel
theorem dX7_player_6 : decode cX7_player 6 = .ok (.getfield 16, 3) := by decide +kernel
theorem dX7_player_9 : decode cX7_player 9 = .ok (.invokevirtual 36, 3) := by decide +kernel
theorem dX7_player_12 : decode cX7_player 12 = .ok (.invokevirtual 40, 3) := by decide +kernel
theorem dX7_player_15 : decode cX7_player 15 = .ok (.ireturn, 1) := by decide +kernel
def vc_X7_player (Q : Int32 → Mem → Mem → Mem → (Nat → Mem) → Prop) (ξ : Mem) (γ : Mem) (τ : Mem) (η : Mem) (σ : (Nat → Mem)) (ο : Mem) : Prop :=
  vc_X7_startTrial (fun τ2 => vc_X1_addPlayer (fun r3 τ4 => vc_X7_keepTrial (fun r5 γ6 η7 σ8 => Q r5 γ6 τ4 η7 σ8) ξ γ τ4 η σ ο r3) τ2) ξ γ τ η σ ο
set_option maxHeartbeats 8000000 in
set_option maxRecDepth 100000 in
theorem m_X7_player (l : Launch) (G : GG) (x : Nat) (ξ : Mem) (γ : Mem) (τ : Mem) (η : Mem) (σ : (Nat → Mem)) (ο : Mem) (Q : Int32 → Mem → Mem → Mem → (Nat → Mem) → Prop) (h : vc_X7_player Q ξ γ τ η σ ο) : CtI l yX7_player cX7_player 1 (some .int) { frames := 6, cells := 0, slots := 0, locals := 145 } [.ref (x + 0)] G (fun H => rg G LX x ξ H ∧ rg G LG (x + 1) γ H ∧ rg G LG (x + 23) τ H ∧ rg G LH (x + 45) η H ∧ HG G (x + 46) σ H ∧ rg G LO (x + 135) ο H) (fun r (u : Mem × Mem × Mem × ((Nat → Mem))) => Q r u.1 u.2.1 u.2.2.1 u.2.2.2) (fun (u : Mem × Mem × Mem × ((Nat → Mem))) H => rg G LG (x + 1) u.1 H ∧ rg G LG (x + 23) u.2.1 H ∧ rg G LH (x + 45) u.2.2.1 H ∧ HG G (x + 46) u.2.2.2 H) (fun q => RA (x + 1) 22 q ∨ RA (x + 23) 22 q ∨ RA (x + 45) 1 q ∨ RA (x + 46) 89 q) := by
  unfold CtI
  refine met_start (y := yX7_player) (maxL := 1) (av := [.ref (x + 0)]) (G := G) (P := fun H => rg G LX x ξ H ∧ rg G LG (x + 1) γ H ∧ rg G LG (x + 23) τ H ∧ rg G LH (x + 45) η H ∧ HG G (x + 46) σ H ∧ rg G LO (x + 135) ο H) (by decide) rfl (Nat.le_of_ble_eq_true rfl) (fun p e s m below meth c ls C hr hP hK hl => ?_)
  obtain ⟨hx, hb, hml, hown, hts, hlocks⟩ := id C
  obtain ⟨hX, hG, hT, hH, hZ, hO⟩ := hP
  have hS : va_S (fun q => RA (x + 1) 22 q ∨ RA (x + 23) 22 q ∨ RA (x + 45) 1 q ∨ RA (x + 46) 89 q) s.heap s.heap [] := va_S.rf
  have hl : lv_has ls 1 [(0, .ref (x + 0))] := hl
  unfold vc_X7_player at h
  refine lv_aload_n hx hb dX7_player_0 rfl (lv_at hl 0 rfl) ?_
  refine g_vV C hK hl.1 (m_X7_startTrial l G x ξ γ τ η σ ο _ h) mw_X7_startTrial mi_X7_startTrial ml_X7_33 rfl ⟨rfl, rfl, Nat.le_of_ble_eq_true rfl, Nat.le_of_ble_eq_true rfl⟩ ⟨Nat.zero_le _, Nat.zero_le _⟩ (g_recv (a := x) (k := 0) hK hX rfl rfl) ⟨hX, hG, hT, hH, hZ, hO⟩ hS (fun q h => by simp only [RA] at h ⊢; omega) rfl (Nat.le_of_ble_eq_true rfl) dX7_player_1 (fun u H locs h hu _ hq hS => ?_)
  obtain ⟨τ2, rfl⟩ : ∃ z, z = u := ⟨_, rfl⟩
  have hT := hu
  have hX := hX.past hq (fun j hj h => by have hj : j < 1 := hj; simp only [RA] at h; omega)
  have hG := hG.past hq (fun j hj h => by have hj : j < 22 := hj; simp only [RA] at h; omega)
  have hH := hH.past hq (fun j hj h => by have hj : j < 1 := hj; simp only [RA] at h; omega)
  have hZ := hZ.past hq (fun j hj h => by have hj : j < 89 := hj; simp only [RA] at h; omega)
  have hO := hO.past hq (fun j hj h => by have hj : j < 3 := hj; simp only [RA] at h; omega)
  refine lv_aload_n hx hb dX7_player_4 rfl (lv_at hl 0 rfl) ?_
  refine lv_aload_n hx hb dX7_player_5 rfl (lv_at hl 0 rfl) ?_
  refine g_getR (a := x) (k := 0) (o := 23) C hK hX fl_X7_16 rfl rfl dX7_player_6 ?_
  refine g_vI C hK hl.1 (m_X1_addPlayer l G (x + 23) τ2 _ h) mw_X1_addPlayer mi_X1_addPlayer ml_X7_36 rfl ⟨rfl, rfl, Nat.le_of_ble_eq_true rfl, Nat.le_of_ble_eq_true rfl⟩ ⟨Nat.zero_le _, Nat.zero_le _⟩ (g_recv (a := (x + 23)) (k := 0) hK hT rfl rfl) hT hS (fun q h => by simp only [RA] at h ⊢; omega) rfl (Nat.le_of_ble_eq_true rfl) dX7_player_9 (fun r3 u H locs h hu _ hq hS => ?_)
  obtain ⟨τ4, rfl⟩ : ∃ z, z = u := ⟨_, rfl⟩
  have hT := hu
  have hX := hX.past hq (fun j hj h => by have hj : j < 1 := hj; simp only [RA] at h; omega)
  have hG := hG.past hq (fun j hj h => by have hj : j < 22 := hj; simp only [RA] at h; omega)
  have hH := hH.past hq (fun j hj h => by have hj : j < 1 := hj; simp only [RA] at h; omega)
  have hZ := hZ.past hq (fun j hj h => by have hj : j < 89 := hj; simp only [RA] at h; omega)
  have hO := hO.past hq (fun j hj h => by have hj : j < 3 := hj; simp only [RA] at h; omega)
  refine g_vI C hK hl.1 (m_X7_keepTrial l G x ξ γ τ4 η σ ο r3 _ h) mw_X7_keepTrial mi_X7_keepTrial ml_X7_40 rfl ⟨rfl, rfl, Nat.le_of_ble_eq_true rfl, Nat.le_of_ble_eq_true rfl⟩ ⟨Nat.zero_le _, Nat.zero_le _⟩ (g_recv (a := x) (k := 0) hK hX rfl rfl) ⟨hX, hG, hT, hH, hZ, hO⟩ hS (fun q h => by simp only [RA] at h ⊢; omega) rfl (Nat.le_of_ble_eq_true rfl) dX7_player_12 (fun r5 u H locs h hu _ hq hS => ?_)
  obtain ⟨γ6, η7, σ8⟩ := u
  dsimp only at h hu
  obtain ⟨hG, hH, hZ⟩ := hu
  have hX := hX.past hq (fun j hj h => by have hj : j < 1 := hj; simp only [RA] at h; omega)
  have hT := hT.past hq (fun j hj h => by have hj : j < 22 := hj; simp only [RA] at h; omega)
  have hO := hO.past hq (fun j hj h => by have hj : j < 3 := hj; simp only [RA] at h; omega)
  exact g_iret (post := fun r (u : Mem × Mem × Mem × ((Nat → Mem))) => Q r u.1 u.2.1 u.2.2.1 u.2.2.2) (P' := fun (u : Mem × Mem × Mem × ((Nat → Mem))) H => rg G LG (x + 1) u.1 H ∧ rg G LG (x + 23) u.2.1 H ∧ rg G LH (x + 45) u.2.2.1 H ∧ HG G (x + 46) u.2.2.2 H) (r := r5) (u := (γ6, τ4, η7, σ8)) C hr hK hS h ⟨hG, hT, hH, hZ⟩ dX7_player_15
theorem dX7_size_0 : decode cX7_size 0 = .ok (.aload_n 0, 1) := by decide +kernel
theorem dX7_size_1 : decode cX7_size 1 = .ok (.invokevirtual 33, 3) := by decide +kernel
theorem dX7_size_4 : decode cX7_size 4 = .ok (.aload_n 0, 1) := by decide +kernel
theorem dX7_size_5 : decode cX7_size 5 = .ok (.aload_n 0, 1) := by decide +kernel
theorem dX7_size_6 : decode cX7_size 6 = .ok (.getfield 16, 3) := by decide +kernel
theorem dX7_size_9 : decode cX7_size 9 = .ok (.iload_n 1, 1) := by decide +kernel
theorem dX7_size_10 : decode cX7_size 10 = .ok (.iload_n 2, 1) := by decide +kernel
theorem dX7_size_11 : decode cX7_size 11 = .ok (.iload_n 3, 1) := by decide +kernel
theorem dX7_size_12 : decode cX7_size 12 = .ok (.invokevirtual 44, 3) := by decide +kernel
theorem dX7_size_15 : decode cX7_size 15 = .ok (.invokevirtual 40, 3) := by decide +kernel
theorem dX7_size_18 : decode cX7_size 18 = .ok (.ireturn, 1) := by decide +kernel
def vc_X7_size (Q : Int32 → Mem → Mem → Mem → (Nat → Mem) → Prop) (ξ : Mem) (γ : Mem) (τ : Mem) (η : Mem) (σ : (Nat → Mem)) (ο : Mem) (x1 : Int32) (x2 : Int32) (x3 : Int32) : Prop :=
  vc_X7_startTrial (fun τ2 => vc_X1_setSize (fun r3 τ4 => vc_X7_keepTrial (fun r5 γ6 η7 σ8 => Q r5 γ6 τ4 η7 σ8) ξ γ τ4 η σ ο r3) τ2 x1 x2 x3) ξ γ τ η σ ο
set_option maxHeartbeats 8000000 in
set_option maxRecDepth 100000 in
theorem m_X7_size (l : Launch) (G : GG) (x : Nat) (ξ : Mem) (γ : Mem) (τ : Mem) (η : Mem) (σ : (Nat → Mem)) (ο : Mem) (x1 : Int32) (x2 : Int32) (x3 : Int32) (Q : Int32 → Mem → Mem → Mem → (Nat → Mem) → Prop) (h : vc_X7_size Q ξ γ τ η σ ο x1 x2 x3) : CtI l yX7_size cX7_size 4 (some .int) { frames := 6, cells := 0, slots := 0, locals := 145 } [.ref (x + 0), .int x1, .int x2, .int x3] G (fun H => rg G LX x ξ H ∧ rg G LG (x + 1) γ H ∧ rg G LG (x + 23) τ H ∧ rg G LH (x + 45) η H ∧ HG G (x + 46) σ H ∧ rg G LO (x + 135) ο H) (fun r (u : Mem × Mem × Mem × ((Nat → Mem))) => Q r u.1 u.2.1 u.2.2.1 u.2.2.2) (fun (u : Mem × Mem × Mem × ((Nat → Mem))) H => rg G LG (x + 1) u.1 H ∧ rg G LG (x + 23) u.2.1 H ∧ rg G LH (x + 45) u.2.2.1 H ∧ HG G (x + 46) u.2.2.2 H) (fun q => RA (x + 1) 22 q ∨ RA (x + 23) 22 q ∨ RA (x + 45) 1 q ∨ RA (x + 46) 89 q) := by
  unfold CtI
  refine met_start (y := yX7_size) (maxL := 4) (av := [.ref (x + 0), .int x1, .int x2, .int x3]) (G := G) (P := fun H => rg G LX x ξ H ∧ rg G LG (x + 1) γ H ∧ rg G LG (x + 23) τ H ∧ rg G LH (x + 45) η H ∧ HG G (x + 46) σ H ∧ rg G LO (x + 135) ο H) (by decide) rfl (Nat.le_of_ble_eq_true rfl) (fun p e s m below meth c ls C hr hP hK hl => ?_)
  obtain ⟨hx, hb, hml, hown, hts, hlocks⟩ := id C
  obtain ⟨hX, hG, hT, hH, hZ, hO⟩ := hP
  have hS : va_S (fun q => RA (x + 1) 22 q ∨ RA (x + 23) 22 q ∨ RA (x + 45) 1 q ∨ RA (x + 46) 89 q) s.heap s.heap [] := va_S.rf
  have hl : lv_has ls 4 [(0, .ref (x + 0)), (1, .int x1), (2, .int x2), (3, .int x3)] := hl
  unfold vc_X7_size at h
  refine lv_aload_n hx hb dX7_size_0 rfl (lv_at hl 0 rfl) ?_
  refine g_vV C hK hl.1 (m_X7_startTrial l G x ξ γ τ η σ ο _ h) mw_X7_startTrial mi_X7_startTrial ml_X7_33 rfl ⟨rfl, rfl, Nat.le_of_ble_eq_true rfl, Nat.le_of_ble_eq_true rfl⟩ ⟨Nat.zero_le _, Nat.zero_le _⟩ (g_recv (a := x) (k := 0) hK hX rfl rfl) ⟨hX, hG, hT, hH, hZ, hO⟩ hS (fun q h => by simp only [RA] at h ⊢; omega) rfl (Nat.le_of_ble_eq_true rfl) dX7_size_1 (fun u H locs h hu _ hq hS => ?_)
  obtain ⟨τ2, rfl⟩ : ∃ z, z = u := ⟨_, rfl⟩
  have hT := hu
  have hX := hX.past hq (fun j hj h => by have hj : j < 1 := hj; simp only [RA] at h; omega)
  have hG := hG.past hq (fun j hj h => by have hj : j < 22 := hj; simp only [RA] at h; omega)
  have hH := hH.past hq (fun j hj h => by have hj : j < 1 := hj; simp only [RA] at h; omega)
  have hZ := hZ.past hq (fun j hj h => by have hj : j < 89 := hj; simp only [RA] at h; omega)
  have hO := hO.past hq (fun j hj h => by have hj : j < 3 := hj; simp only [RA] at h; omega)
  refine lv_aload_n hx hb dX7_size_4 rfl (lv_at hl 0 rfl) ?_
  refine lv_aload_n hx hb dX7_size_5 rfl (lv_at hl 0 rfl) ?_
  refine g_getR (a := x) (k := 0) (o := 23) C hK hX fl_X7_16 rfl rfl dX7_size_6 ?_
  refine lv_iload_n hx hb dX7_size_9 rfl (lv_at hl 1 rfl) ?_
  refine lv_iload_n hx hb dX7_size_10 rfl (lv_at hl 2 rfl) ?_
  refine lv_iload_n hx hb dX7_size_11 rfl (lv_at hl 3 rfl) ?_
  refine g_vI C hK hl.1 (m_X1_setSize l G (x + 23) τ2 x1 x2 x3 _ h) mw_X1_setSize mi_X1_setSize ml_X7_44 rfl ⟨rfl, rfl, Nat.le_of_ble_eq_true rfl, Nat.le_of_ble_eq_true rfl⟩ ⟨Nat.zero_le _, Nat.zero_le _⟩ (g_recv (a := (x + 23)) (k := 0) hK hT rfl rfl) hT hS (fun q h => by simp only [RA] at h ⊢; omega) rfl (Nat.le_of_ble_eq_true rfl) dX7_size_12 (fun r3 u H locs h hu _ hq hS => ?_)
  obtain ⟨τ4, rfl⟩ : ∃ z, z = u := ⟨_, rfl⟩
  have hT := hu
  have hX := hX.past hq (fun j hj h => by have hj : j < 1 := hj; simp only [RA] at h; omega)
  have hG := hG.past hq (fun j hj h => by have hj : j < 22 := hj; simp only [RA] at h; omega)
  have hH := hH.past hq (fun j hj h => by have hj : j < 1 := hj; simp only [RA] at h; omega)
  have hZ := hZ.past hq (fun j hj h => by have hj : j < 89 := hj; simp only [RA] at h; omega)
  have hO := hO.past hq (fun j hj h => by have hj : j < 3 := hj; simp only [RA] at h; omega)
  refine g_vI C hK hl.1 (m_X7_keepTrial l G x ξ γ τ4 η σ ο r3 _ h) mw_X7_keepTrial mi_X7_keepTrial ml_X7_40 rfl ⟨rfl, rfl, Nat.le_of_ble_eq_true rfl, Nat.le_of_ble_eq_true rfl⟩ ⟨Nat.zero_le _, Nat.zero_le _⟩ (g_recv (a := x) (k := 0) hK hX rfl rfl) ⟨hX, hG, hT, hH, hZ, hO⟩ hS (fun q h => by simp only [RA] at h ⊢; omega) rfl (Nat.le_of_ble_eq_true rfl) dX7_size_15 (fun r5 u H locs h hu _ hq hS => ?_)
  obtain ⟨γ6, η7, σ8⟩ := u
  dsimp only at h hu
  obtain ⟨hG, hH, hZ⟩ := hu
  have hX := hX.past hq (fun j hj h => by have hj : j < 1 := hj; simp only [RA] at h; omega)
  have hT := hT.past hq (fun j hj h => by have hj : j < 22 := hj; simp only [RA] at h; omega)
  have hO := hO.past hq (fun j hj h => by have hj : j < 3 := hj; simp only [RA] at h; omega)
  exact g_iret (post := fun r (u : Mem × Mem × Mem × ((Nat → Mem))) => Q r u.1 u.2.1 u.2.2.1 u.2.2.2) (P' := fun (u : Mem × Mem × Mem × ((Nat → Mem))) H => rg G LG (x + 1) u.1 H ∧ rg G LG (x + 23) u.2.1 H ∧ rg G LH (x + 45) u.2.2.1 H ∧ HG G (x + 46) u.2.2.2 H) (r := r5) (u := (γ6, τ4, η7, σ8)) C hr hK hS h ⟨hG, hT, hH, hZ⟩ dX7_size_18
theorem dX7_task_0 : decode cX7_task 0 = .ok (.aload_n 0, 1) := by decide +kernel
theorem dX7_task_1 : decode cX7_task 1 = .ok (.invokevirtual 33, 3) := by decide +kernel
theorem dX7_task_4 : decode cX7_task 4 = .ok (.aload_n 0, 1) := by decide +kernel
theorem dX7_task_5 : decode cX7_task 5 = .ok (.aload_n 0, 1) := by decide +kernel
theorem dX7_task_6 : decode cX7_task 6 = .ok (.getfield 16, 3) := by decide +kernel
theorem dX7_task_9 : decode cX7_task 9 = .ok (.iload_n 1, 1) := by decide +kernel
theorem dX7_task_10 : decode cX7_task 10 = .ok (.iload_n 2, 1) := by decide +kernel
theorem dX7_task_11 : decode cX7_task 11 = .ok (.iload_n 3, 1) := by decide +kernel
theorem dX7_task_12 : decode cX7_task 12 = .ok (.iload 4, 2) := by decide +kernel
theorem dX7_task_14 : decode cX7_task 14 = .ok (.invokevirtual 48, 3) := by decide +kernel
theorem dX7_task_17 : decode cX7_task 17 = .ok (.invokevirtual 40, 3) := by decide +kernel
theorem dX7_task_20 : decode cX7_task 20 = .ok (.ireturn, 1) := by decide +kernel
def vc_X7_task (Q : Int32 → Mem → Mem → Mem → (Nat → Mem) → Prop) (ξ : Mem) (γ : Mem) (τ : Mem) (η : Mem) (σ : (Nat → Mem)) (ο : Mem) (x1 : Int32) (x2 : Int32) (x3 : Int32) (x4 : Int32) : Prop :=
  vc_X7_startTrial (fun τ2 => vc_X1_addTask (fun r3 τ4 => vc_X7_keepTrial (fun r5 γ6 η7 σ8 => Q r5 γ6 τ4 η7 σ8) ξ γ τ4 η σ ο r3) τ2 x1 x2 x3 x4) ξ γ τ η σ ο
set_option maxHeartbeats 8000000 in
set_option maxRecDepth 100000 in
theorem m_X7_task (l : Launch) (G : GG) (x : Nat) (ξ : Mem) (γ : Mem) (τ : Mem) (η : Mem) (σ : (Nat → Mem)) (ο : Mem) (x1 : Int32) (x2 : Int32) (x3 : Int32) (x4 : Int32) (Q : Int32 → Mem → Mem → Mem → (Nat → Mem) → Prop) (h : vc_X7_task Q ξ γ τ η σ ο x1 x2 x3 x4) : CtI l yX7_task cX7_task 5 (some .int) { frames := 6, cells := 0, slots := 0, locals := 145 } [.ref (x + 0), .int x1, .int x2, .int x3, .int x4] G (fun H => rg G LX x ξ H ∧ rg G LG (x + 1) γ H ∧ rg G LG (x + 23) τ H ∧ rg G LH (x + 45) η H ∧ HG G (x + 46) σ H ∧ rg G LO (x + 135) ο H) (fun r (u : Mem × Mem × Mem × ((Nat → Mem))) => Q r u.1 u.2.1 u.2.2.1 u.2.2.2) (fun (u : Mem × Mem × Mem × ((Nat → Mem))) H => rg G LG (x + 1) u.1 H ∧ rg G LG (x + 23) u.2.1 H ∧ rg G LH (x + 45) u.2.2.1 H ∧ HG G (x + 46) u.2.2.2 H) (fun q => RA (x + 1) 22 q ∨ RA (x + 23) 22 q ∨ RA (x + 45) 1 q ∨ RA (x + 46) 89 q) := by
  unfold CtI
  refine met_start (y := yX7_task) (maxL := 5) (av := [.ref (x + 0), .int x1, .int x2, .int x3, .int x4]) (G := G) (P := fun H => rg G LX x ξ H ∧ rg G LG (x + 1) γ H ∧ rg G LG (x + 23) τ H ∧ rg G LH (x + 45) η H ∧ HG G (x + 46) σ H ∧ rg G LO (x + 135) ο H) (by decide) rfl (Nat.le_of_ble_eq_true rfl) (fun p e s m below meth c ls C hr hP hK hl => ?_)
  obtain ⟨hx, hb, hml, hown, hts, hlocks⟩ := id C
  obtain ⟨hX, hG, hT, hH, hZ, hO⟩ := hP
  have hS : va_S (fun q => RA (x + 1) 22 q ∨ RA (x + 23) 22 q ∨ RA (x + 45) 1 q ∨ RA (x + 46) 89 q) s.heap s.heap [] := va_S.rf
  have hl : lv_has ls 5 [(0, .ref (x + 0)), (1, .int x1), (2, .int x2), (3, .int x3), (4, .int x4)] := hl
  unfold vc_X7_task at h
  refine lv_aload_n hx hb dX7_task_0 rfl (lv_at hl 0 rfl) ?_
  refine g_vV C hK hl.1 (m_X7_startTrial l G x ξ γ τ η σ ο _ h) mw_X7_startTrial mi_X7_startTrial ml_X7_33 rfl ⟨rfl, rfl, Nat.le_of_ble_eq_true rfl, Nat.le_of_ble_eq_true rfl⟩ ⟨Nat.zero_le _, Nat.zero_le _⟩ (g_recv (a := x) (k := 0) hK hX rfl rfl) ⟨hX, hG, hT, hH, hZ, hO⟩ hS (fun q h => by simp only [RA] at h ⊢; omega) rfl (Nat.le_of_ble_eq_true rfl) dX7_task_1 (fun u H locs h hu _ hq hS => ?_)
  obtain ⟨τ2, rfl⟩ : ∃ z, z = u := ⟨_, rfl⟩
  have hT := hu
  have hX := hX.past hq (fun j hj h => by have hj : j < 1 := hj; simp only [RA] at h; omega)
  have hG := hG.past hq (fun j hj h => by have hj : j < 22 := hj; simp only [RA] at h; omega)
  have hH := hH.past hq (fun j hj h => by have hj : j < 1 := hj; simp only [RA] at h; omega)
  have hZ := hZ.past hq (fun j hj h => by have hj : j < 89 := hj; simp only [RA] at h; omega)
  have hO := hO.past hq (fun j hj h => by have hj : j < 3 := hj; simp only [RA] at h; omega)
  refine lv_aload_n hx hb dX7_task_4 rfl (lv_at hl 0 rfl) ?_
  refine lv_aload_n hx hb dX7_task_5 rfl (lv_at hl 0 rfl) ?_
  refine g_getR (a := x) (k := 0) (o := 23) C hK hX fl_X7_16 rfl rfl dX7_task_6 ?_
  refine lv_iload_n hx hb dX7_task_9 rfl (lv_at hl 1 rfl) ?_
  refine lv_iload_n hx hb dX7_task_10 rfl (lv_at hl 2 rfl) ?_
  refine lv_iload_n hx hb dX7_task_11 rfl (lv_at hl 3 rfl) ?_
  refine lv_iload hx hb dX7_task_12 (lv_at hl 4 rfl) ?_
  refine g_vI C hK hl.1 (m_X1_addTask l G (x + 23) τ2 x1 x2 x3 x4 _ h) mw_X1_addTask mi_X1_addTask ml_X7_48 rfl ⟨rfl, rfl, Nat.le_of_ble_eq_true rfl, Nat.le_of_ble_eq_true rfl⟩ ⟨Nat.zero_le _, Nat.zero_le _⟩ (g_recv (a := (x + 23)) (k := 0) hK hT rfl rfl) hT hS (fun q h => by simp only [RA] at h ⊢; omega) rfl (Nat.le_of_ble_eq_true rfl) dX7_task_14 (fun r3 u H locs h hu _ hq hS => ?_)
  obtain ⟨τ4, rfl⟩ : ∃ z, z = u := ⟨_, rfl⟩
  have hT := hu
  have hX := hX.past hq (fun j hj h => by have hj : j < 1 := hj; simp only [RA] at h; omega)
  have hG := hG.past hq (fun j hj h => by have hj : j < 22 := hj; simp only [RA] at h; omega)
  have hH := hH.past hq (fun j hj h => by have hj : j < 1 := hj; simp only [RA] at h; omega)
  have hZ := hZ.past hq (fun j hj h => by have hj : j < 89 := hj; simp only [RA] at h; omega)
  have hO := hO.past hq (fun j hj h => by have hj : j < 3 := hj; simp only [RA] at h; omega)
  refine g_vI C hK hl.1 (m_X7_keepTrial l G x ξ γ τ4 η σ ο r3 _ h) mw_X7_keepTrial mi_X7_keepTrial ml_X7_40 rfl ⟨rfl, rfl, Nat.le_of_ble_eq_true rfl, Nat.le_of_ble_eq_true rfl⟩ ⟨Nat.zero_le _, Nat.zero_le _⟩ (g_recv (a := x) (k := 0) hK hX rfl rfl) ⟨hX, hG, hT, hH, hZ, hO⟩ hS (fun q h => by simp only [RA] at h ⊢; omega) rfl (Nat.le_of_ble_eq_true rfl) dX7_task_17 (fun r5 u H locs h hu _ hq hS => ?_)
  obtain ⟨γ6, η7, σ8⟩ := u
  dsimp only at h hu
  obtain ⟨hG, hH, hZ⟩ := hu
  have hX := hX.past hq (fun j hj h => by have hj : j < 1 := hj; simp only [RA] at h; omega)
  have hT := hT.past hq (fun j hj h => by have hj : j < 22 := hj; simp only [RA] at h; omega)
  have hO := hO.past hq (fun j hj h => by have hj : j < 3 := hj; simp only [RA] at h; omega)
  exact g_iret (post := fun r (u : Mem × Mem × Mem × ((Nat → Mem))) => Q r u.1 u.2.1 u.2.2.1 u.2.2.2) (P' := fun (u : Mem × Mem × Mem × ((Nat → Mem))) H => rg G LG (x + 1) u.1 H ∧ rg G LG (x + 23) u.2.1 H ∧ rg G LH (x + 45) u.2.2.1 H ∧ HG G (x + 46) u.2.2.2 H) (r := r5) (u := (γ6, τ4, η7, σ8)) C hr hK hS h ⟨hG, hT, hH, hZ⟩ dX7_task_20
theorem dX7_contract_0 : decode cX7_contract 0 = .ok (.aload_n 0, 1) := by decide +kernel
theorem dX7_contract_1 : decode cX7_contract 1 = .ok (.invokevirtual 33, 3) := by decide +kernel
theorem dX7_contract_4 : decode cX7_contract 4 = .ok (.aload_n 0, 1) := by decide +kernel
theorem dX7_contract_5 : decode cX7_contract 5 = .ok (.aload_n 0, 1) := by decide +kernel
theorem dX7_contract_6 : decode cX7_contract 6 = .ok (.getfield 16, 3) := by decide +kernel
theorem dX7_contract_9 : decode cX7_contract 9 = .ok (.iload_n 1, 1) := by decide +kernel
theorem dX7_contract_10 : decode cX7_contract 10 = .ok (.iload_n 2, 1) := by decide +kernel
theorem dX7_contract_11 : decode cX7_contract 11 = .ok (.invokevirtual 52, 3) := by decide +kernel
theorem dX7_contract_14 : decode cX7_contract 14 = .ok (.invokevirtual 40, 3) := by decide +kernel
theorem dX7_contract_17 : decode cX7_contract 17 = .ok (.ireturn, 1) := by decide +kernel
def vc_X7_contract (Q : Int32 → Mem → Mem → Mem → (Nat → Mem) → Prop) (ξ : Mem) (γ : Mem) (τ : Mem) (η : Mem) (σ : (Nat → Mem)) (ο : Mem) (x1 : Int32) (x2 : Int32) : Prop :=
  vc_X7_startTrial (fun τ2 => vc_X1_layContract (fun r3 τ4 => vc_X7_keepTrial (fun r5 γ6 η7 σ8 => Q r5 γ6 τ4 η7 σ8) ξ γ τ4 η σ ο r3) τ2 x1 x2) ξ γ τ η σ ο
set_option maxHeartbeats 8000000 in
set_option maxRecDepth 100000 in
theorem m_X7_contract (l : Launch) (G : GG) (x : Nat) (ξ : Mem) (γ : Mem) (τ : Mem) (η : Mem) (σ : (Nat → Mem)) (ο : Mem) (x1 : Int32) (x2 : Int32) (Q : Int32 → Mem → Mem → Mem → (Nat → Mem) → Prop) (h : vc_X7_contract Q ξ γ τ η σ ο x1 x2) : CtI l yX7_contract cX7_contract 3 (some .int) { frames := 6, cells := 0, slots := 0, locals := 145 } [.ref (x + 0), .int x1, .int x2] G (fun H => rg G LX x ξ H ∧ rg G LG (x + 1) γ H ∧ rg G LG (x + 23) τ H ∧ rg G LH (x + 45) η H ∧ HG G (x + 46) σ H ∧ rg G LO (x + 135) ο H) (fun r (u : Mem × Mem × Mem × ((Nat → Mem))) => Q r u.1 u.2.1 u.2.2.1 u.2.2.2) (fun (u : Mem × Mem × Mem × ((Nat → Mem))) H => rg G LG (x + 1) u.1 H ∧ rg G LG (x + 23) u.2.1 H ∧ rg G LH (x + 45) u.2.2.1 H ∧ HG G (x + 46) u.2.2.2 H) (fun q => RA (x + 1) 22 q ∨ RA (x + 23) 22 q ∨ RA (x + 45) 1 q ∨ RA (x + 46) 89 q) := by
  unfold CtI
  refine met_start (y := yX7_contract) (maxL := 3) (av := [.ref (x + 0), .int x1, .int x2]) (G := G) (P := fun H => rg G LX x ξ H ∧ rg G LG (x + 1) γ H ∧ rg G LG (x + 23) τ H ∧ rg G LH (x + 45) η H ∧ HG G (x + 46) σ H ∧ rg G LO (x + 135) ο H) (by decide) rfl (Nat.le_of_ble_eq_true rfl) (fun p e s m below meth c ls C hr hP hK hl => ?_)
  obtain ⟨hx, hb, hml, hown, hts, hlocks⟩ := id C
  obtain ⟨hX, hG, hT, hH, hZ, hO⟩ := hP
  have hS : va_S (fun q => RA (x + 1) 22 q ∨ RA (x + 23) 22 q ∨ RA (x + 45) 1 q ∨ RA (x + 46) 89 q) s.heap s.heap [] := va_S.rf
  have hl : lv_has ls 3 [(0, .ref (x + 0)), (1, .int x1), (2, .int x2)] := hl
  unfold vc_X7_contract at h
  refine lv_aload_n hx hb dX7_contract_0 rfl (lv_at hl 0 rfl) ?_
  refine g_vV C hK hl.1 (m_X7_startTrial l G x ξ γ τ η σ ο _ h) mw_X7_startTrial mi_X7_startTrial ml_X7_33 rfl ⟨rfl, rfl, Nat.le_of_ble_eq_true rfl, Nat.le_of_ble_eq_true rfl⟩ ⟨Nat.zero_le _, Nat.zero_le _⟩ (g_recv (a := x) (k := 0) hK hX rfl rfl) ⟨hX, hG, hT, hH, hZ, hO⟩ hS (fun q h => by simp only [RA] at h ⊢; omega) rfl (Nat.le_of_ble_eq_true rfl) dX7_contract_1 (fun u H locs h hu _ hq hS => ?_)
  obtain ⟨τ2, rfl⟩ : ∃ z, z = u := ⟨_, rfl⟩
  have hT := hu
  have hX := hX.past hq (fun j hj h => by have hj : j < 1 := hj; simp only [RA] at h; omega)
  have hG := hG.past hq (fun j hj h => by have hj : j < 22 := hj; simp only [RA] at h; omega)
  have hH := hH.past hq (fun j hj h => by have hj : j < 1 := hj; simp only [RA] at h; omega)
  have hZ := hZ.past hq (fun j hj h => by have hj : j < 89 := hj; simp only [RA] at h; omega)
  have hO := hO.past hq (fun j hj h => by have hj : j < 3 := hj; simp only [RA] at h; omega)
  refine lv_aload_n hx hb dX7_contract_4 rfl (lv_at hl 0 rfl) ?_
  refine lv_aload_n hx hb dX7_contract_5 rfl (lv_at hl 0 rfl) ?_
  refine g_getR (a := x) (k := 0) (o := 23) C hK hX fl_X7_16 rfl rfl dX7_contract_6 ?_
  refine lv_iload_n hx hb dX7_contract_9 rfl (lv_at hl 1 rfl) ?_
  refine lv_iload_n hx hb dX7_contract_10 rfl (lv_at hl 2 rfl) ?_
  refine g_vI C hK hl.1 (m_X1_layContract l G (x + 23) τ2 x1 x2 _ h) mw_X1_layContract mi_X1_layContract ml_X7_52 rfl ⟨rfl, rfl, Nat.le_of_ble_eq_true rfl, Nat.le_of_ble_eq_true rfl⟩ ⟨Nat.zero_le _, Nat.zero_le _⟩ (g_recv (a := (x + 23)) (k := 0) hK hT rfl rfl) hT hS (fun q h => by simp only [RA] at h ⊢; omega) rfl (Nat.le_of_ble_eq_true rfl) dX7_contract_11 (fun r3 u H locs h hu _ hq hS => ?_)
  obtain ⟨τ4, rfl⟩ : ∃ z, z = u := ⟨_, rfl⟩
  have hT := hu
  have hX := hX.past hq (fun j hj h => by have hj : j < 1 := hj; simp only [RA] at h; omega)
  have hG := hG.past hq (fun j hj h => by have hj : j < 22 := hj; simp only [RA] at h; omega)
  have hH := hH.past hq (fun j hj h => by have hj : j < 1 := hj; simp only [RA] at h; omega)
  have hZ := hZ.past hq (fun j hj h => by have hj : j < 89 := hj; simp only [RA] at h; omega)
  have hO := hO.past hq (fun j hj h => by have hj : j < 3 := hj; simp only [RA] at h; omega)
  refine g_vI C hK hl.1 (m_X7_keepTrial l G x ξ γ τ4 η σ ο r3 _ h) mw_X7_keepTrial mi_X7_keepTrial ml_X7_40 rfl ⟨rfl, rfl, Nat.le_of_ble_eq_true rfl, Nat.le_of_ble_eq_true rfl⟩ ⟨Nat.zero_le _, Nat.zero_le _⟩ (g_recv (a := x) (k := 0) hK hX rfl rfl) ⟨hX, hG, hT, hH, hZ, hO⟩ hS (fun q h => by simp only [RA] at h ⊢; omega) rfl (Nat.le_of_ble_eq_true rfl) dX7_contract_14 (fun r5 u H locs h hu _ hq hS => ?_)
  obtain ⟨γ6, η7, σ8⟩ := u
  dsimp only at h hu
  obtain ⟨hG, hH, hZ⟩ := hu
  have hX := hX.past hq (fun j hj h => by have hj : j < 1 := hj; simp only [RA] at h; omega)
  have hT := hT.past hq (fun j hj h => by have hj : j < 22 := hj; simp only [RA] at h; omega)
  have hO := hO.past hq (fun j hj h => by have hj : j < 3 := hj; simp only [RA] at h; omega)
  exact g_iret (post := fun r (u : Mem × Mem × Mem × ((Nat → Mem))) => Q r u.1 u.2.1 u.2.2.1 u.2.2.2) (P' := fun (u : Mem × Mem × Mem × ((Nat → Mem))) H => rg G LG (x + 1) u.1 H ∧ rg G LG (x + 23) u.2.1 H ∧ rg G LH (x + 45) u.2.2.1 H ∧ HG G (x + 46) u.2.2.2 H) (r := r5) (u := (γ6, τ4, η7, σ8)) C hr hK hS h ⟨hG, hT, hH, hZ⟩ dX7_contract_17
theorem dX7_put_0 : decode cX7_put 0 = .ok (.aload_n 0, 1) := by decide +kernel
theorem dX7_put_1 : decode cX7_put 1 = .ok (.invokevirtual 33, 3) := by decide +kernel
theorem dX7_put_4 : decode cX7_put 4 = .ok (.aload_n 0, 1) := by decide +kernel
theorem dX7_put_5 : decode cX7_put 5 = .ok (.aload_n 0, 1) := by decide +kernel
theorem dX7_put_6 : decode cX7_put 6 = .ok (.getfield 16, 3) := by decide +kernel
theorem dX7_put_9 : decode cX7_put 9 = .ok (.iload_n 1, 1) := by decide +kernel
theorem dX7_put_10 : decode cX7_put 10 = .ok (.iload_n 2, 1) := by decide +kernel
theorem dX7_put_11 : decode cX7_put 11 = .ok (.iload_n 3, 1) := by decide +kernel
theorem dX7_put_12 : decode cX7_put 12 = .ok (.invokevirtual 56, 3) := by decide +kernel
theorem dX7_put_15 : decode cX7_put 15 = .ok (.invokevirtual 40, 3) := by decide +kernel
theorem dX7_put_18 : decode cX7_put 18 = .ok (.ireturn, 1) := by decide +kernel
def vc_X7_put (Q : Int32 → Mem → Mem → Mem → (Nat → Mem) → Prop) (ξ : Mem) (γ : Mem) (τ : Mem) (η : Mem) (σ : (Nat → Mem)) (ο : Mem) (x1 : Int32) (x2 : Int32) (x3 : Int32) : Prop :=
  vc_X7_startTrial (fun τ2 => vc_X1_putWorker (fun r3 τ4 => vc_X7_keepTrial (fun r5 γ6 η7 σ8 => Q r5 γ6 τ4 η7 σ8) ξ γ τ4 η σ ο r3) τ2 x1 x2 x3) ξ γ τ η σ ο
set_option maxHeartbeats 8000000 in
set_option maxRecDepth 100000 in
theorem m_X7_put (l : Launch) (G : GG) (x : Nat) (ξ : Mem) (γ : Mem) (τ : Mem) (η : Mem) (σ : (Nat → Mem)) (ο : Mem) (x1 : Int32) (x2 : Int32) (x3 : Int32) (Q : Int32 → Mem → Mem → Mem → (Nat → Mem) → Prop) (h : vc_X7_put Q ξ γ τ η σ ο x1 x2 x3) : CtI l yX7_put cX7_put 4 (some .int) { frames := 6, cells := 0, slots := 0, locals := 145 } [.ref (x + 0), .int x1, .int x2, .int x3] G (fun H => rg G LX x ξ H ∧ rg G LG (x + 1) γ H ∧ rg G LG (x + 23) τ H ∧ rg G LH (x + 45) η H ∧ HG G (x + 46) σ H ∧ rg G LO (x + 135) ο H) (fun r (u : Mem × Mem × Mem × ((Nat → Mem))) => Q r u.1 u.2.1 u.2.2.1 u.2.2.2) (fun (u : Mem × Mem × Mem × ((Nat → Mem))) H => rg G LG (x + 1) u.1 H ∧ rg G LG (x + 23) u.2.1 H ∧ rg G LH (x + 45) u.2.2.1 H ∧ HG G (x + 46) u.2.2.2 H) (fun q => RA (x + 1) 22 q ∨ RA (x + 23) 22 q ∨ RA (x + 45) 1 q ∨ RA (x + 46) 89 q) := by
  unfold CtI
  refine met_start (y := yX7_put) (maxL := 4) (av := [.ref (x + 0), .int x1, .int x2, .int x3]) (G := G) (P := fun H => rg G LX x ξ H ∧ rg G LG (x + 1) γ H ∧ rg G LG (x + 23) τ H ∧ rg G LH (x + 45) η H ∧ HG G (x + 46) σ H ∧ rg G LO (x + 135) ο H) (by decide) rfl (Nat.le_of_ble_eq_true rfl) (fun p e s m below meth c ls C hr hP hK hl => ?_)
  obtain ⟨hx, hb, hml, hown, hts, hlocks⟩ := id C
  obtain ⟨hX, hG, hT, hH, hZ, hO⟩ := hP
  have hS : va_S (fun q => RA (x + 1) 22 q ∨ RA (x + 23) 22 q ∨ RA (x + 45) 1 q ∨ RA (x + 46) 89 q) s.heap s.heap [] := va_S.rf
  have hl : lv_has ls 4 [(0, .ref (x + 0)), (1, .int x1), (2, .int x2), (3, .int x3)] := hl
  unfold vc_X7_put at h
  refine lv_aload_n hx hb dX7_put_0 rfl (lv_at hl 0 rfl) ?_
  refine g_vV C hK hl.1 (m_X7_startTrial l G x ξ γ τ η σ ο _ h) mw_X7_startTrial mi_X7_startTrial ml_X7_33 rfl ⟨rfl, rfl, Nat.le_of_ble_eq_true rfl, Nat.le_of_ble_eq_true rfl⟩ ⟨Nat.zero_le _, Nat.zero_le _⟩ (g_recv (a := x) (k := 0) hK hX rfl rfl) ⟨hX, hG, hT, hH, hZ, hO⟩ hS (fun q h => by simp only [RA] at h ⊢; omega) rfl (Nat.le_of_ble_eq_true rfl) dX7_put_1 (fun u H locs h hu _ hq hS => ?_)
  obtain ⟨τ2, rfl⟩ : ∃ z, z = u := ⟨_, rfl⟩
  have hT := hu
  have hX := hX.past hq (fun j hj h => by have hj : j < 1 := hj; simp only [RA] at h; omega)
  have hG := hG.past hq (fun j hj h => by have hj : j < 22 := hj; simp only [RA] at h; omega)
  have hH := hH.past hq (fun j hj h => by have hj : j < 1 := hj; simp only [RA] at h; omega)
  have hZ := hZ.past hq (fun j hj h => by have hj : j < 89 := hj; simp only [RA] at h; omega)
  have hO := hO.past hq (fun j hj h => by have hj : j < 3 := hj; simp only [RA] at h; omega)
  refine lv_aload_n hx hb dX7_put_4 rfl (lv_at hl 0 rfl) ?_
  refine lv_aload_n hx hb dX7_put_5 rfl (lv_at hl 0 rfl) ?_
  refine g_getR (a := x) (k := 0) (o := 23) C hK hX fl_X7_16 rfl rfl dX7_put_6 ?_
  refine lv_iload_n hx hb dX7_put_9 rfl (lv_at hl 1 rfl) ?_
  refine lv_iload_n hx hb dX7_put_10 rfl (lv_at hl 2 rfl) ?_
  refine lv_iload_n hx hb dX7_put_11 rfl (lv_at hl 3 rfl) ?_
  refine g_vI C hK hl.1 (m_X1_putWorker l G (x + 23) τ2 x1 x2 x3 _ h) mw_X1_putWorker mi_X1_putWorker ml_X7_56 rfl ⟨rfl, rfl, Nat.le_of_ble_eq_true rfl, Nat.le_of_ble_eq_true rfl⟩ ⟨Nat.zero_le _, Nat.zero_le _⟩ (g_recv (a := (x + 23)) (k := 0) hK hT rfl rfl) hT hS (fun q h => by simp only [RA] at h ⊢; omega) rfl (Nat.le_of_ble_eq_true rfl) dX7_put_12 (fun r3 u H locs h hu _ hq hS => ?_)
  obtain ⟨τ4, rfl⟩ : ∃ z, z = u := ⟨_, rfl⟩
  have hT := hu
  have hX := hX.past hq (fun j hj h => by have hj : j < 1 := hj; simp only [RA] at h; omega)
  have hG := hG.past hq (fun j hj h => by have hj : j < 22 := hj; simp only [RA] at h; omega)
  have hH := hH.past hq (fun j hj h => by have hj : j < 1 := hj; simp only [RA] at h; omega)
  have hZ := hZ.past hq (fun j hj h => by have hj : j < 89 := hj; simp only [RA] at h; omega)
  have hO := hO.past hq (fun j hj h => by have hj : j < 3 := hj; simp only [RA] at h; omega)
  refine g_vI C hK hl.1 (m_X7_keepTrial l G x ξ γ τ4 η σ ο r3 _ h) mw_X7_keepTrial mi_X7_keepTrial ml_X7_40 rfl ⟨rfl, rfl, Nat.le_of_ble_eq_true rfl, Nat.le_of_ble_eq_true rfl⟩ ⟨Nat.zero_le _, Nat.zero_le _⟩ (g_recv (a := x) (k := 0) hK hX rfl rfl) ⟨hX, hG, hT, hH, hZ, hO⟩ hS (fun q h => by simp only [RA] at h ⊢; omega) rfl (Nat.le_of_ble_eq_true rfl) dX7_put_15 (fun r5 u H locs h hu _ hq hS => ?_)
  obtain ⟨γ6, η7, σ8⟩ := u
  dsimp only at h hu
  obtain ⟨hG, hH, hZ⟩ := hu
  have hX := hX.past hq (fun j hj h => by have hj : j < 1 := hj; simp only [RA] at h; omega)
  have hT := hT.past hq (fun j hj h => by have hj : j < 22 := hj; simp only [RA] at h; omega)
  have hO := hO.past hq (fun j hj h => by have hj : j < 3 := hj; simp only [RA] at h; omega)
  exact g_iret (post := fun r (u : Mem × Mem × Mem × ((Nat → Mem))) => Q r u.1 u.2.1 u.2.2.1 u.2.2.2) (P' := fun (u : Mem × Mem × Mem × ((Nat → Mem))) H => rg G LG (x + 1) u.1 H ∧ rg G LG (x + 23) u.2.1 H ∧ rg G LH (x + 45) u.2.2.1 H ∧ HG G (x + 46) u.2.2.2 H) (r := r5) (u := (γ6, τ4, η7, σ8)) C hr hK hS h ⟨hG, hT, hH, hZ⟩ dX7_put_18
theorem dX7_home_0 : decode cX7_home 0 = .ok (.aload_n 0, 1) := by decide +kernel
theorem dX7_home_1 : decode cX7_home 1 = .ok (.invokevirtual 33, 3) := by decide +kernel
theorem dX7_home_4 : decode cX7_home 4 = .ok (.aload_n 0, 1) := by decide +kernel
theorem dX7_home_5 : decode cX7_home 5 = .ok (.aload_n 0, 1) := by decide +kernel
theorem dX7_home_6 : decode cX7_home 6 = .ok (.getfield 16, 3) := by decide +kernel
theorem dX7_home_9 : decode cX7_home 9 = .ok (.iload_n 1, 1) := by decide +kernel
theorem dX7_home_10 : decode cX7_home 10 = .ok (.iload_n 2, 1) := by decide +kernel
theorem dX7_home_11 : decode cX7_home 11 = .ok (.invokevirtual 59, 3) := by decide +kernel
theorem dX7_home_14 : decode cX7_home 14 = .ok (.invokevirtual 40, 3) := by decide +kernel
theorem dX7_home_17 : decode cX7_home 17 = .ok (.ireturn, 1) := by decide +kernel
def vc_X7_home (Q : Int32 → Mem → Mem → Mem → (Nat → Mem) → Prop) (ξ : Mem) (γ : Mem) (τ : Mem) (η : Mem) (σ : (Nat → Mem)) (ο : Mem) (x1 : Int32) (x2 : Int32) : Prop :=
  vc_X7_startTrial (fun τ2 => vc_X1_takeHome (fun r3 τ4 => vc_X7_keepTrial (fun r5 γ6 η7 σ8 => Q r5 γ6 τ4 η7 σ8) ξ γ τ4 η σ ο r3) τ2 x1 x2) ξ γ τ η σ ο
set_option maxHeartbeats 8000000 in
set_option maxRecDepth 100000 in
theorem m_X7_home (l : Launch) (G : GG) (x : Nat) (ξ : Mem) (γ : Mem) (τ : Mem) (η : Mem) (σ : (Nat → Mem)) (ο : Mem) (x1 : Int32) (x2 : Int32) (Q : Int32 → Mem → Mem → Mem → (Nat → Mem) → Prop) (h : vc_X7_home Q ξ γ τ η σ ο x1 x2) : CtI l yX7_home cX7_home 3 (some .int) { frames := 6, cells := 0, slots := 0, locals := 145 } [.ref (x + 0), .int x1, .int x2] G (fun H => rg G LX x ξ H ∧ rg G LG (x + 1) γ H ∧ rg G LG (x + 23) τ H ∧ rg G LH (x + 45) η H ∧ HG G (x + 46) σ H ∧ rg G LO (x + 135) ο H) (fun r (u : Mem × Mem × Mem × ((Nat → Mem))) => Q r u.1 u.2.1 u.2.2.1 u.2.2.2) (fun (u : Mem × Mem × Mem × ((Nat → Mem))) H => rg G LG (x + 1) u.1 H ∧ rg G LG (x + 23) u.2.1 H ∧ rg G LH (x + 45) u.2.2.1 H ∧ HG G (x + 46) u.2.2.2 H) (fun q => RA (x + 1) 22 q ∨ RA (x + 23) 22 q ∨ RA (x + 45) 1 q ∨ RA (x + 46) 89 q) := by
  unfold CtI
  refine met_start (y := yX7_home) (maxL := 3) (av := [.ref (x + 0), .int x1, .int x2]) (G := G) (P := fun H => rg G LX x ξ H ∧ rg G LG (x + 1) γ H ∧ rg G LG (x + 23) τ H ∧ rg G LH (x + 45) η H ∧ HG G (x + 46) σ H ∧ rg G LO (x + 135) ο H) (by decide) rfl (Nat.le_of_ble_eq_true rfl) (fun p e s m below meth c ls C hr hP hK hl => ?_)
  obtain ⟨hx, hb, hml, hown, hts, hlocks⟩ := id C
  obtain ⟨hX, hG, hT, hH, hZ, hO⟩ := hP
  have hS : va_S (fun q => RA (x + 1) 22 q ∨ RA (x + 23) 22 q ∨ RA (x + 45) 1 q ∨ RA (x + 46) 89 q) s.heap s.heap [] := va_S.rf
  have hl : lv_has ls 3 [(0, .ref (x + 0)), (1, .int x1), (2, .int x2)] := hl
  unfold vc_X7_home at h
  refine lv_aload_n hx hb dX7_home_0 rfl (lv_at hl 0 rfl) ?_
  refine g_vV C hK hl.1 (m_X7_startTrial l G x ξ γ τ η σ ο _ h) mw_X7_startTrial mi_X7_startTrial ml_X7_33 rfl ⟨rfl, rfl, Nat.le_of_ble_eq_true rfl, Nat.le_of_ble_eq_true rfl⟩ ⟨Nat.zero_le _, Nat.zero_le _⟩ (g_recv (a := x) (k := 0) hK hX rfl rfl) ⟨hX, hG, hT, hH, hZ, hO⟩ hS (fun q h => by simp only [RA] at h ⊢; omega) rfl (Nat.le_of_ble_eq_true rfl) dX7_home_1 (fun u H locs h hu _ hq hS => ?_)
  obtain ⟨τ2, rfl⟩ : ∃ z, z = u := ⟨_, rfl⟩
  have hT := hu
  have hX := hX.past hq (fun j hj h => by have hj : j < 1 := hj; simp only [RA] at h; omega)
  have hG := hG.past hq (fun j hj h => by have hj : j < 22 := hj; simp only [RA] at h; omega)
  have hH := hH.past hq (fun j hj h => by have hj : j < 1 := hj; simp only [RA] at h; omega)
  have hZ := hZ.past hq (fun j hj h => by have hj : j < 89 := hj; simp only [RA] at h; omega)
  have hO := hO.past hq (fun j hj h => by have hj : j < 3 := hj; simp only [RA] at h; omega)
  refine lv_aload_n hx hb dX7_home_4 rfl (lv_at hl 0 rfl) ?_
  refine lv_aload_n hx hb dX7_home_5 rfl (lv_at hl 0 rfl) ?_
  refine g_getR (a := x) (k := 0) (o := 23) C hK hX fl_X7_16 rfl rfl dX7_home_6 ?_
  refine lv_iload_n hx hb dX7_home_9 rfl (lv_at hl 1 rfl) ?_
  refine lv_iload_n hx hb dX7_home_10 rfl (lv_at hl 2 rfl) ?_
  refine g_vI C hK hl.1 (m_X1_takeHome l G (x + 23) τ2 x1 x2 _ h) mw_X1_takeHome mi_X1_takeHome ml_X7_59 rfl ⟨rfl, rfl, Nat.le_of_ble_eq_true rfl, Nat.le_of_ble_eq_true rfl⟩ ⟨Nat.zero_le _, Nat.zero_le _⟩ (g_recv (a := (x + 23)) (k := 0) hK hT rfl rfl) hT hS (fun q h => by simp only [RA] at h ⊢; omega) rfl (Nat.le_of_ble_eq_true rfl) dX7_home_11 (fun r3 u H locs h hu _ hq hS => ?_)
  obtain ⟨τ4, rfl⟩ : ∃ z, z = u := ⟨_, rfl⟩
  have hT := hu
  have hX := hX.past hq (fun j hj h => by have hj : j < 1 := hj; simp only [RA] at h; omega)
  have hG := hG.past hq (fun j hj h => by have hj : j < 22 := hj; simp only [RA] at h; omega)
  have hH := hH.past hq (fun j hj h => by have hj : j < 1 := hj; simp only [RA] at h; omega)
  have hZ := hZ.past hq (fun j hj h => by have hj : j < 89 := hj; simp only [RA] at h; omega)
  have hO := hO.past hq (fun j hj h => by have hj : j < 3 := hj; simp only [RA] at h; omega)
  refine g_vI C hK hl.1 (m_X7_keepTrial l G x ξ γ τ4 η σ ο r3 _ h) mw_X7_keepTrial mi_X7_keepTrial ml_X7_40 rfl ⟨rfl, rfl, Nat.le_of_ble_eq_true rfl, Nat.le_of_ble_eq_true rfl⟩ ⟨Nat.zero_le _, Nat.zero_le _⟩ (g_recv (a := x) (k := 0) hK hX rfl rfl) ⟨hX, hG, hT, hH, hZ, hO⟩ hS (fun q h => by simp only [RA] at h ⊢; omega) rfl (Nat.le_of_ble_eq_true rfl) dX7_home_14 (fun r5 u H locs h hu _ hq hS => ?_)
  obtain ⟨γ6, η7, σ8⟩ := u
  dsimp only at h hu
  obtain ⟨hG, hH, hZ⟩ := hu
  have hX := hX.past hq (fun j hj h => by have hj : j < 1 := hj; simp only [RA] at h; omega)
  have hT := hT.past hq (fun j hj h => by have hj : j < 22 := hj; simp only [RA] at h; omega)
  have hO := hO.past hq (fun j hj h => by have hj : j < 3 := hj; simp only [RA] at h; omega)
  exact g_iret (post := fun r (u : Mem × Mem × Mem × ((Nat → Mem))) => Q r u.1 u.2.1 u.2.2.1 u.2.2.2) (P' := fun (u : Mem × Mem × Mem × ((Nat → Mem))) H => rg G LG (x + 1) u.1 H ∧ rg G LG (x + 23) u.2.1 H ∧ rg G LH (x + 45) u.2.2.1 H ∧ HG G (x + 46) u.2.2.2 H) (r := r5) (u := (γ6, τ4, η7, σ8)) C hr hK hS h ⟨hG, hT, hH, hZ⟩ dX7_home_17
theorem dX7_flip_0 : decode cX7_flip 0 = .ok (.aload_n 0, 1) := by decide +kernel
theorem dX7_flip_1 : decode cX7_flip 1 = .ok (.invokevirtual 33, 3) := by decide +kernel
theorem dX7_flip_4 : decode cX7_flip 4 = .ok (.aload_n 0, 1) := by decide +kernel
theorem dX7_flip_5 : decode cX7_flip 5 = .ok (.aload_n 0, 1) := by decide +kernel
theorem dX7_flip_6 : decode cX7_flip 6 = .ok (.getfield 16, 3) := by decide +kernel
theorem dX7_flip_9 : decode cX7_flip 9 = .ok (.iload_n 1, 1) := by decide +kernel
theorem dX7_flip_10 : decode cX7_flip 10 = .ok (.iload_n 2, 1) := by decide +kernel
theorem dX7_flip_11 : decode cX7_flip 11 = .ok (.invokevirtual 62, 3) := by decide +kernel
theorem dX7_flip_14 : decode cX7_flip 14 = .ok (.invokevirtual 40, 3) := by decide +kernel
theorem dX7_flip_17 : decode cX7_flip 17 = .ok (.ireturn, 1) := by decide +kernel
def vc_X7_flip (Q : Int32 → Mem → Mem → Mem → (Nat → Mem) → Prop) (ξ : Mem) (γ : Mem) (τ : Mem) (η : Mem) (σ : (Nat → Mem)) (ο : Mem) (x1 : Int32) (x2 : Int32) : Prop :=
  vc_X7_startTrial (fun τ2 => vc_X1_flipByHand (fun r3 τ4 => vc_X7_keepTrial (fun r5 γ6 η7 σ8 => Q r5 γ6 τ4 η7 σ8) ξ γ τ4 η σ ο r3) τ2 x1 x2) ξ γ τ η σ ο
set_option maxHeartbeats 8000000 in
set_option maxRecDepth 100000 in
theorem m_X7_flip (l : Launch) (G : GG) (x : Nat) (ξ : Mem) (γ : Mem) (τ : Mem) (η : Mem) (σ : (Nat → Mem)) (ο : Mem) (x1 : Int32) (x2 : Int32) (Q : Int32 → Mem → Mem → Mem → (Nat → Mem) → Prop) (h : vc_X7_flip Q ξ γ τ η σ ο x1 x2) : CtI l yX7_flip cX7_flip 3 (some .int) { frames := 6, cells := 0, slots := 0, locals := 145 } [.ref (x + 0), .int x1, .int x2] G (fun H => rg G LX x ξ H ∧ rg G LG (x + 1) γ H ∧ rg G LG (x + 23) τ H ∧ rg G LH (x + 45) η H ∧ HG G (x + 46) σ H ∧ rg G LO (x + 135) ο H) (fun r (u : Mem × Mem × Mem × ((Nat → Mem))) => Q r u.1 u.2.1 u.2.2.1 u.2.2.2) (fun (u : Mem × Mem × Mem × ((Nat → Mem))) H => rg G LG (x + 1) u.1 H ∧ rg G LG (x + 23) u.2.1 H ∧ rg G LH (x + 45) u.2.2.1 H ∧ HG G (x + 46) u.2.2.2 H) (fun q => RA (x + 1) 22 q ∨ RA (x + 23) 22 q ∨ RA (x + 45) 1 q ∨ RA (x + 46) 89 q) := by
  unfold CtI
  refine met_start (y := yX7_flip) (maxL := 3) (av := [.ref (x + 0), .int x1, .int x2]) (G := G) (P := fun H => rg G LX x ξ H ∧ rg G LG (x + 1) γ H ∧ rg G LG (x + 23) τ H ∧ rg G LH (x + 45) η H ∧ HG G (x + 46) σ H ∧ rg G LO (x + 135) ο H) (by decide) rfl (Nat.le_of_ble_eq_true rfl) (fun p e s m below meth c ls C hr hP hK hl => ?_)
  obtain ⟨hx, hb, hml, hown, hts, hlocks⟩ := id C
  obtain ⟨hX, hG, hT, hH, hZ, hO⟩ := hP
  have hS : va_S (fun q => RA (x + 1) 22 q ∨ RA (x + 23) 22 q ∨ RA (x + 45) 1 q ∨ RA (x + 46) 89 q) s.heap s.heap [] := va_S.rf
  have hl : lv_has ls 3 [(0, .ref (x + 0)), (1, .int x1), (2, .int x2)] := hl
  unfold vc_X7_flip at h
  refine lv_aload_n hx hb dX7_flip_0 rfl (lv_at hl 0 rfl) ?_
  refine g_vV C hK hl.1 (m_X7_startTrial l G x ξ γ τ η σ ο _ h) mw_X7_startTrial mi_X7_startTrial ml_X7_33 rfl ⟨rfl, rfl, Nat.le_of_ble_eq_true rfl, Nat.le_of_ble_eq_true rfl⟩ ⟨Nat.zero_le _, Nat.zero_le _⟩ (g_recv (a := x) (k := 0) hK hX rfl rfl) ⟨hX, hG, hT, hH, hZ, hO⟩ hS (fun q h => by simp only [RA] at h ⊢; omega) rfl (Nat.le_of_ble_eq_true rfl) dX7_flip_1 (fun u H locs h hu _ hq hS => ?_)
  obtain ⟨τ2, rfl⟩ : ∃ z, z = u := ⟨_, rfl⟩
  have hT := hu
  have hX := hX.past hq (fun j hj h => by have hj : j < 1 := hj; simp only [RA] at h; omega)
  have hG := hG.past hq (fun j hj h => by have hj : j < 22 := hj; simp only [RA] at h; omega)
  have hH := hH.past hq (fun j hj h => by have hj : j < 1 := hj; simp only [RA] at h; omega)
  have hZ := hZ.past hq (fun j hj h => by have hj : j < 89 := hj; simp only [RA] at h; omega)
  have hO := hO.past hq (fun j hj h => by have hj : j < 3 := hj; simp only [RA] at h; omega)
  refine lv_aload_n hx hb dX7_flip_4 rfl (lv_at hl 0 rfl) ?_
  refine lv_aload_n hx hb dX7_flip_5 rfl (lv_at hl 0 rfl) ?_
  refine g_getR (a := x) (k := 0) (o := 23) C hK hX fl_X7_16 rfl rfl dX7_flip_6 ?_
  refine lv_iload_n hx hb dX7_flip_9 rfl (lv_at hl 1 rfl) ?_
  refine lv_iload_n hx hb dX7_flip_10 rfl (lv_at hl 2 rfl) ?_
  refine g_vI C hK hl.1 (m_X1_flipByHand l G (x + 23) τ2 x1 x2 _ h) mw_X1_flipByHand mi_X1_flipByHand ml_X7_62 rfl ⟨rfl, rfl, Nat.le_of_ble_eq_true rfl, Nat.le_of_ble_eq_true rfl⟩ ⟨Nat.zero_le _, Nat.zero_le _⟩ (g_recv (a := (x + 23)) (k := 0) hK hT rfl rfl) hT hS (fun q h => by simp only [RA] at h ⊢; omega) rfl (Nat.le_of_ble_eq_true rfl) dX7_flip_11 (fun r3 u H locs h hu _ hq hS => ?_)
  obtain ⟨τ4, rfl⟩ : ∃ z, z = u := ⟨_, rfl⟩
  have hT := hu
  have hX := hX.past hq (fun j hj h => by have hj : j < 1 := hj; simp only [RA] at h; omega)
  have hG := hG.past hq (fun j hj h => by have hj : j < 22 := hj; simp only [RA] at h; omega)
  have hH := hH.past hq (fun j hj h => by have hj : j < 1 := hj; simp only [RA] at h; omega)
  have hZ := hZ.past hq (fun j hj h => by have hj : j < 89 := hj; simp only [RA] at h; omega)
  have hO := hO.past hq (fun j hj h => by have hj : j < 3 := hj; simp only [RA] at h; omega)
  refine g_vI C hK hl.1 (m_X7_keepTrial l G x ξ γ τ4 η σ ο r3 _ h) mw_X7_keepTrial mi_X7_keepTrial ml_X7_40 rfl ⟨rfl, rfl, Nat.le_of_ble_eq_true rfl, Nat.le_of_ble_eq_true rfl⟩ ⟨Nat.zero_le _, Nat.zero_le _⟩ (g_recv (a := x) (k := 0) hK hX rfl rfl) ⟨hX, hG, hT, hH, hZ, hO⟩ hS (fun q h => by simp only [RA] at h ⊢; omega) rfl (Nat.le_of_ble_eq_true rfl) dX7_flip_14 (fun r5 u H locs h hu _ hq hS => ?_)
  obtain ⟨γ6, η7, σ8⟩ := u
  dsimp only at h hu
  obtain ⟨hG, hH, hZ⟩ := hu
  have hX := hX.past hq (fun j hj h => by have hj : j < 1 := hj; simp only [RA] at h; omega)
  have hT := hT.past hq (fun j hj h => by have hj : j < 22 := hj; simp only [RA] at h; omega)
  have hO := hO.past hq (fun j hj h => by have hj : j < 3 := hj; simp only [RA] at h; omega)
  exact g_iret (post := fun r (u : Mem × Mem × Mem × ((Nat → Mem))) => Q r u.1 u.2.1 u.2.2.1 u.2.2.2) (P' := fun (u : Mem × Mem × Mem × ((Nat → Mem))) H => rg G LG (x + 1) u.1 H ∧ rg G LG (x + 23) u.2.1 H ∧ rg G LH (x + 45) u.2.2.1 H ∧ HG G (x + 46) u.2.2.2 H) (r := r5) (u := (γ6, τ4, η7, σ8)) C hr hK hS h ⟨hG, hT, hH, hZ⟩ dX7_flip_17
theorem dX7_buy_0 : decode cX7_buy 0 = .ok (.aload_n 0, 1) := by decide +kernel
theorem dX7_buy_1 : decode cX7_buy 1 = .ok (.invokevirtual 33, 3) := by decide +kernel
theorem dX7_buy_4 : decode cX7_buy 4 = .ok (.aload_n 0, 1) := by decide +kernel
theorem dX7_buy_5 : decode cX7_buy 5 = .ok (.aload_n 0, 1) := by decide +kernel
theorem dX7_buy_6 : decode cX7_buy 6 = .ok (.getfield 16, 3) := by decide +kernel
theorem dX7_buy_9 : decode cX7_buy 9 = .ok (.iload_n 1, 1) := by decide +kernel
theorem dX7_buy_10 : decode cX7_buy 10 = .ok (.iload_n 2, 1) := by decide +kernel
theorem dX7_buy_11 : decode cX7_buy 11 = .ok (.invokevirtual 65, 3) := by decide +kernel
theorem dX7_buy_14 : decode cX7_buy 14 = .ok (.invokevirtual 40, 3) := by decide +kernel
theorem dX7_buy_17 : decode cX7_buy 17 = .ok (.ireturn, 1) := by decide +kernel
def vc_X7_buy (Q : Int32 → Mem → Mem → Mem → (Nat → Mem) → Prop) (ξ : Mem) (γ : Mem) (τ : Mem) (η : Mem) (σ : (Nat → Mem)) (ο : Mem) (x1 : Int32) (x2 : Int32) : Prop :=
  vc_X7_startTrial (fun τ2 => vc_X1_buyContract (fun r3 τ4 => vc_X7_keepTrial (fun r5 γ6 η7 σ8 => Q r5 γ6 τ4 η7 σ8) ξ γ τ4 η σ ο r3) τ2 x1 x2) ξ γ τ η σ ο
set_option maxHeartbeats 8000000 in
set_option maxRecDepth 100000 in
theorem m_X7_buy (l : Launch) (G : GG) (x : Nat) (ξ : Mem) (γ : Mem) (τ : Mem) (η : Mem) (σ : (Nat → Mem)) (ο : Mem) (x1 : Int32) (x2 : Int32) (Q : Int32 → Mem → Mem → Mem → (Nat → Mem) → Prop) (h : vc_X7_buy Q ξ γ τ η σ ο x1 x2) : CtI l yX7_buy cX7_buy 3 (some .int) { frames := 6, cells := 0, slots := 0, locals := 145 } [.ref (x + 0), .int x1, .int x2] G (fun H => rg G LX x ξ H ∧ rg G LG (x + 1) γ H ∧ rg G LG (x + 23) τ H ∧ rg G LH (x + 45) η H ∧ HG G (x + 46) σ H ∧ rg G LO (x + 135) ο H) (fun r (u : Mem × Mem × Mem × ((Nat → Mem))) => Q r u.1 u.2.1 u.2.2.1 u.2.2.2) (fun (u : Mem × Mem × Mem × ((Nat → Mem))) H => rg G LG (x + 1) u.1 H ∧ rg G LG (x + 23) u.2.1 H ∧ rg G LH (x + 45) u.2.2.1 H ∧ HG G (x + 46) u.2.2.2 H) (fun q => RA (x + 1) 22 q ∨ RA (x + 23) 22 q ∨ RA (x + 45) 1 q ∨ RA (x + 46) 89 q) := by
  unfold CtI
  refine met_start (y := yX7_buy) (maxL := 3) (av := [.ref (x + 0), .int x1, .int x2]) (G := G) (P := fun H => rg G LX x ξ H ∧ rg G LG (x + 1) γ H ∧ rg G LG (x + 23) τ H ∧ rg G LH (x + 45) η H ∧ HG G (x + 46) σ H ∧ rg G LO (x + 135) ο H) (by decide) rfl (Nat.le_of_ble_eq_true rfl) (fun p e s m below meth c ls C hr hP hK hl => ?_)
  obtain ⟨hx, hb, hml, hown, hts, hlocks⟩ := id C
  obtain ⟨hX, hG, hT, hH, hZ, hO⟩ := hP
  have hS : va_S (fun q => RA (x + 1) 22 q ∨ RA (x + 23) 22 q ∨ RA (x + 45) 1 q ∨ RA (x + 46) 89 q) s.heap s.heap [] := va_S.rf
  have hl : lv_has ls 3 [(0, .ref (x + 0)), (1, .int x1), (2, .int x2)] := hl
  unfold vc_X7_buy at h
  refine lv_aload_n hx hb dX7_buy_0 rfl (lv_at hl 0 rfl) ?_
  refine g_vV C hK hl.1 (m_X7_startTrial l G x ξ γ τ η σ ο _ h) mw_X7_startTrial mi_X7_startTrial ml_X7_33 rfl ⟨rfl, rfl, Nat.le_of_ble_eq_true rfl, Nat.le_of_ble_eq_true rfl⟩ ⟨Nat.zero_le _, Nat.zero_le _⟩ (g_recv (a := x) (k := 0) hK hX rfl rfl) ⟨hX, hG, hT, hH, hZ, hO⟩ hS (fun q h => by simp only [RA] at h ⊢; omega) rfl (Nat.le_of_ble_eq_true rfl) dX7_buy_1 (fun u H locs h hu _ hq hS => ?_)
  obtain ⟨τ2, rfl⟩ : ∃ z, z = u := ⟨_, rfl⟩
  have hT := hu
  have hX := hX.past hq (fun j hj h => by have hj : j < 1 := hj; simp only [RA] at h; omega)
  have hG := hG.past hq (fun j hj h => by have hj : j < 22 := hj; simp only [RA] at h; omega)
  have hH := hH.past hq (fun j hj h => by have hj : j < 1 := hj; simp only [RA] at h; omega)
  have hZ := hZ.past hq (fun j hj h => by have hj : j < 89 := hj; simp only [RA] at h; omega)
  have hO := hO.past hq (fun j hj h => by have hj : j < 3 := hj; simp only [RA] at h; omega)
  refine lv_aload_n hx hb dX7_buy_4 rfl (lv_at hl 0 rfl) ?_
  refine lv_aload_n hx hb dX7_buy_5 rfl (lv_at hl 0 rfl) ?_
  refine g_getR (a := x) (k := 0) (o := 23) C hK hX fl_X7_16 rfl rfl dX7_buy_6 ?_
  refine lv_iload_n hx hb dX7_buy_9 rfl (lv_at hl 1 rfl) ?_
  refine lv_iload_n hx hb dX7_buy_10 rfl (lv_at hl 2 rfl) ?_
  refine g_vI C hK hl.1 (m_X1_buyContract l G (x + 23) τ2 x1 x2 _ h) mw_X1_buyContract mi_X1_buyContract ml_X7_65 rfl ⟨rfl, rfl, Nat.le_of_ble_eq_true rfl, Nat.le_of_ble_eq_true rfl⟩ ⟨Nat.zero_le _, Nat.zero_le _⟩ (g_recv (a := (x + 23)) (k := 0) hK hT rfl rfl) hT hS (fun q h => by simp only [RA] at h ⊢; omega) rfl (Nat.le_of_ble_eq_true rfl) dX7_buy_11 (fun r3 u H locs h hu _ hq hS => ?_)
  obtain ⟨τ4, rfl⟩ : ∃ z, z = u := ⟨_, rfl⟩
  have hT := hu
  have hX := hX.past hq (fun j hj h => by have hj : j < 1 := hj; simp only [RA] at h; omega)
  have hG := hG.past hq (fun j hj h => by have hj : j < 22 := hj; simp only [RA] at h; omega)
  have hH := hH.past hq (fun j hj h => by have hj : j < 1 := hj; simp only [RA] at h; omega)
  have hZ := hZ.past hq (fun j hj h => by have hj : j < 89 := hj; simp only [RA] at h; omega)
  have hO := hO.past hq (fun j hj h => by have hj : j < 3 := hj; simp only [RA] at h; omega)
  refine g_vI C hK hl.1 (m_X7_keepTrial l G x ξ γ τ4 η σ ο r3 _ h) mw_X7_keepTrial mi_X7_keepTrial ml_X7_40 rfl ⟨rfl, rfl, Nat.le_of_ble_eq_true rfl, Nat.le_of_ble_eq_true rfl⟩ ⟨Nat.zero_le _, Nat.zero_le _⟩ (g_recv (a := x) (k := 0) hK hX rfl rfl) ⟨hX, hG, hT, hH, hZ, hO⟩ hS (fun q h => by simp only [RA] at h ⊢; omega) rfl (Nat.le_of_ble_eq_true rfl) dX7_buy_14 (fun r5 u H locs h hu _ hq hS => ?_)
  obtain ⟨γ6, η7, σ8⟩ := u
  dsimp only at h hu
  obtain ⟨hG, hH, hZ⟩ := hu
  have hX := hX.past hq (fun j hj h => by have hj : j < 1 := hj; simp only [RA] at h; omega)
  have hT := hT.past hq (fun j hj h => by have hj : j < 22 := hj; simp only [RA] at h; omega)
  have hO := hO.past hq (fun j hj h => by have hj : j < 3 := hj; simp only [RA] at h; omega)
  exact g_iret (post := fun r (u : Mem × Mem × Mem × ((Nat → Mem))) => Q r u.1 u.2.1 u.2.2.1 u.2.2.2) (P' := fun (u : Mem × Mem × Mem × ((Nat → Mem))) H => rg G LG (x + 1) u.1 H ∧ rg G LG (x + 23) u.2.1 H ∧ rg G LH (x + 45) u.2.2.1 H ∧ HG G (x + 46) u.2.2.2 H) (r := r5) (u := (γ6, τ4, η7, σ8)) C hr hK hS h ⟨hG, hT, hH, hZ⟩ dX7_buy_17
theorem dX7_pass_0 : decode cX7_pass 0 = .ok (.aload_n 0, 1) := by decide +kernel
theorem dX7_pass_1 : decode cX7_pass 1 = .ok (.invokevirtual 33, 3) := by decide +kernel
theorem dX7_pass_4 : decode cX7_pass 4 = .ok (.aload_n 0, 1) := by decide +kernel
theorem dX7_pass_5 : decode cX7_pass 5 = .ok (.aload_n 0, 1) := by decide +kernel
theorem dX7_pass_6 : decode cX7_pass 6 = .ok (.getfield 16, 3) := by decide +kernel
theorem dX7_pass_9 : decode cX7_pass 9 = .ok (.iload_n 1, 1) := by decide +kernel
theorem dX7_pass_10 : decode cX7_pass 10 = .ok (.invokevirtual 68, 3) := by decide +kernel
theorem dX7_pass_13 : decode cX7_pass 13 = .ok (.invokevirtual 40, 3) := by decide +kernel
theorem dX7_pass_16 : decode cX7_pass 16 = .ok (.ireturn, 1) := by decide +kernel
def vc_X7_pass (Q : Int32 → Mem → Mem → Mem → (Nat → Mem) → Prop) (ξ : Mem) (γ : Mem) (τ : Mem) (η : Mem) (σ : (Nat → Mem)) (ο : Mem) (x1 : Int32) : Prop :=
  vc_X7_startTrial (fun τ2 => vc_X1_letPass (fun r3 τ4 => vc_X7_keepTrial (fun r5 γ6 η7 σ8 => Q r5 γ6 τ4 η7 σ8) ξ γ τ4 η σ ο r3) τ2 x1) ξ γ τ η σ ο
set_option maxHeartbeats 8000000 in
set_option maxRecDepth 100000 in
theorem m_X7_pass (l : Launch) (G : GG) (x : Nat) (ξ : Mem) (γ : Mem) (τ : Mem) (η : Mem) (σ : (Nat → Mem)) (ο : Mem) (x1 : Int32) (Q : Int32 → Mem → Mem → Mem → (Nat → Mem) → Prop) (h : vc_X7_pass Q ξ γ τ η σ ο x1) : CtI l yX7_pass cX7_pass 2 (some .int) { frames := 6, cells := 0, slots := 0, locals := 145 } [.ref (x + 0), .int x1] G (fun H => rg G LX x ξ H ∧ rg G LG (x + 1) γ H ∧ rg G LG (x + 23) τ H ∧ rg G LH (x + 45) η H ∧ HG G (x + 46) σ H ∧ rg G LO (x + 135) ο H) (fun r (u : Mem × Mem × Mem × ((Nat → Mem))) => Q r u.1 u.2.1 u.2.2.1 u.2.2.2) (fun (u : Mem × Mem × Mem × ((Nat → Mem))) H => rg G LG (x + 1) u.1 H ∧ rg G LG (x + 23) u.2.1 H ∧ rg G LH (x + 45) u.2.2.1 H ∧ HG G (x + 46) u.2.2.2 H) (fun q => RA (x + 1) 22 q ∨ RA (x + 23) 22 q ∨ RA (x + 45) 1 q ∨ RA (x + 46) 89 q) := by
  unfold CtI
  refine met_start (y := yX7_pass) (maxL := 2) (av := [.ref (x + 0), .int x1]) (G := G) (P := fun H => rg G LX x ξ H ∧ rg G LG (x + 1) γ H ∧ rg G LG (x + 23) τ H ∧ rg G LH (x + 45) η H ∧ HG G (x + 46) σ H ∧ rg G LO (x + 135) ο H) (by decide) rfl (Nat.le_of_ble_eq_true rfl) (fun p e s m below meth c ls C hr hP hK hl => ?_)
  obtain ⟨hx, hb, hml, hown, hts, hlocks⟩ := id C
  obtain ⟨hX, hG, hT, hH, hZ, hO⟩ := hP
  have hS : va_S (fun q => RA (x + 1) 22 q ∨ RA (x + 23) 22 q ∨ RA (x + 45) 1 q ∨ RA (x + 46) 89 q) s.heap s.heap [] := va_S.rf
  have hl : lv_has ls 2 [(0, .ref (x + 0)), (1, .int x1)] := hl
  unfold vc_X7_pass at h
  refine lv_aload_n hx hb dX7_pass_0 rfl (lv_at hl 0 rfl) ?_
  refine g_vV C hK hl.1 (m_X7_startTrial l G x ξ γ τ η σ ο _ h) mw_X7_startTrial mi_X7_startTrial ml_X7_33 rfl ⟨rfl, rfl, Nat.le_of_ble_eq_true rfl, Nat.le_of_ble_eq_true rfl⟩ ⟨Nat.zero_le _, Nat.zero_le _⟩ (g_recv (a := x) (k := 0) hK hX rfl rfl) ⟨hX, hG, hT, hH, hZ, hO⟩ hS (fun q h => by simp only [RA] at h ⊢; omega) rfl (Nat.le_of_ble_eq_true rfl) dX7_pass_1 (fun u H locs h hu _ hq hS => ?_)
  obtain ⟨τ2, rfl⟩ : ∃ z, z = u := ⟨_, rfl⟩
  have hT := hu
  have hX := hX.past hq (fun j hj h => by have hj : j < 1 := hj; simp only [RA] at h; omega)
  have hG := hG.past hq (fun j hj h => by have hj : j < 22 := hj; simp only [RA] at h; omega)
  have hH := hH.past hq (fun j hj h => by have hj : j < 1 := hj; simp only [RA] at h; omega)
  have hZ := hZ.past hq (fun j hj h => by have hj : j < 89 := hj; simp only [RA] at h; omega)
  have hO := hO.past hq (fun j hj h => by have hj : j < 3 := hj; simp only [RA] at h; omega)
  refine lv_aload_n hx hb dX7_pass_4 rfl (lv_at hl 0 rfl) ?_
  refine lv_aload_n hx hb dX7_pass_5 rfl (lv_at hl 0 rfl) ?_
  refine g_getR (a := x) (k := 0) (o := 23) C hK hX fl_X7_16 rfl rfl dX7_pass_6 ?_
  refine lv_iload_n hx hb dX7_pass_9 rfl (lv_at hl 1 rfl) ?_
  refine g_vI C hK hl.1 (m_X1_letPass l G (x + 23) τ2 x1 _ h) mw_X1_letPass mi_X1_letPass ml_X7_68 rfl ⟨rfl, rfl, Nat.le_of_ble_eq_true rfl, Nat.le_of_ble_eq_true rfl⟩ ⟨Nat.zero_le _, Nat.zero_le _⟩ (g_recv (a := (x + 23)) (k := 0) hK hT rfl rfl) hT hS (fun q h => by simp only [RA] at h ⊢; omega) rfl (Nat.le_of_ble_eq_true rfl) dX7_pass_10 (fun r3 u H locs h hu _ hq hS => ?_)
  obtain ⟨τ4, rfl⟩ : ∃ z, z = u := ⟨_, rfl⟩
  have hT := hu
  have hX := hX.past hq (fun j hj h => by have hj : j < 1 := hj; simp only [RA] at h; omega)
  have hG := hG.past hq (fun j hj h => by have hj : j < 22 := hj; simp only [RA] at h; omega)
  have hH := hH.past hq (fun j hj h => by have hj : j < 1 := hj; simp only [RA] at h; omega)
  have hZ := hZ.past hq (fun j hj h => by have hj : j < 89 := hj; simp only [RA] at h; omega)
  have hO := hO.past hq (fun j hj h => by have hj : j < 3 := hj; simp only [RA] at h; omega)
  refine g_vI C hK hl.1 (m_X7_keepTrial l G x ξ γ τ4 η σ ο r3 _ h) mw_X7_keepTrial mi_X7_keepTrial ml_X7_40 rfl ⟨rfl, rfl, Nat.le_of_ble_eq_true rfl, Nat.le_of_ble_eq_true rfl⟩ ⟨Nat.zero_le _, Nat.zero_le _⟩ (g_recv (a := x) (k := 0) hK hX rfl rfl) ⟨hX, hG, hT, hH, hZ, hO⟩ hS (fun q h => by simp only [RA] at h ⊢; omega) rfl (Nat.le_of_ble_eq_true rfl) dX7_pass_13 (fun r5 u H locs h hu _ hq hS => ?_)
  obtain ⟨γ6, η7, σ8⟩ := u
  dsimp only at h hu
  obtain ⟨hG, hH, hZ⟩ := hu
  have hX := hX.past hq (fun j hj h => by have hj : j < 1 := hj; simp only [RA] at h; omega)
  have hT := hT.past hq (fun j hj h => by have hj : j < 22 := hj; simp only [RA] at h; omega)
  have hO := hO.past hq (fun j hj h => by have hj : j < 3 := hj; simp only [RA] at h; omega)
  exact g_iret (post := fun r (u : Mem × Mem × Mem × ((Nat → Mem))) => Q r u.1 u.2.1 u.2.2.1 u.2.2.2) (P' := fun (u : Mem × Mem × Mem × ((Nat → Mem))) H => rg G LG (x + 1) u.1 H ∧ rg G LG (x + 23) u.2.1 H ∧ rg G LH (x + 45) u.2.2.1 H ∧ HG G (x + 46) u.2.2.2 H) (r := r5) (u := (γ6, τ4, η7, σ8)) C hr hK hS h ⟨hG, hT, hH, hZ⟩ dX7_pass_16
theorem dX7_playerOf_0 : decode cX7_playerOf 0 = .ok (.aload_n 0, 1) := by decide +kernel
theorem dX7_playerOf_1 : decode cX7_playerOf 1 = .ok (.getfield 12, 3) := by decide +kernel
theorem dX7_playerOf_4 : decode cX7_playerOf 4 = .ok (.iload_n 1, 1) := by decide +kernel
theorem dX7_playerOf_5 : decode cX7_playerOf 5 = .ok (.invokevirtual 71, 3) := by decide +kernel
theorem dX7_playerOf_8 : decode cX7_playerOf 8 = .ok (.ifCond .eq 13, 3) := by decide +kernel
theorem dX7_playerOf_11 : decode cX7_playerOf 11 = .ok (.iload_n 2, 1) := by decide +kernel
theorem dX7_playerOf_12 : decode cX7_playerOf 12 = .ok (.iconst 0, 1) := by decide +kernel
theorem dX7_playerOf_13 : decode cX7_playerOf 13 = .ok (.bipush 7, 2) := by decide +kernel
theorem dX7_playerOf_15 : decode cX7_playerOf 15 = .ok (.invokestatic 75, 3) := by decide +kernel
theorem dX7_playerOf_18 : decode cX7_playerOf 18 = .ok (.ifCond .ne 6, 3) := by decide +kernel
theorem dX7_playerOf_21 : decode cX7_playerOf 21 = .ok (.ldc 79, 2) := by decide +kernel
theorem dX7_playerOf_23 : decode cX7_playerOf 23 = .ok (.ireturn, 1) := by decide +kernel
theorem dX7_playerOf_24 : decode cX7_playerOf 24 = .ok (.iload_n 2, 1) := by decide +kernel
theorem dX7_playerOf_25 : decode cX7_playerOf 25 = .ok (.tableswitch 97 3 7 #[35, 48, 60, 72, 84], 35) := by decide +kernel
theorem dX7_playerOf_60 : decode cX7_playerOf 60 = .ok (.aload_n 0, 1) := by decide +kernel
theorem dX7_playerOf_61 : decode cX7_playerOf 61 = .ok (.getfield 12, 3) := by decide +kernel
theorem dX7_playerOf_64 : decode cX7_playerOf 64 = .ok (.getfield 80, 3) := by decide +kernel
theorem dX7_playerOf_67 : decode cX7_playerOf 67 = .ok (.getfield 84, 3) := by decide +kernel
theorem dX7_playerOf_70 : decode cX7_playerOf 70 = .ok (.iload_n 1, 1) := by decide +kernel
theorem dX7_playerOf_71 : decode cX7_playerOf 71 = .ok (.iaload, 1) := by decide +kernel
theorem dX7_playerOf_72 : decode cX7_playerOf 72 = .ok (.ireturn, 1) := by decide +kernel
theorem dX7_playerOf_73 : decode cX7_playerOf 73 = .ok (.aload_n 0, 1) := by decide +kernel
theorem dX7_playerOf_74 : decode cX7_playerOf 74 = .ok (.getfield 12, 3) := by decide +kernel
theorem dX7_playerOf_77 : decode cX7_playerOf 77 = .ok (.getfield 90, 3) := by decide +kernel
theorem dX7_playerOf_80 : decode cX7_playerOf 80 = .ok (.iload_n 1, 1) := by decide +kernel
theorem dX7_playerOf_81 : decode cX7_playerOf 81 = .ok (.invokevirtual 94, 3) := by decide +kernel
theorem dX7_playerOf_84 : decode cX7_playerOf 84 = .ok (.ireturn, 1) := by decide +kernel
theorem dX7_playerOf_85 : decode cX7_playerOf 85 = .ok (.aload_n 0, 1) := by decide +kernel
theorem dX7_playerOf_86 : decode cX7_playerOf 86 = .ok (.getfield 12, 3) := by decide +kernel
theorem dX7_playerOf_89 : decode cX7_playerOf 89 = .ok (.getfield 90, 3) := by decide +kernel
theorem dX7_playerOf_92 : decode cX7_playerOf 92 = .ok (.iload_n 1, 1) := by decide +kernel
theorem dX7_playerOf_93 : decode cX7_playerOf 93 = .ok (.invokevirtual 99, 3) := by decide +kernel
theorem dX7_playerOf_96 : decode cX7_playerOf 96 = .ok (.ireturn, 1) := by decide +kernel
theorem dX7_playerOf_97 : decode cX7_playerOf 97 = .ok (.aload_n 0, 1) := by decide +kernel
theorem dX7_playerOf_98 : decode cX7_playerOf 98 = .ok (.getfield 12, 3) := by decide +kernel
theorem dX7_playerOf_101 : decode cX7_playerOf 101 = .ok (.getfield 90, 3) := by decide +kernel
theorem dX7_playerOf_104 : decode cX7_playerOf 104 = .ok (.iload_n 1, 1) := by decide +kernel
theorem dX7_playerOf_105 : decode cX7_playerOf 105 = .ok (.invokevirtual 102, 3) := by decide +kernel
theorem dX7_playerOf_108 : decode cX7_playerOf 108 = .ok (.ireturn, 1) := by decide +kernel
theorem dX7_playerOf_109 : decode cX7_playerOf 109 = .ok (.aload_n 0, 1) := by decide +kernel
theorem dX7_playerOf_110 : decode cX7_playerOf 110 = .ok (.invokevirtual 33, 3) := by decide +kernel
theorem dX7_playerOf_113 : decode cX7_playerOf 113 = .ok (.aload_n 0, 1) := by decide +kernel
theorem dX7_playerOf_114 : decode cX7_playerOf 114 = .ok (.getfield 16, 3) := by decide +kernel
theorem dX7_playerOf_117 : decode cX7_playerOf 117 = .ok (.iload_n 1, 1) := by decide +kernel
theorem dX7_playerOf_118 : decode cX7_playerOf 118 = .ok (.invokevirtual 105, 3) := by decide +kernel
theorem dX7_playerOf_121 : decode cX7_playerOf 121 = .ok (.ireturn, 1) := by decide +kernel
theorem dX7_playerOf_122 : decode cX7_playerOf 122 = .ok (.aload_n 0, 1) := by decide +kernel
theorem dX7_playerOf_123 : decode cX7_playerOf 123 = .ok (.getfield 12, 3) := by decide +kernel
theorem dX7_playerOf_126 : decode cX7_playerOf 126 = .ok (.getfield 80, 3) := by decide +kernel
theorem dX7_playerOf_129 : decode cX7_playerOf 129 = .ok (.iload_n 1, 1) := by decide +kernel
theorem dX7_playerOf_130 : decode cX7_playerOf 130 = .ok (.iload_n 2, 1) := by decide +kernel
theorem dX7_playerOf_131 : decode cX7_playerOf 131 = .ok (.invokevirtual 108, 3) := by decide +kernel
theorem dX7_playerOf_134 : decode cX7_playerOf 134 = .ok (.ireturn, 1) := by decide +kernel
def vc_X7_playerOf (Q : Int32 → Mem → Prop) (ξ : Mem) (γ : Mem) (τ : Mem) (η : Mem) (σ : (Nat → Mem)) (ο : Mem) (x1 : Int32) (x2 : Int32) : Prop :=
  vc_X1_hasPlayer (fun r1 => ((r1 = 0) → (Q (-1000001) τ)) ∧ ((¬ r1 = 0) → (vc_X7_within (fun r3 => ((¬ r3 = 0) → (((x2 = 3) → (vp_in x1 4 ∧ (Q (γ 3 x1.toNatClampNeg) τ))) ∧ ((¬ x2 = 3) → (((x2 = 4) → (vc_X2_worksOf (fun r8 => Q r8 τ) γ x1)) ∧ ((¬ x2 = 4) → (((x2 = 5) → (vc_X2_outOf (fun r10 => Q r10 τ) γ x1)) ∧ ((¬ x2 = 5) → (((x2 = 6) → (vc_X2_waitingOf (fun r12 => Q r12 τ) γ x1)) ∧ ((¬ x2 = 6) → (((x2 = 7) → (vc_X7_startTrial (fun τ15 => vc_X1_untilOneIsOut (fun r16 τ17 => Q r16 τ17) τ15 x1) ξ γ τ η σ ο)) ∧ ((¬ x2 = 7) → (vc_X5_amountOf (fun r18 => Q r18 τ) γ x1 x2)))))))))))) ∧ ((r3 = 0) → (Q (-1000001) τ))) x2 0 7))) γ x1
set_option maxHeartbeats 8000000 in
set_option maxRecDepth 100000 in
theorem m_X7_playerOf (l : Launch) (G : GG) (x : Nat) (ξ : Mem) (γ : Mem) (τ : Mem) (η : Mem) (σ : (Nat → Mem)) (ο : Mem) (x1 : Int32) (x2 : Int32) (Q : Int32 → Mem → Prop) (h : vc_X7_playerOf Q ξ γ τ η σ ο x1 x2) : CtI l yX7_playerOf cX7_playerOf 3 (some .int) { frames := 5, cells := 0, slots := 0, locals := 123 } [.ref (x + 0), .int x1, .int x2] G (fun H => rg G LX x ξ H ∧ rg G LG (x + 1) γ H ∧ rg G LG (x + 23) τ H ∧ rg G LH (x + 45) η H ∧ HG G (x + 46) σ H ∧ rg G LO (x + 135) ο H) (Q) (fun u H => rg G LG (x + 23) u H) (RA (x + 23) 22) := by
  unfold CtI
  refine met_start (y := yX7_playerOf) (maxL := 3) (av := [.ref (x + 0), .int x1, .int x2]) (G := G) (P := fun H => rg G LX x ξ H ∧ rg G LG (x + 1) γ H ∧ rg G LG (x + 23) τ H ∧ rg G LH (x + 45) η H ∧ HG G (x + 46) σ H ∧ rg G LO (x + 135) ο H) (by decide) rfl (Nat.le_of_ble_eq_true rfl) (fun p e s m below meth c ls C hr hP hK hl => ?_)
  obtain ⟨hx, hb, hml, hown, hts, hlocks⟩ := id C
  obtain ⟨hX, hG, hT, hH, hZ, hO⟩ := hP
  have hS : va_S (RA (x + 23) 22) s.heap s.heap [] := va_S.rf
  have hl : lv_has ls 3 [(0, .ref (x + 0)), (1, .int x1), (2, .int x2)] := hl
  unfold vc_X7_playerOf at h
  refine lv_aload_n hx hb dX7_playerOf_0 rfl (lv_at hl 0 rfl) ?_
  refine g_getR (a := x) (k := 0) (o := 1) C hK hX fl_X7_12 rfl rfl dX7_playerOf_1 ?_
  refine lv_iload_n hx hb dX7_playerOf_4 rfl (lv_at hl 1 rfl) ?_
  refine g_vI C hK hl.1 (m_X1_hasPlayer l G (x + 1) γ x1 _ h) mw_X1_hasPlayer mi_X1_hasPlayer ml_X7_71 rfl ⟨rfl, rfl, Nat.le_of_ble_eq_true rfl, Nat.le_of_ble_eq_true rfl⟩ ⟨Nat.zero_le _, Nat.zero_le _⟩ (g_recv (a := (x + 1)) (k := 0) hK hG rfl rfl) hG hS (fun _ h => h.elim) rfl (Nat.le_of_ble_eq_true rfl) dX7_playerOf_5 (fun r1 u H locs h hu _ hq hS => ?_)
  have hX := hX.past hq (fun _ _ h => h)
  have hG := hG.past hq (fun _ _ h => h)
  have hT := hT.past hq (fun _ _ h => h)
  have hH := hH.past hq (fun _ _ h => h)
  have hZ := hZ.past hq (fun _ _ h => h)
  have hO := hO.past hq (fun _ _ h => h)
  refine lv_if_eq (tgt := 21) hx hb dX7_playerOf_8 (by decide) (fun c2 => ?_) (fun c2 => ?_)
  · replace h := h.1 c2
    refine g_ldc C kc_X7_79 dX7_playerOf_21 ?_
    exact g_iret (post := Q) (P' := fun u H => rg G LG (x + 23) u H) (r := (-1000001)) (u := τ) C hr hK hS h hT dX7_playerOf_23
  · replace h := h.2 c2
    refine lv_iload_n hx hb dX7_playerOf_11 rfl (lv_at hl 2 rfl) ?_
    refine lv_iconst (v := 0) hx hb dX7_playerOf_12 (by decide) ?_
    refine lv_bipush (v := 7) hx hb dX7_playerOf_13 (by decide) ?_
    refine g_sI C hK hl.1 (m_X7_within l G x2 0 7 _ h) mw_X7_within ms_X7_within ml_X7_75 rfl ⟨rfl, rfl, Nat.le_of_ble_eq_true rfl, Nat.le_of_ble_eq_true rfl⟩ ⟨Nat.zero_le _, Nat.zero_le _⟩ trivial hS (fun _ h => h.elim) rfl (Nat.le_of_ble_eq_true rfl) dX7_playerOf_15 (fun r3 u H locs h hu _ hq hS => ?_)
    have hX := hX.past hq (fun _ _ h => h)
    have hG := hG.past hq (fun _ _ h => h)
    have hT := hT.past hq (fun _ _ h => h)
    have hH := hH.past hq (fun _ _ h => h)
    have hZ := hZ.past hq (fun _ _ h => h)
    have hO := hO.past hq (fun _ _ h => h)
    refine lv_if_ne (tgt := 24) hx hb dX7_playerOf_18 (by decide) (fun c4 => ?_) (fun c4 => ?_)
    · replace h := h.1 c4
      refine lv_iload_n hx hb dX7_playerOf_24 rfl (lv_at hl 2 rfl) ?_
      by_cases c5 : x2 = 3
      · replace h := h.1 c5
        refine lv_tableIn (off := 35) (tgt := 60) hx hb dX7_playerOf_25 (by rw [c5]; decide) (by rw [c5]; decide) (by rw [c5]; rfl) (by decide) ?_
        refine lv_aload_n hx hb dX7_playerOf_60 rfl (lv_at hl 0 rfl) ?_
        refine g_getR (a := x) (k := 0) (o := 1) C hK hX fl_X7_12 rfl rfl dX7_playerOf_61 ?_
        refine g_getR (a := (x + 1)) (k := 0) (o := 1) C hK hG fl_X7_80 rfl rfl dX7_playerOf_64 ?_
        refine g_getR (a := (x + 1)) (k := 1) (o := 3) C hK hG fl_X7_84 rfl rfl dX7_playerOf_67 ?_
        refine lv_iload_n hx hb dX7_playerOf_70 rfl (lv_at hl 1 rfl) ?_
        obtain ⟨b6, h⟩ := h
        refine g_ald (a := (x + 1)) (k := 3) (n := 4) C hK hG rfl b6 dX7_playerOf_71 ?_
        exact g_iret (post := Q) (P' := fun u H => rg G LG (x + 23) u H) (r := (γ 3 x1.toNatClampNeg)) (u := τ) C hr hK hS h hT dX7_playerOf_72
      · replace h := h.2 c5
        by_cases c7 : x2 = 4
        · replace h := h.1 c7
          refine lv_tableIn (off := 48) (tgt := 73) hx hb dX7_playerOf_25 (by rw [c7]; decide) (by rw [c7]; decide) (by rw [c7]; rfl) (by decide) ?_
          refine lv_aload_n hx hb dX7_playerOf_73 rfl (lv_at hl 0 rfl) ?_
          refine g_getR (a := x) (k := 0) (o := 1) C hK hX fl_X7_12 rfl rfl dX7_playerOf_74 ?_
          refine g_getR (a := (x + 1)) (k := 0) (o := 4) C hK hG fl_X7_90 rfl rfl dX7_playerOf_77 ?_
          refine lv_iload_n hx hb dX7_playerOf_80 rfl (lv_at hl 1 rfl) ?_
          refine g_vI C hK hl.1 (m_X2_worksOf l G (x + 1) γ x1 _ h) mw_X2_worksOf mi_X2_worksOf ml_X7_94 rfl ⟨rfl, rfl, Nat.le_of_ble_eq_true rfl, Nat.le_of_ble_eq_true rfl⟩ ⟨Nat.zero_le _, Nat.zero_le _⟩ (g_recv (a := (x + 1)) (k := 4) hK hG rfl rfl) hG hS (fun _ h => h.elim) rfl (Nat.le_of_ble_eq_true rfl) dX7_playerOf_81 (fun r8 u H locs h hu _ hq hS => ?_)
          have hX := hX.past hq (fun _ _ h => h)
          have hG := hG.past hq (fun _ _ h => h)
          have hT := hT.past hq (fun _ _ h => h)
          have hH := hH.past hq (fun _ _ h => h)
          have hZ := hZ.past hq (fun _ _ h => h)
          have hO := hO.past hq (fun _ _ h => h)
          exact g_iret (post := Q) (P' := fun u H => rg G LG (x + 23) u H) (r := r8) (u := τ) C hr hK hS h hT dX7_playerOf_84
        · replace h := h.2 c7
          by_cases c9 : x2 = 5
          · replace h := h.1 c9
            refine lv_tableIn (off := 60) (tgt := 85) hx hb dX7_playerOf_25 (by rw [c9]; decide) (by rw [c9]; decide) (by rw [c9]; rfl) (by decide) ?_
            refine lv_aload_n hx hb dX7_playerOf_85 rfl (lv_at hl 0 rfl) ?_
            refine g_getR (a := x) (k := 0) (o := 1) C hK hX fl_X7_12 rfl rfl dX7_playerOf_86 ?_
            refine g_getR (a := (x + 1)) (k := 0) (o := 4) C hK hG fl_X7_90 rfl rfl dX7_playerOf_89 ?_
            refine lv_iload_n hx hb dX7_playerOf_92 rfl (lv_at hl 1 rfl) ?_
            refine g_vI C hK hl.1 (m_X2_outOf l G (x + 1) γ x1 _ h) mw_X2_outOf mi_X2_outOf ml_X7_99 rfl ⟨rfl, rfl, Nat.le_of_ble_eq_true rfl, Nat.le_of_ble_eq_true rfl⟩ ⟨Nat.zero_le _, Nat.zero_le _⟩ (g_recv (a := (x + 1)) (k := 4) hK hG rfl rfl) hG hS (fun _ h => h.elim) rfl (Nat.le_of_ble_eq_true rfl) dX7_playerOf_93 (fun r10 u H locs h hu _ hq hS => ?_)
            have hX := hX.past hq (fun _ _ h => h)
            have hG := hG.past hq (fun _ _ h => h)
            have hT := hT.past hq (fun _ _ h => h)
            have hH := hH.past hq (fun _ _ h => h)
            have hZ := hZ.past hq (fun _ _ h => h)
            have hO := hO.past hq (fun _ _ h => h)
            exact g_iret (post := Q) (P' := fun u H => rg G LG (x + 23) u H) (r := r10) (u := τ) C hr hK hS h hT dX7_playerOf_96
          · replace h := h.2 c9
            by_cases c11 : x2 = 6
            · replace h := h.1 c11
              refine lv_tableIn (off := 72) (tgt := 97) hx hb dX7_playerOf_25 (by rw [c11]; decide) (by rw [c11]; decide) (by rw [c11]; rfl) (by decide) ?_
              refine lv_aload_n hx hb dX7_playerOf_97 rfl (lv_at hl 0 rfl) ?_
              refine g_getR (a := x) (k := 0) (o := 1) C hK hX fl_X7_12 rfl rfl dX7_playerOf_98 ?_
              refine g_getR (a := (x + 1)) (k := 0) (o := 4) C hK hG fl_X7_90 rfl rfl dX7_playerOf_101 ?_
              refine lv_iload_n hx hb dX7_playerOf_104 rfl (lv_at hl 1 rfl) ?_
              refine g_vI C hK hl.1 (m_X2_waitingOf l G (x + 1) γ x1 _ h) mw_X2_waitingOf mi_X2_waitingOf ml_X7_102 rfl ⟨rfl, rfl, Nat.le_of_ble_eq_true rfl, Nat.le_of_ble_eq_true rfl⟩ ⟨Nat.zero_le _, Nat.zero_le _⟩ (g_recv (a := (x + 1)) (k := 4) hK hG rfl rfl) hG hS (fun _ h => h.elim) rfl (Nat.le_of_ble_eq_true rfl) dX7_playerOf_105 (fun r12 u H locs h hu _ hq hS => ?_)
              have hX := hX.past hq (fun _ _ h => h)
              have hG := hG.past hq (fun _ _ h => h)
              have hT := hT.past hq (fun _ _ h => h)
              have hH := hH.past hq (fun _ _ h => h)
              have hZ := hZ.past hq (fun _ _ h => h)
              have hO := hO.past hq (fun _ _ h => h)
              exact g_iret (post := Q) (P' := fun u H => rg G LG (x + 23) u H) (r := r12) (u := τ) C hr hK hS h hT dX7_playerOf_108
            · replace h := h.2 c11
              by_cases c13 : x2 = 7
              · replace h := h.1 c13
                refine lv_tableIn (off := 84) (tgt := 109) hx hb dX7_playerOf_25 (by rw [c13]; decide) (by rw [c13]; decide) (by rw [c13]; rfl) (by decide) ?_
                refine lv_aload_n hx hb dX7_playerOf_109 rfl (lv_at hl 0 rfl) ?_
                refine g_vV C hK hl.1 (m_X7_startTrial l G x ξ γ τ η σ ο _ h) mw_X7_startTrial mi_X7_startTrial ml_X7_33 rfl ⟨rfl, rfl, Nat.le_of_ble_eq_true rfl, Nat.le_of_ble_eq_true rfl⟩ ⟨Nat.zero_le _, Nat.zero_le _⟩ (g_recv (a := x) (k := 0) hK hX rfl rfl) ⟨hX, hG, hT, hH, hZ, hO⟩ hS (fun _ h => h) rfl (Nat.le_of_ble_eq_true rfl) dX7_playerOf_110 (fun u H locs h hu _ hq hS => ?_)
                obtain ⟨τ15, rfl⟩ : ∃ z, z = u := ⟨_, rfl⟩
                have hT := hu
                have hX := hX.past hq (fun j hj h => by have hj : j < 1 := hj; simp only [RA] at h; omega)
                have hG := hG.past hq (fun j hj h => by have hj : j < 22 := hj; simp only [RA] at h; omega)
                have hH := hH.past hq (fun j hj h => by have hj : j < 1 := hj; simp only [RA] at h; omega)
                have hZ := hZ.past hq (fun j hj h => by have hj : j < 89 := hj; simp only [RA] at h; omega)
                have hO := hO.past hq (fun j hj h => by have hj : j < 3 := hj; simp only [RA] at h; omega)
                refine lv_aload_n hx hb dX7_playerOf_113 rfl (lv_at hl 0 rfl) ?_
                refine g_getR (a := x) (k := 0) (o := 23) C hK hX fl_X7_16 rfl rfl dX7_playerOf_114 ?_
                refine lv_iload_n hx hb dX7_playerOf_117 rfl (lv_at hl 1 rfl) ?_
                refine g_vI C hK hl.1 (m_X1_untilOneIsOut l G (x + 23) τ15 x1 _ h) mw_X1_untilOneIsOut mi_X1_untilOneIsOut ml_X7_105 rfl ⟨rfl, rfl, Nat.le_of_ble_eq_true rfl, Nat.le_of_ble_eq_true rfl⟩ ⟨Nat.zero_le _, Nat.zero_le _⟩ (g_recv (a := (x + 23)) (k := 0) hK hT rfl rfl) hT hS (fun _ h => h) rfl (Nat.le_of_ble_eq_true rfl) dX7_playerOf_118 (fun r16 u H locs h hu _ hq hS => ?_)
                obtain ⟨τ17, rfl⟩ : ∃ z, z = u := ⟨_, rfl⟩
                have hT := hu
                have hX := hX.past hq (fun j hj h => by have hj : j < 1 := hj; simp only [RA] at h; omega)
                have hG := hG.past hq (fun j hj h => by have hj : j < 22 := hj; simp only [RA] at h; omega)
                have hH := hH.past hq (fun j hj h => by have hj : j < 1 := hj; simp only [RA] at h; omega)
                have hZ := hZ.past hq (fun j hj h => by have hj : j < 89 := hj; simp only [RA] at h; omega)
                have hO := hO.past hq (fun j hj h => by have hj : j < 3 := hj; simp only [RA] at h; omega)
                exact g_iret (post := Q) (P' := fun u H => rg G LG (x + 23) u H) (r := r16) (u := τ17) C hr hK hS h hT dX7_playerOf_121
              · replace h := h.2 c13
                have hne := And.intro trivial (And.intro trivial trivial)
                have c5i := lv_neT c5 (by rfl : (3 : Int32).toInt = 3)
                have c7i := lv_neT c7 (by rfl : (4 : Int32).toInt = 4)
                have c9i := lv_neT c9 (by rfl : (5 : Int32).toInt = 5)
                have c11i := lv_neT c11 (by rfl : (6 : Int32).toInt = 6)
                have c13i := lv_neT c13 (by rfl : (7 : Int32).toInt = 7)
                refine lv_tableOut (tgt := 122) hx hb dX7_playerOf_25 (by omega) (by decide) ?_
                refine lv_aload_n hx hb dX7_playerOf_122 rfl (lv_at hl 0 rfl) ?_
                refine g_getR (a := x) (k := 0) (o := 1) C hK hX fl_X7_12 rfl rfl dX7_playerOf_123 ?_
                refine g_getR (a := (x + 1)) (k := 0) (o := 1) C hK hG fl_X7_80 rfl rfl dX7_playerOf_126 ?_
                refine lv_iload_n hx hb dX7_playerOf_129 rfl (lv_at hl 1 rfl) ?_
                refine lv_iload_n hx hb dX7_playerOf_130 rfl (lv_at hl 2 rfl) ?_
                refine g_vI C hK hl.1 (m_X5_amountOf l G (x + 1) γ x1 x2 _ h) mw_X5_amountOf mi_X5_amountOf ml_X7_108 rfl ⟨rfl, rfl, Nat.le_of_ble_eq_true rfl, Nat.le_of_ble_eq_true rfl⟩ ⟨Nat.zero_le _, Nat.zero_le _⟩ (g_recv (a := (x + 1)) (k := 1) hK hG rfl rfl) hG hS (fun _ h => h.elim) rfl (Nat.le_of_ble_eq_true rfl) dX7_playerOf_131 (fun r18 u H locs h hu _ hq hS => ?_)
                have hX := hX.past hq (fun _ _ h => h)
                have hG := hG.past hq (fun _ _ h => h)
                have hT := hT.past hq (fun _ _ h => h)
                have hH := hH.past hq (fun _ _ h => h)
                have hZ := hZ.past hq (fun _ _ h => h)
                have hO := hO.past hq (fun _ _ h => h)
                exact g_iret (post := Q) (P' := fun u H => rg G LG (x + 23) u H) (r := r18) (u := τ) C hr hK hS h hT dX7_playerOf_134
    · replace h := h.2 c4
      refine g_ldc C kc_X7_79 dX7_playerOf_21 ?_
      exact g_iret (post := Q) (P' := fun u H => rg G LG (x + 23) u H) (r := (-1000001)) (u := τ) C hr hK hS h hT dX7_playerOf_23
theorem dX7_workerOf_0 : decode cX7_workerOf 0 = .ok (.aload_n 0, 1) := by decide +kernel
theorem dX7_workerOf_1 : decode cX7_workerOf 1 = .ok (.getfield 12, 3) := by decide +kernel
theorem dX7_workerOf_4 : decode cX7_workerOf 4 = .ok (.iload_n 1, 1) := by decide +kernel
theorem dX7_workerOf_5 : decode cX7_workerOf 5 = .ok (.iload_n 2, 1) := by decide +kernel
theorem dX7_workerOf_6 : decode cX7_workerOf 6 = .ok (.invokevirtual 111, 3) := by decide +kernel
theorem dX7_workerOf_9 : decode cX7_workerOf 9 = .ok (.ifCond .eq 12, 3) := by decide +kernel
theorem dX7_workerOf_12 : decode cX7_workerOf 12 = .ok (.iload_n 3, 1) := by decide +kernel
theorem dX7_workerOf_13 : decode cX7_workerOf 13 = .ok (.iconst 0, 1) := by decide +kernel
theorem dX7_workerOf_14 : decode cX7_workerOf 14 = .ok (.iconst 5, 1) := by decide +kernel
theorem dX7_workerOf_15 : decode cX7_workerOf 15 = .ok (.invokestatic 75, 3) := by decide +kernel
theorem dX7_workerOf_18 : decode cX7_workerOf 18 = .ok (.ifCond .ne 6, 3) := by decide +kernel
theorem dX7_workerOf_21 : decode cX7_workerOf 21 = .ok (.ldc 79, 2) := by decide +kernel
theorem dX7_workerOf_23 : decode cX7_workerOf 23 = .ok (.ireturn, 1) := by decide +kernel
theorem dX7_workerOf_24 : decode cX7_workerOf 24 = .ok (.iload_n 1, 1) := by decide +kernel
theorem dX7_workerOf_25 : decode cX7_workerOf 25 = .ok (.iload_n 2, 1) := by decide +kernel
theorem dX7_workerOf_26 : decode cX7_workerOf 26 = .ok (.invokestatic 115, 3) := by decide +kernel
theorem dX7_workerOf_29 : decode cX7_workerOf 29 = .ok (.istore 4, 2) := by decide +kernel
theorem dX7_workerOf_31 : decode cX7_workerOf 31 = .ok (.aload_n 0, 1) := by decide +kernel
theorem dX7_workerOf_32 : decode cX7_workerOf 32 = .ok (.getfield 12, 3) := by decide +kernel
theorem dX7_workerOf_35 : decode cX7_workerOf 35 = .ok (.getfield 90, 3) := by decide +kernel
theorem dX7_workerOf_38 : decode cX7_workerOf 38 = .ok (.astore 5, 2) := by decide +kernel
theorem dX7_workerOf_40 : decode cX7_workerOf 40 = .ok (.iload_n 3, 1) := by decide +kernel
theorem dX7_workerOf_41 : decode cX7_workerOf 41 = .ok (.tableswitch 97 0 4 #[35, 44, 70, 79, 88], 35) := by decide +kernel
theorem dX7_workerOf_76 : decode cX7_workerOf 76 = .ok (.aload 5, 2) := by decide +kernel
theorem dX7_workerOf_78 : decode cX7_workerOf 78 = .ok (.getfield 118, 3) := by decide +kernel
theorem dX7_workerOf_81 : decode cX7_workerOf 81 = .ok (.iload 4, 2) := by decide +kernel
theorem dX7_workerOf_83 : decode cX7_workerOf 83 = .ok (.iaload, 1) := by decide +kernel
theorem dX7_workerOf_84 : decode cX7_workerOf 84 = .ok (.ireturn, 1) := by decide +kernel
theorem dX7_workerOf_85 : decode cX7_workerOf 85 = .ok (.aload 5, 2) := by decide +kernel
theorem dX7_workerOf_87 : decode cX7_workerOf 87 = .ok (.getfield 121, 3) := by decide +kernel
theorem dX7_workerOf_90 : decode cX7_workerOf 90 = .ok (.iload 4, 2) := by decide +kernel
theorem dX7_workerOf_92 : decode cX7_workerOf 92 = .ok (.iaload, 1) := by decide +kernel
theorem dX7_workerOf_93 : decode cX7_workerOf 93 = .ok (.iconst (-1), 1) := by decide +kernel
theorem dX7_workerOf_94 : decode cX7_workerOf 94 = .ok (.if_icmp .ne 8, 3) := by decide +kernel
theorem dX7_workerOf_97 : decode cX7_workerOf 97 = .ok (.ldc 124, 2) := by decide +kernel
theorem dX7_workerOf_99 : decode cX7_workerOf 99 = .ok (.goto 11, 3) := by decide +kernel
theorem dX7_workerOf_102 : decode cX7_workerOf 102 = .ok (.aload 5, 2) := by decide +kernel
theorem dX7_workerOf_104 : decode cX7_workerOf 104 = .ok (.getfield 121, 3) := by decide +kernel
theorem dX7_workerOf_107 : decode cX7_workerOf 107 = .ok (.iload 4, 2) := by decide +kernel
theorem dX7_workerOf_109 : decode cX7_workerOf 109 = .ok (.iaload, 1) := by decide +kernel
theorem dX7_workerOf_110 : decode cX7_workerOf 110 = .ok (.ireturn, 1) := by decide +kernel
theorem dX7_workerOf_111 : decode cX7_workerOf 111 = .ok (.aload 5, 2) := by decide +kernel
theorem dX7_workerOf_113 : decode cX7_workerOf 113 = .ok (.getfield 125, 3) := by decide +kernel
theorem dX7_workerOf_116 : decode cX7_workerOf 116 = .ok (.iload 4, 2) := by decide +kernel
theorem dX7_workerOf_118 : decode cX7_workerOf 118 = .ok (.iaload, 1) := by decide +kernel
theorem dX7_workerOf_119 : decode cX7_workerOf 119 = .ok (.ireturn, 1) := by decide +kernel
theorem dX7_workerOf_120 : decode cX7_workerOf 120 = .ok (.aload 5, 2) := by decide +kernel
theorem dX7_workerOf_122 : decode cX7_workerOf 122 = .ok (.getfield 128, 3) := by decide +kernel
theorem dX7_workerOf_125 : decode cX7_workerOf 125 = .ok (.iload 4, 2) := by decide +kernel
theorem dX7_workerOf_127 : decode cX7_workerOf 127 = .ok (.iaload, 1) := by decide +kernel
theorem dX7_workerOf_128 : decode cX7_workerOf 128 = .ok (.ireturn, 1) := by decide +kernel
theorem dX7_workerOf_129 : decode cX7_workerOf 129 = .ok (.aload 5, 2) := by decide +kernel
theorem dX7_workerOf_131 : decode cX7_workerOf 131 = .ok (.getfield 131, 3) := by decide +kernel
theorem dX7_workerOf_134 : decode cX7_workerOf 134 = .ok (.iload 4, 2) := by decide +kernel
theorem dX7_workerOf_136 : decode cX7_workerOf 136 = .ok (.iaload, 1) := by decide +kernel
theorem dX7_workerOf_137 : decode cX7_workerOf 137 = .ok (.ireturn, 1) := by decide +kernel
theorem dX7_workerOf_138 : decode cX7_workerOf 138 = .ok (.aload 5, 2) := by decide +kernel
theorem dX7_workerOf_140 : decode cX7_workerOf 140 = .ok (.getfield 134, 3) := by decide +kernel
theorem dX7_workerOf_143 : decode cX7_workerOf 143 = .ok (.iload 4, 2) := by decide +kernel
theorem dX7_workerOf_145 : decode cX7_workerOf 145 = .ok (.iaload, 1) := by decide +kernel
theorem dX7_workerOf_146 : decode cX7_workerOf 146 = .ok (.ireturn, 1) := by decide +kernel
def vc_X7_workerOf (Q : Int32 → Prop) (ξ : Mem) (γ : Mem) (τ : Mem) (η : Mem) (σ : (Nat → Mem)) (ο : Mem) (x1 : Int32) (x2 : Int32) (x3 : Int32) : Prop :=
  vc_X1_hasWorker (fun r1 => ((r1 = 0) → (Q (-1000001) )) ∧ ((¬ r1 = 0) → (vc_X7_within (fun r3 => ((¬ r3 = 0) → (vc_X7_glassOf (fun r5 => ((x3 = 0) → (vp_in r5 12 ∧ (Q (γ 5 r5.toNatClampNeg) ))) ∧ ((¬ x3 = 0) → (((x3 = 1) → (vp_in r5 12 ∧ (((¬ (γ 6 r5.toNatClampNeg) = (-1)) → ((Q (γ 6 r5.toNatClampNeg) ))) ∧ (((γ 6 r5.toNatClampNeg) = (-1)) → (Q (-1000004) ))))) ∧ ((¬ x3 = 1) → (((x3 = 2) → (vp_in r5 12 ∧ (Q (γ 7 r5.toNatClampNeg) ))) ∧ ((¬ x3 = 2) → (((x3 = 3) → (vp_in r5 12 ∧ (Q (γ 9 r5.toNatClampNeg) ))) ∧ ((¬ x3 = 3) → (((x3 = 4) → (vp_in r5 12 ∧ (Q (γ 10 r5.toNatClampNeg) ))) ∧ ((¬ x3 = 4) → (vp_in r5 12 ∧ (Q (γ 11 r5.toNatClampNeg) )))))))))))) x1 x2)) ∧ ((r3 = 0) → (Q (-1000001) ))) x3 0 5))) γ x1 x2
set_option maxHeartbeats 8000000 in
set_option maxRecDepth 100000 in
theorem m_X7_workerOf (l : Launch) (G : GG) (x : Nat) (ξ : Mem) (γ : Mem) (τ : Mem) (η : Mem) (σ : (Nat → Mem)) (ο : Mem) (x1 : Int32) (x2 : Int32) (x3 : Int32) (Q : Int32 → Prop) (h : vc_X7_workerOf Q ξ γ τ η σ ο x1 x2 x3) : CtI l yX7_workerOf cX7_workerOf 6 (some .int) { frames := 3, cells := 0, slots := 0, locals := 65 } [.ref (x + 0), .int x1, .int x2, .int x3] G (fun H => rg G LX x ξ H ∧ rg G LG (x + 1) γ H ∧ rg G LG (x + 23) τ H ∧ rg G LH (x + 45) η H ∧ HG G (x + 46) σ H ∧ rg G LO (x + 135) ο H) (fun r (_ : Unit) => Q r) (fun _ _ => True) (fun _ => False) := by
  unfold CtI
  refine met_start (y := yX7_workerOf) (maxL := 6) (av := [.ref (x + 0), .int x1, .int x2, .int x3]) (G := G) (P := fun H => rg G LX x ξ H ∧ rg G LG (x + 1) γ H ∧ rg G LG (x + 23) τ H ∧ rg G LH (x + 45) η H ∧ HG G (x + 46) σ H ∧ rg G LO (x + 135) ο H) (by decide) rfl (Nat.le_of_ble_eq_true rfl) (fun p e s m below meth c ls C hr hP hK hl => ?_)
  obtain ⟨hx, hb, hml, hown, hts, hlocks⟩ := id C
  obtain ⟨hX, hG, hT, hH, hZ, hO⟩ := hP
  have hS : va_S (fun _ => False) s.heap s.heap [] := va_S.rf
  have hl : lv_has ls 6 [(0, .ref (x + 0)), (1, .int x1), (2, .int x2), (3, .int x3)] := hl
  unfold vc_X7_workerOf at h
  refine lv_aload_n hx hb dX7_workerOf_0 rfl (lv_at hl 0 rfl) ?_
  refine g_getR (a := x) (k := 0) (o := 1) C hK hX fl_X7_12 rfl rfl dX7_workerOf_1 ?_
  refine lv_iload_n hx hb dX7_workerOf_4 rfl (lv_at hl 1 rfl) ?_
  refine lv_iload_n hx hb dX7_workerOf_5 rfl (lv_at hl 2 rfl) ?_
  refine g_vI C hK hl.1 (m_X1_hasWorker l G (x + 1) γ x1 x2 _ h) mw_X1_hasWorker mi_X1_hasWorker ml_X7_111 rfl ⟨rfl, rfl, Nat.le_of_ble_eq_true rfl, Nat.le_of_ble_eq_true rfl⟩ ⟨Nat.zero_le _, Nat.zero_le _⟩ (g_recv (a := (x + 1)) (k := 0) hK hG rfl rfl) hG hS (fun _ h => h.elim) rfl (Nat.le_of_ble_eq_true rfl) dX7_workerOf_6 (fun r1 u H locs h hu _ hq hS => ?_)
  have hX := hX.past hq (fun _ _ h => h)
  have hG := hG.past hq (fun _ _ h => h)
  have hT := hT.past hq (fun _ _ h => h)
  have hH := hH.past hq (fun _ _ h => h)
  have hZ := hZ.past hq (fun _ _ h => h)
  have hO := hO.past hq (fun _ _ h => h)
  refine lv_if_eq (tgt := 21) hx hb dX7_workerOf_9 (by decide) (fun c2 => ?_) (fun c2 => ?_)
  · replace h := h.1 c2
    refine g_ldc C kc_X7_79 dX7_workerOf_21 ?_
    exact g_iret (post := fun r (_ : Unit) => Q r) (P' := fun _ _ => True) (r := (-1000001)) (u := ()) C hr hK hS h trivial dX7_workerOf_23
  · replace h := h.2 c2
    refine lv_iload_n hx hb dX7_workerOf_12 rfl (lv_at hl 3 rfl) ?_
    refine lv_iconst (v := 0) hx hb dX7_workerOf_13 (by decide) ?_
    refine lv_iconst (v := 5) hx hb dX7_workerOf_14 (by decide) ?_
    refine g_sI C hK hl.1 (m_X7_within l G x3 0 5 _ h) mw_X7_within ms_X7_within ml_X7_75 rfl ⟨rfl, rfl, Nat.le_of_ble_eq_true rfl, Nat.le_of_ble_eq_true rfl⟩ ⟨Nat.zero_le _, Nat.zero_le _⟩ trivial hS (fun _ h => h.elim) rfl (Nat.le_of_ble_eq_true rfl) dX7_workerOf_15 (fun r3 u H locs h hu _ hq hS => ?_)
    have hX := hX.past hq (fun _ _ h => h)
    have hG := hG.past hq (fun _ _ h => h)
    have hT := hT.past hq (fun _ _ h => h)
    have hH := hH.past hq (fun _ _ h => h)
    have hZ := hZ.past hq (fun _ _ h => h)
    have hO := hO.past hq (fun _ _ h => h)
    refine lv_if_ne (tgt := 24) hx hb dX7_workerOf_18 (by decide) (fun c4 => ?_) (fun c4 => ?_)
    · replace h := h.1 c4
      refine lv_iload_n hx hb dX7_workerOf_24 rfl (lv_at hl 1 rfl) ?_
      refine lv_iload_n hx hb dX7_workerOf_25 rfl (lv_at hl 2 rfl) ?_
      refine g_sI C hK hl.1 (m_X7_glassOf l G x1 x2 _ h) mw_X7_glassOf ms_X7_glassOf ml_X7_115 rfl ⟨rfl, rfl, Nat.le_of_ble_eq_true rfl, Nat.le_of_ble_eq_true rfl⟩ ⟨Nat.zero_le _, Nat.zero_le _⟩ trivial hS (fun _ h => h.elim) rfl (Nat.le_of_ble_eq_true rfl) dX7_workerOf_26 (fun r5 u H locs h hu _ hq hS => ?_)
      have hX := hX.past hq (fun _ _ h => h)
      have hG := hG.past hq (fun _ _ h => h)
      have hT := hT.past hq (fun _ _ h => h)
      have hH := hH.past hq (fun _ _ h => h)
      have hZ := hZ.past hq (fun _ _ h => h)
      have hO := hO.past hq (fun _ _ h => h)
      refine lv_istore (lv' := [(4, .int r5), (0, .ref (x + 0)), (1, .int x1), (2, .int x2), (3, .int x3)]) hx hb dX7_workerOf_29 hl (by decide) rfl (fun ls hl => ?_)
      refine lv_aload_n hx hb dX7_workerOf_31 rfl (lv_at hl 1 rfl) ?_
      refine g_getR (a := x) (k := 0) (o := 1) C hK hX fl_X7_12 rfl rfl dX7_workerOf_32 ?_
      refine g_getR (a := (x + 1)) (k := 0) (o := 4) C hK hG fl_X7_90 rfl rfl dX7_workerOf_35 ?_
      refine lv_astore (lv' := [(5, .ref ((x + 1) + 4)), (4, .int r5), (0, .ref (x + 0)), (1, .int x1), (2, .int x2), (3, .int x3)]) hx hb dX7_workerOf_38 hl (by decide) rfl (fun ls hl => ?_)
      refine lv_iload_n hx hb dX7_workerOf_40 rfl (lv_at hl 5 rfl) ?_
      by_cases c6 : x3 = 0
      · replace h := h.1 c6
        refine lv_tableIn (off := 35) (tgt := 76) hx hb dX7_workerOf_41 (by rw [c6]; decide) (by rw [c6]; decide) (by rw [c6]; rfl) (by decide) ?_
        refine lv_aload hx hb dX7_workerOf_76 (lv_at hl 0 rfl) ?_
        refine g_getR (a := (x + 1)) (k := 4) (o := 5) C hK hG fl_X7_118 rfl rfl dX7_workerOf_78 ?_
        refine lv_iload hx hb dX7_workerOf_81 (lv_at hl 1 rfl) ?_
        obtain ⟨b7, h⟩ := h
        refine g_ald (a := (x + 1)) (k := 5) (n := 12) C hK hG rfl b7 dX7_workerOf_83 ?_
        exact g_iret (post := fun r (_ : Unit) => Q r) (P' := fun _ _ => True) (r := (γ 5 r5.toNatClampNeg)) (u := ()) C hr hK hS h trivial dX7_workerOf_84
      · replace h := h.2 c6
        by_cases c8 : x3 = 1
        · replace h := h.1 c8
          refine lv_tableIn (off := 44) (tgt := 85) hx hb dX7_workerOf_41 (by rw [c8]; decide) (by rw [c8]; decide) (by rw [c8]; rfl) (by decide) ?_
          refine lv_aload hx hb dX7_workerOf_85 (lv_at hl 0 rfl) ?_
          refine g_getR (a := (x + 1)) (k := 4) (o := 6) C hK hG fl_X7_121 rfl rfl dX7_workerOf_87 ?_
          refine lv_iload hx hb dX7_workerOf_90 (lv_at hl 1 rfl) ?_
          obtain ⟨b9, h⟩ := h
          refine g_ald (a := (x + 1)) (k := 6) (n := 12) C hK hG rfl b9 dX7_workerOf_92 ?_
          refine lv_iconst (v := (-1)) hx hb dX7_workerOf_93 (by decide) ?_
          refine lv_icmp_ne (tgt := 102) hx hb dX7_workerOf_94 (by decide) (fun c10 => ?_) (fun c10 => ?_)
          · replace h := h.1 c10
            refine lv_aload hx hb dX7_workerOf_102 (lv_at hl 0 rfl) ?_
            refine g_getR (a := (x + 1)) (k := 4) (o := 6) C hK hG fl_X7_121 rfl rfl dX7_workerOf_104 ?_
            refine lv_iload hx hb dX7_workerOf_107 (lv_at hl 1 rfl) ?_
            refine g_ald (a := (x + 1)) (k := 6) (n := 12) C hK hG rfl b9 dX7_workerOf_109 ?_
            exact g_iret (post := fun r (_ : Unit) => Q r) (P' := fun _ _ => True) (r := (γ 6 r5.toNatClampNeg)) (u := ()) C hr hK hS h trivial dX7_workerOf_110
          · replace h := h.2 c10
            refine g_ldc C kc_X7_124 dX7_workerOf_97 ?_
            refine lv_goto (tgt := 110) hx hb dX7_workerOf_99 (by decide) ?_
            exact g_iret (post := fun r (_ : Unit) => Q r) (P' := fun _ _ => True) (r := (-1000004)) (u := ()) C hr hK hS h trivial dX7_workerOf_110
        · replace h := h.2 c8
          by_cases c11 : x3 = 2
          · replace h := h.1 c11
            refine lv_tableIn (off := 70) (tgt := 111) hx hb dX7_workerOf_41 (by rw [c11]; decide) (by rw [c11]; decide) (by rw [c11]; rfl) (by decide) ?_
            refine lv_aload hx hb dX7_workerOf_111 (lv_at hl 0 rfl) ?_
            refine g_getR (a := (x + 1)) (k := 4) (o := 7) C hK hG fl_X7_125 rfl rfl dX7_workerOf_113 ?_
            refine lv_iload hx hb dX7_workerOf_116 (lv_at hl 1 rfl) ?_
            obtain ⟨b12, h⟩ := h
            refine g_ald (a := (x + 1)) (k := 7) (n := 12) C hK hG rfl b12 dX7_workerOf_118 ?_
            exact g_iret (post := fun r (_ : Unit) => Q r) (P' := fun _ _ => True) (r := (γ 7 r5.toNatClampNeg)) (u := ()) C hr hK hS h trivial dX7_workerOf_119
          · replace h := h.2 c11
            by_cases c13 : x3 = 3
            · replace h := h.1 c13
              refine lv_tableIn (off := 79) (tgt := 120) hx hb dX7_workerOf_41 (by rw [c13]; decide) (by rw [c13]; decide) (by rw [c13]; rfl) (by decide) ?_
              refine lv_aload hx hb dX7_workerOf_120 (lv_at hl 0 rfl) ?_
              refine g_getR (a := (x + 1)) (k := 4) (o := 9) C hK hG fl_X7_128 rfl rfl dX7_workerOf_122 ?_
              refine lv_iload hx hb dX7_workerOf_125 (lv_at hl 1 rfl) ?_
              obtain ⟨b14, h⟩ := h
              refine g_ald (a := (x + 1)) (k := 9) (n := 12) C hK hG rfl b14 dX7_workerOf_127 ?_
              exact g_iret (post := fun r (_ : Unit) => Q r) (P' := fun _ _ => True) (r := (γ 9 r5.toNatClampNeg)) (u := ()) C hr hK hS h trivial dX7_workerOf_128
            · replace h := h.2 c13
              by_cases c15 : x3 = 4
              · replace h := h.1 c15
                refine lv_tableIn (off := 88) (tgt := 129) hx hb dX7_workerOf_41 (by rw [c15]; decide) (by rw [c15]; decide) (by rw [c15]; rfl) (by decide) ?_
                refine lv_aload hx hb dX7_workerOf_129 (lv_at hl 0 rfl) ?_
                refine g_getR (a := (x + 1)) (k := 4) (o := 10) C hK hG fl_X7_131 rfl rfl dX7_workerOf_131 ?_
                refine lv_iload hx hb dX7_workerOf_134 (lv_at hl 1 rfl) ?_
                obtain ⟨b16, h⟩ := h
                refine g_ald (a := (x + 1)) (k := 10) (n := 12) C hK hG rfl b16 dX7_workerOf_136 ?_
                exact g_iret (post := fun r (_ : Unit) => Q r) (P' := fun _ _ => True) (r := (γ 10 r5.toNatClampNeg)) (u := ()) C hr hK hS h trivial dX7_workerOf_137
              · replace h := h.2 c15
                have hne := And.intro trivial (And.intro trivial trivial)
                have c6i := lv_neT c6 (by rfl : (0 : Int32).toInt = 0)
                have c8i := lv_neT c8 (by rfl : (1 : Int32).toInt = 1)
                have c11i := lv_neT c11 (by rfl : (2 : Int32).toInt = 2)
                have c13i := lv_neT c13 (by rfl : (3 : Int32).toInt = 3)
                have c15i := lv_neT c15 (by rfl : (4 : Int32).toInt = 4)
                refine lv_tableOut (tgt := 138) hx hb dX7_workerOf_41 (by omega) (by decide) ?_
                refine lv_aload hx hb dX7_workerOf_138 (lv_at hl 0 rfl) ?_
                refine g_getR (a := (x + 1)) (k := 4) (o := 11) C hK hG fl_X7_134 rfl rfl dX7_workerOf_140 ?_
                refine lv_iload hx hb dX7_workerOf_143 (lv_at hl 1 rfl) ?_
                obtain ⟨b17, h⟩ := h
                refine g_ald (a := (x + 1)) (k := 11) (n := 12) C hK hG rfl b17 dX7_workerOf_145 ?_
                exact g_iret (post := fun r (_ : Unit) => Q r) (P' := fun _ _ => True) (r := (γ 11 r5.toNatClampNeg)) (u := ()) C hr hK hS h trivial dX7_workerOf_146
    · replace h := h.2 c4
      refine g_ldc C kc_X7_79 dX7_workerOf_21 ?_
      exact g_iret (post := fun r (_ : Unit) => Q r) (P' := fun _ _ => True) (r := (-1000001)) (u := ()) C hr hK hS h trivial dX7_workerOf_23
theorem dX7_taskOf_0 : decode cX7_taskOf 0 = .ok (.aload_n 0, 1) := by decide +kernel
theorem dX7_taskOf_1 : decode cX7_taskOf 1 = .ok (.getfield 12, 3) := by decide +kernel
theorem dX7_taskOf_4 : decode cX7_taskOf 4 = .ok (.iload_n 1, 1) := by decide +kernel
theorem dX7_taskOf_5 : decode cX7_taskOf 5 = .ok (.invokevirtual 137, 3) := by decide +kernel
theorem dX7_taskOf_8 : decode cX7_taskOf 8 = .ok (.ifCond .eq 12, 3) := by decide +kernel
theorem dX7_taskOf_11 : decode cX7_taskOf 11 = .ok (.iload_n 2, 1) := by decide +kernel
theorem dX7_taskOf_12 : decode cX7_taskOf 12 = .ok (.iconst 0, 1) := by decide +kernel
theorem dX7_taskOf_13 : decode cX7_taskOf 13 = .ok (.iconst 5, 1) := by decide +kernel
theorem dX7_taskOf_14 : decode cX7_taskOf 14 = .ok (.invokestatic 75, 3) := by decide +kernel
theorem dX7_taskOf_17 : decode cX7_taskOf 17 = .ok (.ifCond .ne 6, 3) := by decide +kernel
theorem dX7_taskOf_20 : decode cX7_taskOf 20 = .ok (.ldc 79, 2) := by decide +kernel
theorem dX7_taskOf_22 : decode cX7_taskOf 22 = .ok (.ireturn, 1) := by decide +kernel
theorem dX7_taskOf_23 : decode cX7_taskOf 23 = .ok (.iload_n 2, 1) := by decide +kernel
theorem dX7_taskOf_24 : decode cX7_taskOf 24 = .ok (.tableswitch 97 0 4 #[36, 49, 62, 75, 88], 36) := by decide +kernel
theorem dX7_taskOf_60 : decode cX7_taskOf 60 = .ok (.aload_n 0, 1) := by decide +kernel
theorem dX7_taskOf_61 : decode cX7_taskOf 61 = .ok (.getfield 12, 3) := by decide +kernel
theorem dX7_taskOf_64 : decode cX7_taskOf 64 = .ok (.getfield 140, 3) := by decide +kernel
theorem dX7_taskOf_67 : decode cX7_taskOf 67 = .ok (.getfield 144, 3) := by decide +kernel
theorem dX7_taskOf_70 : decode cX7_taskOf 70 = .ok (.iload_n 1, 1) := by decide +kernel
theorem dX7_taskOf_71 : decode cX7_taskOf 71 = .ok (.iaload, 1) := by decide +kernel
theorem dX7_taskOf_72 : decode cX7_taskOf 72 = .ok (.ireturn, 1) := by decide +kernel
theorem dX7_taskOf_73 : decode cX7_taskOf 73 = .ok (.aload_n 0, 1) := by decide +kernel
theorem dX7_taskOf_74 : decode cX7_taskOf 74 = .ok (.getfield 12, 3) := by decide +kernel
theorem dX7_taskOf_77 : decode cX7_taskOf 77 = .ok (.getfield 140, 3) := by decide +kernel
theorem dX7_taskOf_80 : decode cX7_taskOf 80 = .ok (.getfield 149, 3) := by decide +kernel
theorem dX7_taskOf_83 : decode cX7_taskOf 83 = .ok (.iload_n 1, 1) := by decide +kernel
theorem dX7_taskOf_84 : decode cX7_taskOf 84 = .ok (.iaload, 1) := by decide +kernel
theorem dX7_taskOf_85 : decode cX7_taskOf 85 = .ok (.ireturn, 1) := by decide +kernel
theorem dX7_taskOf_86 : decode cX7_taskOf 86 = .ok (.aload_n 0, 1) := by decide +kernel
theorem dX7_taskOf_87 : decode cX7_taskOf 87 = .ok (.getfield 12, 3) := by decide +kernel
theorem dX7_taskOf_90 : decode cX7_taskOf 90 = .ok (.getfield 140, 3) := by decide +kernel
theorem dX7_taskOf_93 : decode cX7_taskOf 93 = .ok (.getfield 152, 3) := by decide +kernel
theorem dX7_taskOf_96 : decode cX7_taskOf 96 = .ok (.iload_n 1, 1) := by decide +kernel
theorem dX7_taskOf_97 : decode cX7_taskOf 97 = .ok (.iaload, 1) := by decide +kernel
theorem dX7_taskOf_98 : decode cX7_taskOf 98 = .ok (.ireturn, 1) := by decide +kernel
theorem dX7_taskOf_99 : decode cX7_taskOf 99 = .ok (.aload_n 0, 1) := by decide +kernel
theorem dX7_taskOf_100 : decode cX7_taskOf 100 = .ok (.getfield 12, 3) := by decide +kernel
theorem dX7_taskOf_103 : decode cX7_taskOf 103 = .ok (.getfield 140, 3) := by decide +kernel
theorem dX7_taskOf_106 : decode cX7_taskOf 106 = .ok (.getfield 155, 3) := by decide +kernel
theorem dX7_taskOf_109 : decode cX7_taskOf 109 = .ok (.iload_n 1, 1) := by decide +kernel
theorem dX7_taskOf_110 : decode cX7_taskOf 110 = .ok (.iaload, 1) := by decide +kernel
theorem dX7_taskOf_111 : decode cX7_taskOf 111 = .ok (.ireturn, 1) := by decide +kernel
theorem dX7_taskOf_112 : decode cX7_taskOf 112 = .ok (.aload_n 0, 1) := by decide +kernel
theorem dX7_taskOf_113 : decode cX7_taskOf 113 = .ok (.getfield 12, 3) := by decide +kernel
theorem dX7_taskOf_116 : decode cX7_taskOf 116 = .ok (.iload_n 1, 1) := by decide +kernel
theorem dX7_taskOf_117 : decode cX7_taskOf 117 = .ok (.invokevirtual 158, 3) := by decide +kernel
theorem dX7_taskOf_120 : decode cX7_taskOf 120 = .ok (.ireturn, 1) := by decide +kernel
theorem dX7_taskOf_121 : decode cX7_taskOf 121 = .ok (.aload_n 0, 1) := by decide +kernel
theorem dX7_taskOf_122 : decode cX7_taskOf 122 = .ok (.getfield 12, 3) := by decide +kernel
theorem dX7_taskOf_125 : decode cX7_taskOf 125 = .ok (.getfield 140, 3) := by decide +kernel
theorem dX7_taskOf_128 : decode cX7_taskOf 128 = .ok (.getfield 161, 3) := by decide +kernel
theorem dX7_taskOf_131 : decode cX7_taskOf 131 = .ok (.iload_n 1, 1) := by decide +kernel
theorem dX7_taskOf_132 : decode cX7_taskOf 132 = .ok (.iaload, 1) := by decide +kernel
theorem dX7_taskOf_133 : decode cX7_taskOf 133 = .ok (.ireturn, 1) := by decide +kernel
def vc_X7_taskOf (Q : Int32 → Prop) (ξ : Mem) (γ : Mem) (τ : Mem) (η : Mem) (σ : (Nat → Mem)) (ο : Mem) (x1 : Int32) (x2 : Int32) : Prop :=
  vc_X1_hasTask (fun r1 => ((r1 = 0) → (Q (-1000001) )) ∧ ((¬ r1 = 0) → (vc_X7_within (fun r3 => ((¬ r3 = 0) → (((x2 = 0) → (vp_in x1 8 ∧ (Q (γ 13 x1.toNatClampNeg) ))) ∧ ((¬ x2 = 0) → (((x2 = 1) → (vp_in x1 8 ∧ (Q (γ 14 x1.toNatClampNeg) ))) ∧ ((¬ x2 = 1) → (((x2 = 2) → (vp_in x1 8 ∧ (Q (γ 15 x1.toNatClampNeg) ))) ∧ ((¬ x2 = 2) → (((x2 = 3) → (vp_in x1 8 ∧ (Q (γ 16 x1.toNatClampNeg) ))) ∧ ((¬ x2 = 3) → (((x2 = 4) → (vc_X1_placesLeft (fun r14 => Q r14 ) γ x1)) ∧ ((¬ x2 = 4) → (vp_in x1 8 ∧ (Q (γ 17 x1.toNatClampNeg) ))))))))))))) ∧ ((r3 = 0) → (Q (-1000001) ))) x2 0 5))) γ x1
set_option maxHeartbeats 8000000 in
set_option maxRecDepth 100000 in
theorem m_X7_taskOf (l : Launch) (G : GG) (x : Nat) (ξ : Mem) (γ : Mem) (τ : Mem) (η : Mem) (σ : (Nat → Mem)) (ο : Mem) (x1 : Int32) (x2 : Int32) (Q : Int32 → Prop) (h : vc_X7_taskOf Q ξ γ τ η σ ο x1 x2) : CtI l yX7_taskOf cX7_taskOf 3 (some .int) { frames := 2, cells := 0, slots := 0, locals := 44 } [.ref (x + 0), .int x1, .int x2] G (fun H => rg G LX x ξ H ∧ rg G LG (x + 1) γ H ∧ rg G LG (x + 23) τ H ∧ rg G LH (x + 45) η H ∧ HG G (x + 46) σ H ∧ rg G LO (x + 135) ο H) (fun r (_ : Unit) => Q r) (fun _ _ => True) (fun _ => False) := by
  unfold CtI
  refine met_start (y := yX7_taskOf) (maxL := 3) (av := [.ref (x + 0), .int x1, .int x2]) (G := G) (P := fun H => rg G LX x ξ H ∧ rg G LG (x + 1) γ H ∧ rg G LG (x + 23) τ H ∧ rg G LH (x + 45) η H ∧ HG G (x + 46) σ H ∧ rg G LO (x + 135) ο H) (by decide) rfl (Nat.le_of_ble_eq_true rfl) (fun p e s m below meth c ls C hr hP hK hl => ?_)
  obtain ⟨hx, hb, hml, hown, hts, hlocks⟩ := id C
  obtain ⟨hX, hG, hT, hH, hZ, hO⟩ := hP
  have hS : va_S (fun _ => False) s.heap s.heap [] := va_S.rf
  have hl : lv_has ls 3 [(0, .ref (x + 0)), (1, .int x1), (2, .int x2)] := hl
  unfold vc_X7_taskOf at h
  refine lv_aload_n hx hb dX7_taskOf_0 rfl (lv_at hl 0 rfl) ?_
  refine g_getR (a := x) (k := 0) (o := 1) C hK hX fl_X7_12 rfl rfl dX7_taskOf_1 ?_
  refine lv_iload_n hx hb dX7_taskOf_4 rfl (lv_at hl 1 rfl) ?_
  refine g_vI C hK hl.1 (m_X1_hasTask l G (x + 1) γ x1 _ h) mw_X1_hasTask mi_X1_hasTask ml_X7_137 rfl ⟨rfl, rfl, Nat.le_of_ble_eq_true rfl, Nat.le_of_ble_eq_true rfl⟩ ⟨Nat.zero_le _, Nat.zero_le _⟩ (g_recv (a := (x + 1)) (k := 0) hK hG rfl rfl) hG hS (fun _ h => h.elim) rfl (Nat.le_of_ble_eq_true rfl) dX7_taskOf_5 (fun r1 u H locs h hu _ hq hS => ?_)
  have hX := hX.past hq (fun _ _ h => h)
  have hG := hG.past hq (fun _ _ h => h)
  have hT := hT.past hq (fun _ _ h => h)
  have hH := hH.past hq (fun _ _ h => h)
  have hZ := hZ.past hq (fun _ _ h => h)
  have hO := hO.past hq (fun _ _ h => h)
  refine lv_if_eq (tgt := 20) hx hb dX7_taskOf_8 (by decide) (fun c2 => ?_) (fun c2 => ?_)
  · replace h := h.1 c2
    refine g_ldc C kc_X7_79 dX7_taskOf_20 ?_
    exact g_iret (post := fun r (_ : Unit) => Q r) (P' := fun _ _ => True) (r := (-1000001)) (u := ()) C hr hK hS h trivial dX7_taskOf_22
  · replace h := h.2 c2
    refine lv_iload_n hx hb dX7_taskOf_11 rfl (lv_at hl 2 rfl) ?_
    refine lv_iconst (v := 0) hx hb dX7_taskOf_12 (by decide) ?_
    refine lv_iconst (v := 5) hx hb dX7_taskOf_13 (by decide) ?_
    refine g_sI C hK hl.1 (m_X7_within l G x2 0 5 _ h) mw_X7_within ms_X7_within ml_X7_75 rfl ⟨rfl, rfl, Nat.le_of_ble_eq_true rfl, Nat.le_of_ble_eq_true rfl⟩ ⟨Nat.zero_le _, Nat.zero_le _⟩ trivial hS (fun _ h => h.elim) rfl (Nat.le_of_ble_eq_true rfl) dX7_taskOf_14 (fun r3 u H locs h hu _ hq hS => ?_)
    have hX := hX.past hq (fun _ _ h => h)
    have hG := hG.past hq (fun _ _ h => h)
    have hT := hT.past hq (fun _ _ h => h)
    have hH := hH.past hq (fun _ _ h => h)
    have hZ := hZ.past hq (fun _ _ h => h)
    have hO := hO.past hq (fun _ _ h => h)
    refine lv_if_ne (tgt := 23) hx hb dX7_taskOf_17 (by decide) (fun c4 => ?_) (fun c4 => ?_)
    · replace h := h.1 c4
      refine lv_iload_n hx hb dX7_taskOf_23 rfl (lv_at hl 2 rfl) ?_
      by_cases c5 : x2 = 0
      · replace h := h.1 c5
        refine lv_tableIn (off := 36) (tgt := 60) hx hb dX7_taskOf_24 (by rw [c5]; decide) (by rw [c5]; decide) (by rw [c5]; rfl) (by decide) ?_
        refine lv_aload_n hx hb dX7_taskOf_60 rfl (lv_at hl 0 rfl) ?_
        refine g_getR (a := x) (k := 0) (o := 1) C hK hX fl_X7_12 rfl rfl dX7_taskOf_61 ?_
        refine g_getR (a := (x + 1)) (k := 0) (o := 12) C hK hG fl_X7_140 rfl rfl dX7_taskOf_64 ?_
        refine g_getR (a := (x + 1)) (k := 12) (o := 13) C hK hG fl_X7_144 rfl rfl dX7_taskOf_67 ?_
        refine lv_iload_n hx hb dX7_taskOf_70 rfl (lv_at hl 1 rfl) ?_
        obtain ⟨b6, h⟩ := h
        refine g_ald (a := (x + 1)) (k := 13) (n := 8) C hK hG rfl b6 dX7_taskOf_71 ?_
        exact g_iret (post := fun r (_ : Unit) => Q r) (P' := fun _ _ => True) (r := (γ 13 x1.toNatClampNeg)) (u := ()) C hr hK hS h trivial dX7_taskOf_72
      · replace h := h.2 c5
        by_cases c7 : x2 = 1
        · replace h := h.1 c7
          refine lv_tableIn (off := 49) (tgt := 73) hx hb dX7_taskOf_24 (by rw [c7]; decide) (by rw [c7]; decide) (by rw [c7]; rfl) (by decide) ?_
          refine lv_aload_n hx hb dX7_taskOf_73 rfl (lv_at hl 0 rfl) ?_
          refine g_getR (a := x) (k := 0) (o := 1) C hK hX fl_X7_12 rfl rfl dX7_taskOf_74 ?_
          refine g_getR (a := (x + 1)) (k := 0) (o := 12) C hK hG fl_X7_140 rfl rfl dX7_taskOf_77 ?_
          refine g_getR (a := (x + 1)) (k := 12) (o := 14) C hK hG fl_X7_149 rfl rfl dX7_taskOf_80 ?_
          refine lv_iload_n hx hb dX7_taskOf_83 rfl (lv_at hl 1 rfl) ?_
          obtain ⟨b8, h⟩ := h
          refine g_ald (a := (x + 1)) (k := 14) (n := 8) C hK hG rfl b8 dX7_taskOf_84 ?_
          exact g_iret (post := fun r (_ : Unit) => Q r) (P' := fun _ _ => True) (r := (γ 14 x1.toNatClampNeg)) (u := ()) C hr hK hS h trivial dX7_taskOf_85
        · replace h := h.2 c7
          by_cases c9 : x2 = 2
          · replace h := h.1 c9
            refine lv_tableIn (off := 62) (tgt := 86) hx hb dX7_taskOf_24 (by rw [c9]; decide) (by rw [c9]; decide) (by rw [c9]; rfl) (by decide) ?_
            refine lv_aload_n hx hb dX7_taskOf_86 rfl (lv_at hl 0 rfl) ?_
            refine g_getR (a := x) (k := 0) (o := 1) C hK hX fl_X7_12 rfl rfl dX7_taskOf_87 ?_
            refine g_getR (a := (x + 1)) (k := 0) (o := 12) C hK hG fl_X7_140 rfl rfl dX7_taskOf_90 ?_
            refine g_getR (a := (x + 1)) (k := 12) (o := 15) C hK hG fl_X7_152 rfl rfl dX7_taskOf_93 ?_
            refine lv_iload_n hx hb dX7_taskOf_96 rfl (lv_at hl 1 rfl) ?_
            obtain ⟨b10, h⟩ := h
            refine g_ald (a := (x + 1)) (k := 15) (n := 8) C hK hG rfl b10 dX7_taskOf_97 ?_
            exact g_iret (post := fun r (_ : Unit) => Q r) (P' := fun _ _ => True) (r := (γ 15 x1.toNatClampNeg)) (u := ()) C hr hK hS h trivial dX7_taskOf_98
          · replace h := h.2 c9
            by_cases c11 : x2 = 3
            · replace h := h.1 c11
              refine lv_tableIn (off := 75) (tgt := 99) hx hb dX7_taskOf_24 (by rw [c11]; decide) (by rw [c11]; decide) (by rw [c11]; rfl) (by decide) ?_
              refine lv_aload_n hx hb dX7_taskOf_99 rfl (lv_at hl 0 rfl) ?_
              refine g_getR (a := x) (k := 0) (o := 1) C hK hX fl_X7_12 rfl rfl dX7_taskOf_100 ?_
              refine g_getR (a := (x + 1)) (k := 0) (o := 12) C hK hG fl_X7_140 rfl rfl dX7_taskOf_103 ?_
              refine g_getR (a := (x + 1)) (k := 12) (o := 16) C hK hG fl_X7_155 rfl rfl dX7_taskOf_106 ?_
              refine lv_iload_n hx hb dX7_taskOf_109 rfl (lv_at hl 1 rfl) ?_
              obtain ⟨b12, h⟩ := h
              refine g_ald (a := (x + 1)) (k := 16) (n := 8) C hK hG rfl b12 dX7_taskOf_110 ?_
              exact g_iret (post := fun r (_ : Unit) => Q r) (P' := fun _ _ => True) (r := (γ 16 x1.toNatClampNeg)) (u := ()) C hr hK hS h trivial dX7_taskOf_111
            · replace h := h.2 c11
              by_cases c13 : x2 = 4
              · replace h := h.1 c13
                refine lv_tableIn (off := 88) (tgt := 112) hx hb dX7_taskOf_24 (by rw [c13]; decide) (by rw [c13]; decide) (by rw [c13]; rfl) (by decide) ?_
                refine lv_aload_n hx hb dX7_taskOf_112 rfl (lv_at hl 0 rfl) ?_
                refine g_getR (a := x) (k := 0) (o := 1) C hK hX fl_X7_12 rfl rfl dX7_taskOf_113 ?_
                refine lv_iload_n hx hb dX7_taskOf_116 rfl (lv_at hl 1 rfl) ?_
                refine g_vI C hK hl.1 (m_X1_placesLeft l G (x + 1) γ x1 _ h) mw_X1_placesLeft mi_X1_placesLeft ml_X7_158 rfl ⟨rfl, rfl, Nat.le_of_ble_eq_true rfl, Nat.le_of_ble_eq_true rfl⟩ ⟨Nat.zero_le _, Nat.zero_le _⟩ (g_recv (a := (x + 1)) (k := 0) hK hG rfl rfl) hG hS (fun _ h => h.elim) rfl (Nat.le_of_ble_eq_true rfl) dX7_taskOf_117 (fun r14 u H locs h hu _ hq hS => ?_)
                have hX := hX.past hq (fun _ _ h => h)
                have hG := hG.past hq (fun _ _ h => h)
                have hT := hT.past hq (fun _ _ h => h)
                have hH := hH.past hq (fun _ _ h => h)
                have hZ := hZ.past hq (fun _ _ h => h)
                have hO := hO.past hq (fun _ _ h => h)
                exact g_iret (post := fun r (_ : Unit) => Q r) (P' := fun _ _ => True) (r := r14) (u := ()) C hr hK hS h trivial dX7_taskOf_120
              · replace h := h.2 c13
                have hne := And.intro trivial (And.intro trivial trivial)
                have c5i := lv_neT c5 (by rfl : (0 : Int32).toInt = 0)
                have c7i := lv_neT c7 (by rfl : (1 : Int32).toInt = 1)
                have c9i := lv_neT c9 (by rfl : (2 : Int32).toInt = 2)
                have c11i := lv_neT c11 (by rfl : (3 : Int32).toInt = 3)
                have c13i := lv_neT c13 (by rfl : (4 : Int32).toInt = 4)
                refine lv_tableOut (tgt := 121) hx hb dX7_taskOf_24 (by omega) (by decide) ?_
                refine lv_aload_n hx hb dX7_taskOf_121 rfl (lv_at hl 0 rfl) ?_
                refine g_getR (a := x) (k := 0) (o := 1) C hK hX fl_X7_12 rfl rfl dX7_taskOf_122 ?_
                refine g_getR (a := (x + 1)) (k := 0) (o := 12) C hK hG fl_X7_140 rfl rfl dX7_taskOf_125 ?_
                refine g_getR (a := (x + 1)) (k := 12) (o := 17) C hK hG fl_X7_161 rfl rfl dX7_taskOf_128 ?_
                refine lv_iload_n hx hb dX7_taskOf_131 rfl (lv_at hl 1 rfl) ?_
                obtain ⟨b15, h⟩ := h
                refine g_ald (a := (x + 1)) (k := 17) (n := 8) C hK hG rfl b15 dX7_taskOf_132 ?_
                exact g_iret (post := fun r (_ : Unit) => Q r) (P' := fun _ _ => True) (r := (γ 17 x1.toNatClampNeg)) (u := ()) C hr hK hS h trivial dX7_taskOf_133
    · replace h := h.2 c4
      refine g_ldc C kc_X7_79 dX7_taskOf_20 ?_
      exact g_iret (post := fun r (_ : Unit) => Q r) (P' := fun _ _ => True) (r := (-1000001)) (u := ()) C hr hK hS h trivial dX7_taskOf_22
