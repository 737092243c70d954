theorem dX1_letPass_0 : decode cX1_letPass 0 = .ok (.iload_n 1, 1) := by decide +kernel
theorem dX1_letPass_1 : decode cX1_letPass 1 = .ok (.iconst 1, 1) := by decide +kernel
theorem dX1_letPass_2 : decode cX1_letPass 2 = .ok (.sipush 600, 3) := by decide +kernel
theorem dX1_letPass_5 : decode cX1_letPass 5 = .ok (.invokestatic 63, 3) := by decide +kernel
theorem dX1_letPass_8 : decode cX1_letPass 8 = .ok (.ifCond .ne 6, 3) := by decide +kernel
theorem dX1_letPass_11 : decode cX1_letPass 11 = .ok (.ldc 78, 2) := by decide +kernel
theorem dX1_letPass_13 : decode cX1_letPass 13 = .ok (.ireturn, 1) := by decide +kernel
theorem dX1_letPass_14 : decode cX1_letPass 14 = .ok (.aload_n 0, 1) := by decide +kernel
theorem dX1_letPass_15 : decode cX1_letPass 15 = .ok (.getfield 43, 3) := by decide +kernel
theorem dX1_letPass_18 : decode cX1_letPass 18 = .ok (.iload_n 1, 1) := by decide +kernel
theorem dX1_letPass_19 : decode cX1_letPass 19 = .ok (.iadd, 1) := by decide +kernel
theorem dX1_letPass_20 : decode cX1_letPass 20 = .ok (.sipush 9999, 3) := by decide +kernel
theorem dX1_letPass_23 : decode cX1_letPass 23 = .ok (.if_icmp .le 6, 3) := by decide +kernel
theorem dX1_letPass_26 : decode cX1_letPass 26 = .ok (.ldc 73, 2) := by decide +kernel
theorem dX1_letPass_28 : decode cX1_letPass 28 = .ok (.ireturn, 1) := by decide +kernel
theorem dX1_letPass_29 : decode cX1_letPass 29 = .ok (.aload_n 0, 1) := by decide +kernel
theorem dX1_letPass_30 : decode cX1_letPass 30 = .ok (.iload_n 1, 1) := by decide +kernel
theorem dX1_letPass_31 : decode cX1_letPass 31 = .ok (.invokevirtual 158, 3) := by decide +kernel
theorem dX1_letPass_34 : decode cX1_letPass 34 = .ok (.ireturn, 1) := by decide +kernel
def vc_X1_letPass (Q : Int32 → Mem → Prop) (γ : Mem) (x1 : Int32) : Prop :=
  vc_X7_within (fun r1 => ((¬ r1 = 0) → (((((γ 0 0) + x1) ≤ 9999) → (vc_X1_advance (fun r4 γ5 => Q r4 γ5) γ x1)) ∧ ((¬ ((γ 0 0) + x1) ≤ 9999) → (Q (-1000003) γ)))) ∧ ((r1 = 0) → (Q (-1000001) γ))) x1 1 600
set_option maxHeartbeats 8000000 in
set_option maxRecDepth 100000 in
theorem m_X1_letPass (l : Launch) (G : GG) (aG : Nat) (γ : Mem) (x1 : Int32) (Q : Int32 → Mem → Prop) (h : vc_X1_letPass Q γ x1) : CtI l yX1_letPass cX1_letPass 2 (some .int) { frames := 4, cells := 0, slots := 0, locals := 95 } [.ref (aG + 0), .int x1] G (fun H => rg G LG aG γ H) (Q) (fun u H => rg G LG aG u H) (RA aG 22) := by
  unfold CtI
  refine met_start (y := yX1_letPass) (maxL := 2) (av := [.ref (aG + 0), .int x1]) (G := G) (P := fun H => rg G LG aG γ H) (by decide) rfl (Nat.le_of_ble_eq_true rfl) (fun p e s m below meth c ls C hr hP hK hl => ?_)
  obtain ⟨hx, hb, hml, hown, hts, hlocks⟩ := id C
  have hG : rg G LG aG γ s.heap := hP
  have hS : va_S (RA aG 22) s.heap s.heap [] := va_S.rf
  have hl : lv_has ls 2 [(0, .ref (aG + 0)), (1, .int x1)] := hl
  unfold vc_X1_letPass at h
  refine lv_iload_n hx hb dX1_letPass_0 rfl (lv_at hl 1 rfl) ?_
  refine lv_iconst (v := 1) hx hb dX1_letPass_1 (by decide) ?_
  refine lv_sipush (v := 600) hx hb dX1_letPass_2 (by decide) ?_
  refine g_nI C hK hl.1 (m_X7_within l G x1 1 600 _ h) mw_X7_within ms_X7_within nl_X1_63 rfl ⟨rfl, rfl, Nat.le_of_ble_eq_true rfl, Nat.le_of_ble_eq_true rfl⟩ ⟨Nat.zero_le _, Nat.zero_le _⟩ trivial hS (fun _ h => h.elim) rfl (Nat.le_of_ble_eq_true rfl) dX1_letPass_5 (fun r1 u H locs h hu _ hq hS => ?_)
  have hG := hG.past hq (fun _ _ h => h)
  refine lv_if_ne (tgt := 14) hx hb dX1_letPass_8 (by decide) (fun c2 => ?_) (fun c2 => ?_)
  · replace h := h.1 c2
    refine lv_aload_n hx hb dX1_letPass_14 rfl (lv_at hl 0 rfl) ?_
    refine g_getI (a := aG) (k := 0) C hK hG fl_X1_43 rfl rfl dX1_letPass_15 ?_
    refine lv_iload_n hx hb dX1_letPass_18 rfl (lv_at hl 1 rfl) ?_
    refine lv_iadd hx hb dX1_letPass_19 ?_
    refine lv_sipush (v := 9999) hx hb dX1_letPass_20 (by decide) ?_
    refine lv_icmp_le (tgt := 29) hx hb dX1_letPass_23 (by decide) (fun c3 => ?_) (fun c3 => ?_)
    · replace h := h.1 c3
      refine lv_aload_n hx hb dX1_letPass_29 rfl (lv_at hl 0 rfl) ?_
      refine lv_iload_n hx hb dX1_letPass_30 rfl (lv_at hl 1 rfl) ?_
      refine g_vI C hK hl.1 (m_X1_advance l G aG γ x1 _ h) mw_X1_advance mi_X1_advance ml_X1_158 rfl ⟨rfl, rfl, Nat.le_of_ble_eq_true rfl, Nat.le_of_ble_eq_true rfl⟩ ⟨Nat.zero_le _, Nat.zero_le _⟩ (g_recv (a := aG) (k := 0) hK hG rfl rfl) hG hS (fun _ h => h) rfl (Nat.le_of_ble_eq_true rfl) dX1_letPass_31 (fun r4 u H locs h hu _ hq hS => ?_)
      obtain ⟨γ5, rfl⟩ : ∃ z, z = u := ⟨_, rfl⟩
      have hG := hu
      exact g_iret (post := Q) (P' := fun u H => rg G LG aG u H) (r := r4) (u := γ5) C hr hK hS h hG dX1_letPass_34
    · replace h := h.2 c3
      refine g_ldc C kc_X1_73 dX1_letPass_26 ?_
      exact g_iret (post := Q) (P' := fun u H => rg G LG aG u H) (r := (-1000003)) (u := γ) C hr hK hS h hG dX1_letPass_28
  · replace h := h.2 c2
    refine g_ldc C kc_X1_78 dX1_letPass_11 ?_
    exact g_iret (post := Q) (P' := fun u H => rg G LG aG u H) (r := (-1000001)) (u := γ) C hr hK hS h hG dX1_letPass_13
theorem dX1_untilOneIsOut_0 : decode cX1_untilOneIsOut 0 = .ok (.aload_n 0, 1) := by decide +kernel
theorem dX1_untilOneIsOut_1 : decode cX1_untilOneIsOut 1 = .ok (.getfield 21, 3) := by decide +kernel
theorem dX1_untilOneIsOut_4 : decode cX1_untilOneIsOut 4 = .ok (.iload_n 1, 1) := by decide +kernel
theorem dX1_untilOneIsOut_5 : decode cX1_untilOneIsOut 5 = .ok (.invokevirtual 187, 3) := by decide +kernel
theorem dX1_untilOneIsOut_8 : decode cX1_untilOneIsOut 8 = .ok (.iconst 3, 1) := by decide +kernel
theorem dX1_untilOneIsOut_9 : decode cX1_untilOneIsOut 9 = .ok (.if_icmp .ne 6, 3) := by decide +kernel
theorem dX1_untilOneIsOut_12 : decode cX1_untilOneIsOut 12 = .ok (.ldc 190, 2) := by decide +kernel
theorem dX1_untilOneIsOut_14 : decode cX1_untilOneIsOut 14 = .ok (.ireturn, 1) := by decide +kernel
theorem dX1_untilOneIsOut_15 : decode cX1_untilOneIsOut 15 = .ok (.aload_n 0, 1) := by decide +kernel
theorem dX1_untilOneIsOut_16 : decode cX1_untilOneIsOut 16 = .ok (.getfield 21, 3) := by decide +kernel
theorem dX1_untilOneIsOut_19 : decode cX1_untilOneIsOut 19 = .ok (.iload_n 1, 1) := by decide +kernel
theorem dX1_untilOneIsOut_20 : decode cX1_untilOneIsOut 20 = .ok (.invokevirtual 191, 3) := by decide +kernel
theorem dX1_untilOneIsOut_23 : decode cX1_untilOneIsOut 23 = .ok (.istore_n 2, 1) := by decide +kernel
theorem dX1_untilOneIsOut_24 : decode cX1_untilOneIsOut 24 = .ok (.iconst 0, 1) := by decide +kernel
theorem dX1_untilOneIsOut_25 : decode cX1_untilOneIsOut 25 = .ok (.istore_n 3, 1) := by decide +kernel
theorem dX1_untilOneIsOut_26 : decode cX1_untilOneIsOut 26 = .ok (.iconst 0, 1) := by decide +kernel
theorem dX1_untilOneIsOut_27 : decode cX1_untilOneIsOut 27 = .ok (.istore 4, 2) := by decide +kernel
theorem dX1_untilOneIsOut_29 : decode cX1_untilOneIsOut 29 = .ok (.iload 4, 2) := by decide +kernel
theorem dX1_untilOneIsOut_31 : decode cX1_untilOneIsOut 31 = .ok (.bipush 12, 2) := by decide +kernel
theorem dX1_untilOneIsOut_33 : decode cX1_untilOneIsOut 33 = .ok (.if_icmp .ge 42, 3) := by decide +kernel
theorem dX1_untilOneIsOut_36 : decode cX1_untilOneIsOut 36 = .ok (.aload_n 0, 1) := by decide +kernel
theorem dX1_untilOneIsOut_37 : decode cX1_untilOneIsOut 37 = .ok (.getfield 21, 3) := by decide +kernel
theorem dX1_untilOneIsOut_40 : decode cX1_untilOneIsOut 40 = .ok (.iload_n 1, 1) := by decide +kernel
theorem dX1_untilOneIsOut_41 : decode cX1_untilOneIsOut 41 = .ok (.invokevirtual 191, 3) := by decide +kernel
theorem dX1_untilOneIsOut_44 : decode cX1_untilOneIsOut 44 = .ok (.iload_n 2, 1) := by decide +kernel
theorem dX1_untilOneIsOut_45 : decode cX1_untilOneIsOut 45 = .ok (.if_icmp .ne 30, 3) := by decide +kernel
theorem dX1_untilOneIsOut_48 : decode cX1_untilOneIsOut 48 = .ok (.aload_n 0, 1) := by decide +kernel
theorem dX1_untilOneIsOut_49 : decode cX1_untilOneIsOut 49 = .ok (.getfield 21, 3) := by decide +kernel
theorem dX1_untilOneIsOut_52 : decode cX1_untilOneIsOut 52 = .ok (.invokevirtual 161, 3) := by decide +kernel
theorem dX1_untilOneIsOut_55 : decode cX1_untilOneIsOut 55 = .ok (.istore 5, 2) := by decide +kernel
theorem dX1_untilOneIsOut_57 : decode cX1_untilOneIsOut 57 = .ok (.aload_n 0, 1) := by decide +kernel
theorem dX1_untilOneIsOut_58 : decode cX1_untilOneIsOut 58 = .ok (.iload 5, 2) := by decide +kernel
theorem dX1_untilOneIsOut_60 : decode cX1_untilOneIsOut 60 = .ok (.invokevirtual 158, 3) := by decide +kernel
theorem dX1_untilOneIsOut_63 : decode cX1_untilOneIsOut 63 = .ok (.pop, 1) := by decide +kernel
theorem dX1_untilOneIsOut_64 : decode cX1_untilOneIsOut 64 = .ok (.iload_n 3, 1) := by decide +kernel
theorem dX1_untilOneIsOut_65 : decode cX1_untilOneIsOut 65 = .ok (.iload 5, 2) := by decide +kernel
theorem dX1_untilOneIsOut_67 : decode cX1_untilOneIsOut 67 = .ok (.iadd, 1) := by decide +kernel
theorem dX1_untilOneIsOut_68 : decode cX1_untilOneIsOut 68 = .ok (.istore_n 3, 1) := by decide +kernel
theorem dX1_untilOneIsOut_69 : decode cX1_untilOneIsOut 69 = .ok (.iinc 4 1, 3) := by decide +kernel
theorem dX1_untilOneIsOut_72 : decode cX1_untilOneIsOut 72 = .ok (.goto (-43), 3) := by decide +kernel
theorem dX1_untilOneIsOut_75 : decode cX1_untilOneIsOut 75 = .ok (.iload_n 3, 1) := by decide +kernel
theorem dX1_untilOneIsOut_76 : decode cX1_untilOneIsOut 76 = .ok (.ireturn, 1) := by decide +kernel
def vb_X1_untilOneIsOut_29 (Q : Int32 → Mem → Prop) (rec : Nat → Mem → Int32 → Int32 → Int32 → Int32 → Prop) (γ : Mem) (w1 : Int32) (w2 : Int32) (w3 : Int32) (w4 : Int32) : Prop :=
  ((12 ≤ w4) → (Q w3 γ)) ∧ ((¬ 12 ≤ w4) → (vc_X2_worksOf (fun r5 => ((¬ r5 = w2) → (Q w3 γ)) ∧ ((r5 = w2) → (vc_X2_untilNextOut (fun r7 => vc_X1_advance (fun r8 γ9 => ∀ v10 : Int32, v10 = (w3 + r7) → (∀ v11 : Int32, v11 = w4 + 1 → (rec 0 γ9 w1 w2 v10 v11))) γ r7) γ))) γ w1))
def vl_X1_untilOneIsOut (Q : Int32 → Mem → Prop) : Nat → Nat → Mem → Int32 → Int32 → Int32 → Int32 → Prop
  | 0, _, _, _, _, _, _ => False
  | n + 1, 0, γ, w1, w2, w3, w4 => vb_X1_untilOneIsOut_29 Q (vl_X1_untilOneIsOut Q n) γ w1 w2 w3 w4
  | _ + 1, _, _, _, _, _, _ => False
def vc_X1_untilOneIsOut (Q : Int32 → Mem → Prop) (γ : Mem) (x1 : Int32) : Prop :=
  ∃ n : Nat, vc_X2_outOf (fun r1 => ((¬ r1 = 3) → (vc_X2_worksOf (fun r3 => vl_X1_untilOneIsOut Q n 0 γ x1 r3 0 0) γ x1)) ∧ ((r1 = 3) → (Q (-1000004) γ))) γ x1
set_option maxHeartbeats 8000000 in
set_option maxRecDepth 100000 in
theorem m_X1_untilOneIsOut (l : Launch) (G : GG) (aG : Nat) (γ : Mem) (x1 : Int32) (Q : Int32 → Mem → Prop) (h : vc_X1_untilOneIsOut Q γ x1) : CtI l yX1_untilOneIsOut cX1_untilOneIsOut 6 (some .int) { frames := 4, cells := 0, slots := 0, locals := 95 } [.ref (aG + 0), .int x1] G (fun H => rg G LG aG γ H) (Q) (fun u H => rg G LG aG u H) (RA aG 22) := by
  unfold CtI
  refine met_start (y := yX1_untilOneIsOut) (maxL := 6) (av := [.ref (aG + 0), .int x1]) (G := G) (P := fun H => rg G LG aG γ H) (by decide) rfl (Nat.le_of_ble_eq_true rfl) (fun p e s m below meth c ls C hr hP hK hl => ?_)
  obtain ⟨hx, hb, hml, hown, hts, hlocks⟩ := id C
  have hG : rg G LG aG γ s.heap := hP
  have hS : va_S (RA aG 22) s.heap s.heap [] := va_S.rf
  have hl : lv_has ls 6 [(0, .ref (aG + 0)), (1, .int x1)] := hl
  have K : ∀ n : Nat, (∀ (γ : Mem) (w1 : Int32) (w2 : Int32) (w3 : Int32) (w4 : Int32) (H : Heap) (locs : List Loc) (ls : Array Slot), rg G LG aG γ H → va_S (RA aG 22) s.heap H locs → lv_has ls 6 [(0, .ref (aG + 0)), (1, .int w1), (2, .int w2), (3, .int w3), (4, .int w4)] → vl_X1_untilOneIsOut Q n 0 γ w1 w2 w3 w4 → W p l e { frames := 4, cells := 0, slots := 0, locals := 95 } s m [.ref (aG + 0), .int x1].toArray below meth c H locs 0 0 (MQ below (va_Qi (Q) (fun u t => (fun u H => rg G LG aG u H) u t.heap ∧ KK G t) (RA aG 22)) [.ref (aG + 0), .int x1].toArray s 0 0 (RA aG 22)) (F0 m 29 ls [])) := by
    intro n
    induction n with
    | zero => exact fun _ _ _ _ _ _ _ _ _ _ _ h => h.elim
    | succ n ih =>
      · intro γ w1 w2 w3 w4 H locs ls hG hS hl h
        replace h : vb_X1_untilOneIsOut_29 Q (vl_X1_untilOneIsOut Q n) γ w1 w2 w3 w4 := h
        unfold vb_X1_untilOneIsOut_29 at h
        refine lv_iload hx hb dX1_untilOneIsOut_29 (lv_at hl 4 rfl) ?_
        refine lv_bipush (v := 12) hx hb dX1_untilOneIsOut_31 (by decide) ?_
        refine lv_icmp_ge (tgt := 75) hx hb dX1_untilOneIsOut_33 (by decide) (fun c4 => ?_) (fun c4 => ?_)
        · replace h := h.1 c4
          refine lv_iload_n hx hb dX1_untilOneIsOut_75 rfl (lv_at hl 3 rfl) ?_
          exact g_iret (post := Q) (P' := fun u H => rg G LG aG u H) (r := w3) (u := γ) C hr hK hS h hG dX1_untilOneIsOut_76
        · replace h := h.2 c4
          refine lv_aload_n hx hb dX1_untilOneIsOut_36 rfl (lv_at hl 0 rfl) ?_
          refine g_getR (a := aG) (k := 0) (o := 4) C hK hG fl_X1_21 rfl rfl dX1_untilOneIsOut_37 ?_
          refine lv_iload_n hx hb dX1_untilOneIsOut_40 rfl (lv_at hl 1 rfl) ?_
          refine g_vI C hK hl.1 (m_X2_worksOf l G aG γ w1 _ h) mw_X2_worksOf mi_X2_worksOf ml_X1_191 rfl ⟨rfl, rfl, Nat.le_of_ble_eq_true rfl, Nat.le_of_ble_eq_true rfl⟩ ⟨Nat.zero_le _, Nat.zero_le _⟩ (g_recv (a := aG) (k := 4) hK hG rfl rfl) hG hS (fun _ h => h.elim) rfl (Nat.le_of_ble_eq_true rfl) dX1_untilOneIsOut_41 (fun r5 u H locs h hu _ hq hS => ?_)
          have hG := hG.past hq (fun _ _ h => h)
          refine lv_iload_n hx hb dX1_untilOneIsOut_44 rfl (lv_at hl 2 rfl) ?_
          refine lv_icmp_ne (tgt := 75) hx hb dX1_untilOneIsOut_45 (by decide) (fun c6 => ?_) (fun c6 => ?_)
          · replace h := h.1 c6
            refine lv_iload_n hx hb dX1_untilOneIsOut_75 rfl (lv_at hl 3 rfl) ?_
            exact g_iret (post := Q) (P' := fun u H => rg G LG aG u H) (r := w3) (u := γ) C hr hK hS h hG dX1_untilOneIsOut_76
          · replace h := h.2 c6
            refine lv_aload_n hx hb dX1_untilOneIsOut_48 rfl (lv_at hl 0 rfl) ?_
            refine g_getR (a := aG) (k := 0) (o := 4) C hK hG fl_X1_21 rfl rfl dX1_untilOneIsOut_49 ?_
            refine g_vI C hK hl.1 (m_X2_untilNextOut l G aG γ _ h) mw_X2_untilNextOut mi_X2_untilNextOut ml_X1_161 rfl ⟨rfl, rfl, Nat.le_of_ble_eq_true rfl, Nat.le_of_ble_eq_true rfl⟩ ⟨Nat.zero_le _, Nat.zero_le _⟩ (g_recv (a := aG) (k := 4) hK hG rfl rfl) hG hS (fun _ h => h.elim) rfl (Nat.le_of_ble_eq_true rfl) dX1_untilOneIsOut_52 (fun r7 u H locs h hu _ hq hS => ?_)
            have hG := hG.past hq (fun _ _ h => h)
            refine lv_istore (lv' := [(5, .int r7), (0, .ref (aG + 0)), (1, .int w1), (2, .int w2), (3, .int w3), (4, .int w4)]) hx hb dX1_untilOneIsOut_55 hl (by decide) rfl (fun ls hl => ?_)
            refine lv_aload_n hx hb dX1_untilOneIsOut_57 rfl (lv_at hl 1 rfl) ?_
            refine lv_iload hx hb dX1_untilOneIsOut_58 (lv_at hl 0 rfl) ?_
            refine g_vI C hK hl.1 (m_X1_advance l G aG γ r7 _ h) mw_X1_advance mi_X1_advance ml_X1_158 rfl ⟨rfl, rfl, Nat.le_of_ble_eq_true rfl, Nat.le_of_ble_eq_true rfl⟩ ⟨Nat.zero_le _, Nat.zero_le _⟩ (g_recv (a := aG) (k := 0) hK hG rfl rfl) hG hS (fun _ h => h) rfl (Nat.le_of_ble_eq_true rfl) dX1_untilOneIsOut_60 (fun r8 u H locs h hu _ hq hS => ?_)
            obtain ⟨γ9, rfl⟩ : ∃ z, z = u := ⟨_, rfl⟩
            have hG := hu
            refine lv_pop hx hb dX1_untilOneIsOut_63 rfl ?_
            refine lv_iload_n hx hb dX1_untilOneIsOut_64 rfl (lv_at hl 4 rfl) ?_
            refine lv_iload hx hb dX1_untilOneIsOut_65 (lv_at hl 0 rfl) ?_
            refine lv_iadd hx hb dX1_untilOneIsOut_67 ?_
            refine lv_topi (fun v10 ev10 => ?_)
            specialize h v10 ev10
            refine lv_istore_n (lv' := [(3, .int v10), (5, .int r7), (0, .ref (aG + 0)), (1, .int w1), (2, .int w2), (4, .int w4)]) hx hb dX1_untilOneIsOut_68 rfl hl (by decide) rfl (fun ls hl => ?_)
            obtain ⟨v11, ev11⟩ : ∃ y : Int32, y = w4 + 1 := ⟨_, rfl⟩
            specialize h v11 ev11
            refine lv_iinc (v := v11) (lv' := [(4, .int v11), (3, .int v10), (5, .int r7), (0, .ref (aG + 0)), (1, .int w1), (2, .int w2)]) hx hb dX1_untilOneIsOut_69 hl (k := 5) rfl (by rw [ev11]; rfl) (by decide) rfl (fun ls hl => ?_)
            refine lv_goto (tgt := 29) hx hb dX1_untilOneIsOut_72 (by decide) ?_
            exact (ih) γ9 w1 w2 v10 v11 _ _ _ hG hS (lv_sub hl [3, 4, 5, 1, 0] rfl) h
  unfold vc_X1_untilOneIsOut at h
  obtain ⟨n, h⟩ := h
  refine lv_aload_n hx hb dX1_untilOneIsOut_0 rfl (lv_at hl 0 rfl) ?_
  refine g_getR (a := aG) (k := 0) (o := 4) C hK hG fl_X1_21 rfl rfl dX1_untilOneIsOut_1 ?_
  refine lv_iload_n hx hb dX1_untilOneIsOut_4 rfl (lv_at hl 1 rfl) ?_
  refine g_vI C hK hl.1 (m_X2_outOf l G aG γ x1 _ h) mw_X2_outOf mi_X2_outOf ml_X1_187 rfl ⟨rfl, rfl, Nat.le_of_ble_eq_true rfl, Nat.le_of_ble_eq_true rfl⟩ ⟨Nat.zero_le _, Nat.zero_le _⟩ (g_recv (a := aG) (k := 4) hK hG rfl rfl) hG hS (fun _ h => h.elim) rfl (Nat.le_of_ble_eq_true rfl) dX1_untilOneIsOut_5 (fun r1 u H locs h hu _ hq hS => ?_)
  have hG := hG.past hq (fun _ _ h => h)
  refine lv_iconst (v := 3) hx hb dX1_untilOneIsOut_8 (by decide) ?_
  refine lv_icmp_ne (tgt := 15) hx hb dX1_untilOneIsOut_9 (by decide) (fun c2 => ?_) (fun c2 => ?_)
  · replace h := h.1 c2
    refine lv_aload_n hx hb dX1_untilOneIsOut_15 rfl (lv_at hl 0 rfl) ?_
    refine g_getR (a := aG) (k := 0) (o := 4) C hK hG fl_X1_21 rfl rfl dX1_untilOneIsOut_16 ?_
    refine lv_iload_n hx hb dX1_untilOneIsOut_19 rfl (lv_at hl 1 rfl) ?_
    refine g_vI C hK hl.1 (m_X2_worksOf l G aG γ x1 _ h) mw_X2_worksOf mi_X2_worksOf ml_X1_191 rfl ⟨rfl, rfl, Nat.le_of_ble_eq_true rfl, Nat.le_of_ble_eq_true rfl⟩ ⟨Nat.zero_le _, Nat.zero_le _⟩ (g_recv (a := aG) (k := 4) hK hG rfl rfl) hG hS (fun _ h => h.elim) rfl (Nat.le_of_ble_eq_true rfl) dX1_untilOneIsOut_20 (fun r3 u H locs h hu _ hq hS => ?_)
    have hG := hG.past hq (fun _ _ h => h)
    refine lv_istore_n (lv' := [(2, .int r3), (0, .ref (aG + 0)), (1, .int x1)]) hx hb dX1_untilOneIsOut_23 rfl hl (by decide) rfl (fun ls hl => ?_)
    refine lv_iconst (v := 0) hx hb dX1_untilOneIsOut_24 (by decide) ?_
    refine lv_istore_n (lv' := [(3, .int 0), (2, .int r3), (0, .ref (aG + 0)), (1, .int x1)]) hx hb dX1_untilOneIsOut_25 rfl hl (by decide) rfl (fun ls hl => ?_)
    refine lv_iconst (v := 0) hx hb dX1_untilOneIsOut_26 (by decide) ?_
    refine lv_istore (lv' := [(4, .int 0), (3, .int 0), (2, .int r3), (0, .ref (aG + 0)), (1, .int x1)]) hx hb dX1_untilOneIsOut_27 hl (by decide) rfl (fun ls hl => ?_)
    exact ((K n)) γ x1 r3 0 0 _ _ _ hG hS (lv_sub hl [3, 4, 2, 1, 0] rfl) h
  · replace h := h.2 c2
    refine g_ldc C kc_X1_190 dX1_untilOneIsOut_12 ?_
    exact g_iret (post := Q) (P' := fun u H => rg G LG aG u H) (r := (-1000004)) (u := γ) C hr hK hS h hG dX1_untilOneIsOut_14
theorem dX1_bestTask_0 : decode cX1_bestTask 0 = .ok (.iconst (-1), 1) := by decide +kernel
theorem dX1_bestTask_1 : decode cX1_bestTask 1 = .ok (.istore_n 2, 1) := by decide +kernel
theorem dX1_bestTask_2 : decode cX1_bestTask 2 = .ok (.iconst 0, 1) := by decide +kernel
theorem dX1_bestTask_3 : decode cX1_bestTask 3 = .ok (.istore_n 3, 1) := by decide +kernel
theorem dX1_bestTask_4 : decode cX1_bestTask 4 = .ok (.iload_n 3, 1) := by decide +kernel
theorem dX1_bestTask_5 : decode cX1_bestTask 5 = .ok (.aload_n 0, 1) := by decide +kernel
theorem dX1_bestTask_6 : decode cX1_bestTask 6 = .ok (.getfield 28, 3) := by decide +kernel
theorem dX1_bestTask_9 : decode cX1_bestTask 9 = .ok (.getfield 71, 3) := by decide +kernel
theorem dX1_bestTask_12 : decode cX1_bestTask 12 = .ok (.if_icmp .ge 50, 3) := by decide +kernel
theorem dX1_bestTask_15 : decode cX1_bestTask 15 = .ok (.iload_n 3, 1) := by decide +kernel
theorem dX1_bestTask_16 : decode cX1_bestTask 16 = .ok (.bipush 8, 2) := by decide +kernel
theorem dX1_bestTask_18 : decode cX1_bestTask 18 = .ok (.if_icmp .ge 44, 3) := by decide +kernel
theorem dX1_bestTask_21 : decode cX1_bestTask 21 = .ok (.aload_n 0, 1) := by decide +kernel
theorem dX1_bestTask_22 : decode cX1_bestTask 22 = .ok (.iload_n 1, 1) := by decide +kernel
theorem dX1_bestTask_23 : decode cX1_bestTask 23 = .ok (.iload_n 3, 1) := by decide +kernel
theorem dX1_bestTask_24 : decode cX1_bestTask 24 = .ok (.invokevirtual 127, 3) := by decide +kernel
theorem dX1_bestTask_27 : decode cX1_bestTask 27 = .ok (.ifCond .eq 29, 3) := by decide +kernel
theorem dX1_bestTask_30 : decode cX1_bestTask 30 = .ok (.iload_n 2, 1) := by decide +kernel
theorem dX1_bestTask_31 : decode cX1_bestTask 31 = .ok (.iconst (-1), 1) := by decide +kernel
theorem dX1_bestTask_32 : decode cX1_bestTask 32 = .ok (.if_icmp .eq 22, 3) := by decide +kernel
theorem dX1_bestTask_35 : decode cX1_bestTask 35 = .ok (.aload_n 0, 1) := by decide +kernel
theorem dX1_bestTask_36 : decode cX1_bestTask 36 = .ok (.getfield 28, 3) := by decide +kernel
theorem dX1_bestTask_39 : decode cX1_bestTask 39 = .ok (.iload_n 3, 1) := by decide +kernel
theorem dX1_bestTask_40 : decode cX1_bestTask 40 = .ok (.invokevirtual 194, 3) := by decide +kernel
theorem dX1_bestTask_43 : decode cX1_bestTask 43 = .ok (.aload_n 0, 1) := by decide +kernel
theorem dX1_bestTask_44 : decode cX1_bestTask 44 = .ok (.getfield 28, 3) := by decide +kernel
theorem dX1_bestTask_47 : decode cX1_bestTask 47 = .ok (.iload_n 2, 1) := by decide +kernel
theorem dX1_bestTask_48 : decode cX1_bestTask 48 = .ok (.invokevirtual 194, 3) := by decide +kernel
theorem dX1_bestTask_51 : decode cX1_bestTask 51 = .ok (.if_icmp .le 5, 3) := by decide +kernel
theorem dX1_bestTask_54 : decode cX1_bestTask 54 = .ok (.iload_n 3, 1) := by decide +kernel
theorem dX1_bestTask_55 : decode cX1_bestTask 55 = .ok (.istore_n 2, 1) := by decide +kernel
theorem dX1_bestTask_56 : decode cX1_bestTask 56 = .ok (.iinc 3 1, 3) := by decide +kernel
theorem dX1_bestTask_59 : decode cX1_bestTask 59 = .ok (.goto (-55), 3) := by decide +kernel
theorem dX1_bestTask_62 : decode cX1_bestTask 62 = .ok (.iload_n 2, 1) := by decide +kernel
theorem dX1_bestTask_63 : decode cX1_bestTask 63 = .ok (.ireturn, 1) := by decide +kernel
def vb_X1_bestTask_4 (Q : Int32 → Prop) (γ : Mem) (rec : Nat → Int32 → Int32 → Int32 → Prop) (w1 : Int32) (w2 : Int32) (w3 : Int32) : Prop :=
  (((γ 12 0) ≤ w3) → (Q w2 )) ∧ ((¬ (γ 12 0) ≤ w3) → (((8 ≤ w3) → (Q w2 )) ∧ ((¬ 8 ≤ w3) → (vc_X1_canBePut (fun r3 => ((r3 = 0) → (∀ v5 : Int32, v5 = w3 + 1 → (rec 0 w1 w2 v5))) ∧ ((¬ r3 = 0) → (((w2 = (-1)) → (∀ v7 : Int32, v7 = w3 + 1 → (rec 0 w1 w3 v7))) ∧ ((¬ w2 = (-1)) → (vc_X6_differenceOf (fun r8 => vc_X6_differenceOf (fun r9 => ((r8 ≤ r9) → (∀ v11 : Int32, v11 = w3 + 1 → (rec 0 w1 w2 v11))) ∧ ((¬ r8 ≤ r9) → (∀ v12 : Int32, v12 = w3 + 1 → (rec 0 w1 w3 v12)))) γ w2) γ w3))))) γ w1 w3))))
def vl_X1_bestTask (Q : Int32 → Prop) (γ : Mem) : Nat → Nat → Int32 → Int32 → Int32 → Prop
  | 0, _, _, _, _ => False
  | n + 1, 0, w1, w2, w3 => vb_X1_bestTask_4 Q γ (vl_X1_bestTask Q γ n) w1 w2 w3
  | _ + 1, _, _, _, _ => False
def vc_X1_bestTask (Q : Int32 → Prop) (γ : Mem) (x1 : Int32) : Prop :=
  ∃ n : Nat, vl_X1_bestTask Q γ n 0 x1 (-1) 0
set_option maxHeartbeats 8000000 in
set_option maxRecDepth 100000 in
theorem m_X1_bestTask (l : Launch) (G : GG) (aG : Nat) (γ : Mem) (x1 : Int32) (Q : Int32 → Prop) (h : vc_X1_bestTask Q γ x1) : CtI l yX1_bestTask cX1_bestTask 4 (some .int) { frames := 3, cells := 0, slots := 0, locals := 68 } [.ref (aG + 0), .int x1] G (fun H => rg G LG aG γ H) (fun r (_ : Unit) => Q r) (fun _ _ => True) (fun _ => False) := by
  unfold CtI
  refine met_start (y := yX1_bestTask) (maxL := 4) (av := [.ref (aG + 0), .int x1]) (G := G) (P := fun H => rg G LG aG γ H) (by decide) rfl (Nat.le_of_ble_eq_true rfl) (fun p e s m below meth c ls C hr hP hK hl => ?_)
  obtain ⟨hx, hb, hml, hown, hts, hlocks⟩ := id C
  have hG : rg G LG aG γ s.heap := hP
  have hS : va_S (fun _ => False) s.heap s.heap [] := va_S.rf
  have hl : lv_has ls 4 [(0, .ref (aG + 0)), (1, .int x1)] := hl
  have K : ∀ n : Nat, (∀ (w1 : Int32) (w2 : Int32) (w3 : Int32) (H : Heap) (locs : List Loc) (ls : Array Slot), rg G LG aG γ H → va_S (fun _ => False) s.heap H locs → lv_has ls 4 [(0, .ref (aG + 0)), (1, .int w1), (2, .int w2), (3, .int w3)] → vl_X1_bestTask Q γ n 0 w1 w2 w3 → W p l e { frames := 3, cells := 0, slots := 0, locals := 68 } s m [.ref (aG + 0), .int x1].toArray below meth c H locs 0 0 (MQ below (va_Qi (fun r (_ : Unit) => Q r) (fun u t => (fun _ _ => True) u t.heap ∧ KK G t) (fun _ => False)) [.ref (aG + 0), .int x1].toArray s 0 0 (fun _ => False)) (F0 m 4 ls [])) := by
    intro n
    induction n with
    | zero => exact fun _ _ _ _ _ _ _ _ _ h => h.elim
    | succ n ih =>
      · intro w1 w2 w3 H locs ls hG hS hl h
        replace h : vb_X1_bestTask_4 Q γ (vl_X1_bestTask Q γ n) w1 w2 w3 := h
        unfold vb_X1_bestTask_4 at h
        refine lv_iload_n hx hb dX1_bestTask_4 rfl (lv_at hl 3 rfl) ?_
        refine lv_aload_n hx hb dX1_bestTask_5 rfl (lv_at hl 0 rfl) ?_
        refine g_getR (a := aG) (k := 0) (o := 12) C hK hG fl_X1_28 rfl rfl dX1_bestTask_6 ?_
        refine g_getI (a := aG) (k := 12) C hK hG fl_X1_71 rfl rfl dX1_bestTask_9 ?_
        refine lv_icmp_ge (tgt := 62) hx hb dX1_bestTask_12 (by decide) (fun c1 => ?_) (fun c1 => ?_)
        · replace h := h.1 c1
          refine lv_iload_n hx hb dX1_bestTask_62 rfl (lv_at hl 2 rfl) ?_
          exact g_iret (post := fun r (_ : Unit) => Q r) (P' := fun _ _ => True) (r := w2) (u := ()) C hr hK hS h trivial dX1_bestTask_63
        · replace h := h.2 c1
          refine lv_iload_n hx hb dX1_bestTask_15 rfl (lv_at hl 3 rfl) ?_
          refine lv_bipush (v := 8) hx hb dX1_bestTask_16 (by decide) ?_
          refine lv_icmp_ge (tgt := 62) hx hb dX1_bestTask_18 (by decide) (fun c2 => ?_) (fun c2 => ?_)
          · replace h := h.1 c2
            refine lv_iload_n hx hb dX1_bestTask_62 rfl (lv_at hl 2 rfl) ?_
            exact g_iret (post := fun r (_ : Unit) => Q r) (P' := fun _ _ => True) (r := w2) (u := ()) C hr hK hS h trivial dX1_bestTask_63
          · replace h := h.2 c2
            refine lv_aload_n hx hb dX1_bestTask_21 rfl (lv_at hl 0 rfl) ?_
            refine lv_iload_n hx hb dX1_bestTask_22 rfl (lv_at hl 1 rfl) ?_
            refine lv_iload_n hx hb dX1_bestTask_23 rfl (lv_at hl 3 rfl) ?_
            refine g_vI C hK hl.1 (m_X1_canBePut l G aG γ w1 w3 _ h) mw_X1_canBePut mi_X1_canBePut ml_X1_127 rfl ⟨rfl, rfl, Nat.le_of_ble_eq_true rfl, Nat.le_of_ble_eq_true rfl⟩ ⟨Nat.zero_le _, Nat.zero_le _⟩ (g_recv (a := aG) (k := 0) hK hG rfl rfl) hG hS (fun _ h => h.elim) rfl (Nat.le_of_ble_eq_true rfl) dX1_bestTask_24 (fun r3 u H locs h hu _ hq hS => ?_)
            have hG := hG.past hq (fun _ _ h => h)
            refine lv_if_eq (tgt := 56) hx hb dX1_bestTask_27 (by decide) (fun c4 => ?_) (fun c4 => ?_)
            · replace h := h.1 c4
              obtain ⟨v5, ev5⟩ : ∃ y : Int32, y = w3 + 1 := ⟨_, rfl⟩
              specialize h v5 ev5
              refine lv_iinc (v := v5) (lv' := [(3, .int v5), (0, .ref (aG + 0)), (1, .int w1), (2, .int w2)]) hx hb dX1_bestTask_56 hl (k := 3) rfl (by rw [ev5]; rfl) (by decide) rfl (fun ls hl => ?_)
              refine lv_goto (tgt := 4) hx hb dX1_bestTask_59 (by decide) ?_
              exact (ih) w1 w2 v5 _ _ _ hG hS (lv_sub hl [1, 2, 3, 0] rfl) h
            · replace h := h.2 c4
              refine lv_iload_n hx hb dX1_bestTask_30 rfl (lv_at hl 2 rfl) ?_
              refine lv_iconst (v := (-1)) hx hb dX1_bestTask_31 (by decide) ?_
              refine lv_icmp_eq (tgt := 54) hx hb dX1_bestTask_32 (by decide) (fun c6 => ?_) (fun c6 => ?_)
              · replace h := h.1 c6
                refine lv_iload_n hx hb dX1_bestTask_54 rfl (lv_at hl 3 rfl) ?_
                refine lv_istore_n (lv' := [(2, .int w3), (0, .ref (aG + 0)), (1, .int w1), (3, .int w3)]) hx hb dX1_bestTask_55 rfl hl (by decide) rfl (fun ls hl => ?_)
                obtain ⟨v7, ev7⟩ : ∃ y : Int32, y = w3 + 1 := ⟨_, rfl⟩
                specialize h v7 ev7
                refine lv_iinc (v := v7) (lv' := [(3, .int v7), (2, .int w3), (0, .ref (aG + 0)), (1, .int w1)]) hx hb dX1_bestTask_56 hl (k := 3) rfl (by rw [ev7]; rfl) (by decide) rfl (fun ls hl => ?_)
                refine lv_goto (tgt := 4) hx hb dX1_bestTask_59 (by decide) ?_
                exact (ih) w1 w3 v7 _ _ _ hG hS (lv_sub hl [2, 3, 1, 0] rfl) h
              · replace h := h.2 c6
                refine lv_aload_n hx hb dX1_bestTask_35 rfl (lv_at hl 0 rfl) ?_
                refine g_getR (a := aG) (k := 0) (o := 12) C hK hG fl_X1_28 rfl rfl dX1_bestTask_36 ?_
                refine lv_iload_n hx hb dX1_bestTask_39 rfl (lv_at hl 3 rfl) ?_
                refine g_vI C hK hl.1 (m_X6_differenceOf l G aG γ w3 _ h) mw_X6_differenceOf mi_X6_differenceOf ml_X1_194 rfl ⟨rfl, rfl, Nat.le_of_ble_eq_true rfl, Nat.le_of_ble_eq_true rfl⟩ ⟨Nat.zero_le _, Nat.zero_le _⟩ (g_recv (a := aG) (k := 12) hK hG rfl rfl) hG hS (fun _ h => h.elim) rfl (Nat.le_of_ble_eq_true rfl) dX1_bestTask_40 (fun r8 u H locs h hu _ hq hS => ?_)
                have hG := hG.past hq (fun _ _ h => h)
                refine lv_aload_n hx hb dX1_bestTask_43 rfl (lv_at hl 0 rfl) ?_
                refine g_getR (a := aG) (k := 0) (o := 12) C hK hG fl_X1_28 rfl rfl dX1_bestTask_44 ?_
                refine lv_iload_n hx hb dX1_bestTask_47 rfl (lv_at hl 2 rfl) ?_
                refine g_vI C hK hl.1 (m_X6_differenceOf l G aG γ w2 _ h) mw_X6_differenceOf mi_X6_differenceOf ml_X1_194 rfl ⟨rfl, rfl, Nat.le_of_ble_eq_true rfl, Nat.le_of_ble_eq_true rfl⟩ ⟨Nat.zero_le _, Nat.zero_le _⟩ (g_recv (a := aG) (k := 12) hK hG rfl rfl) hG hS (fun _ h => h.elim) rfl (Nat.le_of_ble_eq_true rfl) dX1_bestTask_48 (fun r9 u H locs h hu _ hq hS => ?_)
                have hG := hG.past hq (fun _ _ h => h)
                refine lv_icmp_le (tgt := 56) hx hb dX1_bestTask_51 (by decide) (fun c10 => ?_) (fun c10 => ?_)
                · replace h := h.1 c10
                  obtain ⟨v11, ev11⟩ : ∃ y : Int32, y = w3 + 1 := ⟨_, rfl⟩
                  specialize h v11 ev11
                  refine lv_iinc (v := v11) (lv' := [(3, .int v11), (0, .ref (aG + 0)), (1, .int w1), (2, .int w2)]) hx hb dX1_bestTask_56 hl (k := 3) rfl (by rw [ev11]; rfl) (by decide) rfl (fun ls hl => ?_)
                  refine lv_goto (tgt := 4) hx hb dX1_bestTask_59 (by decide) ?_
                  exact (ih) w1 w2 v11 _ _ _ hG hS (lv_sub hl [1, 2, 3, 0] rfl) h
                · replace h := h.2 c10
                  refine lv_iload_n hx hb dX1_bestTask_54 rfl (lv_at hl 3 rfl) ?_
                  refine lv_istore_n (lv' := [(2, .int w3), (0, .ref (aG + 0)), (1, .int w1), (3, .int w3)]) hx hb dX1_bestTask_55 rfl hl (by decide) rfl (fun ls hl => ?_)
                  obtain ⟨v12, ev12⟩ : ∃ y : Int32, y = w3 + 1 := ⟨_, rfl⟩
                  specialize h v12 ev12
                  refine lv_iinc (v := v12) (lv' := [(3, .int v12), (2, .int w3), (0, .ref (aG + 0)), (1, .int w1)]) hx hb dX1_bestTask_56 hl (k := 3) rfl (by rw [ev12]; rfl) (by decide) rfl (fun ls hl => ?_)
                  refine lv_goto (tgt := 4) hx hb dX1_bestTask_59 (by decide) ?_
                  exact (ih) w1 w3 v12 _ _ _ hG hS (lv_sub hl [2, 3, 1, 0] rfl) h
  unfold vc_X1_bestTask at h
  obtain ⟨n, h⟩ := h
  refine lv_iconst (v := (-1)) hx hb dX1_bestTask_0 (by decide) ?_
  refine lv_istore_n (lv' := [(2, .int (-1)), (0, .ref (aG + 0)), (1, .int x1)]) hx hb dX1_bestTask_1 rfl hl (by decide) rfl (fun ls hl => ?_)
  refine lv_iconst (v := 0) hx hb dX1_bestTask_2 (by decide) ?_
  refine lv_istore_n (lv' := [(3, .int 0), (2, .int (-1)), (0, .ref (aG + 0)), (1, .int x1)]) hx hb dX1_bestTask_3 rfl hl (by decide) rfl (fun ls hl => ?_)
  exact ((K n)) x1 (-1) 0 _ _ _ hG hS (lv_sub hl [2, 3, 1, 0] rfl) h
theorem dX1_untilAffordable_0 : decode cX1_untilAffordable 0 = .ok (.iconst 0, 1) := by decide +kernel
theorem dX1_untilAffordable_1 : decode cX1_untilAffordable 1 = .ok (.istore 4, 2) := by decide +kernel
theorem dX1_untilAffordable_3 : decode cX1_untilAffordable 3 = .ok (.iload 4, 2) := by decide +kernel
theorem dX1_untilAffordable_5 : decode cX1_untilAffordable 5 = .ok (.sipush 600, 3) := by decide +kernel
theorem dX1_untilAffordable_8 : decode cX1_untilAffordable 8 = .ok (.if_icmp .gt 85, 3) := by decide +kernel
theorem dX1_untilAffordable_11 : decode cX1_untilAffordable 11 = .ok (.aload_n 0, 1) := by decide +kernel
theorem dX1_untilAffordable_12 : decode cX1_untilAffordable 12 = .ok (.getfield 12, 3) := by decide +kernel
theorem dX1_untilAffordable_15 : decode cX1_untilAffordable 15 = .ok (.iload_n 1, 1) := by decide +kernel
theorem dX1_untilAffordable_16 : decode cX1_untilAffordable 16 = .ok (.iload_n 2, 1) := by decide +kernel
theorem dX1_untilAffordable_17 : decode cX1_untilAffordable 17 = .ok (.invokevirtual 121, 3) := by decide +kernel
theorem dX1_untilAffordable_20 : decode cX1_untilAffordable 20 = .ok (.ifCond .eq 6, 3) := by decide +kernel
theorem dX1_untilAffordable_23 : decode cX1_untilAffordable 23 = .ok (.iload 4, 2) := by decide +kernel
theorem dX1_untilAffordable_25 : decode cX1_untilAffordable 25 = .ok (.ireturn, 1) := by decide +kernel
theorem dX1_untilAffordable_26 : decode cX1_untilAffordable 26 = .ok (.iconst 0, 1) := by decide +kernel
theorem dX1_untilAffordable_27 : decode cX1_untilAffordable 27 = .ok (.istore 5, 2) := by decide +kernel
theorem dX1_untilAffordable_29 : decode cX1_untilAffordable 29 = .ok (.iload 5, 2) := by decide +kernel
theorem dX1_untilAffordable_31 : decode cX1_untilAffordable 31 = .ok (.iconst 3, 1) := by decide +kernel
theorem dX1_untilAffordable_32 : decode cX1_untilAffordable 32 = .ok (.if_icmp .ge 18, 3) := by decide +kernel
theorem dX1_untilAffordable_35 : decode cX1_untilAffordable 35 = .ok (.aload_n 0, 1) := by decide +kernel
theorem dX1_untilAffordable_36 : decode cX1_untilAffordable 36 = .ok (.iload_n 1, 1) := by decide +kernel
theorem dX1_untilAffordable_37 : decode cX1_untilAffordable 37 = .ok (.iload 5, 2) := by decide +kernel
theorem dX1_untilAffordable_39 : decode cX1_untilAffordable 39 = .ok (.iload_n 3, 1) := by decide +kernel
theorem dX1_untilAffordable_40 : decode cX1_untilAffordable 40 = .ok (.invokevirtual 197, 3) := by decide +kernel
theorem dX1_untilAffordable_43 : decode cX1_untilAffordable 43 = .ok (.pop, 1) := by decide +kernel
theorem dX1_untilAffordable_44 : decode cX1_untilAffordable 44 = .ok (.iinc 5 1, 3) := by decide +kernel
theorem dX1_untilAffordable_47 : decode cX1_untilAffordable 47 = .ok (.goto (-18), 3) := by decide +kernel
theorem dX1_untilAffordable_50 : decode cX1_untilAffordable 50 = .ok (.sipush 601, 3) := by decide +kernel
theorem dX1_untilAffordable_53 : decode cX1_untilAffordable 53 = .ok (.iload 4, 2) := by decide +kernel
theorem dX1_untilAffordable_55 : decode cX1_untilAffordable 55 = .ok (.isub, 1) := by decide +kernel
theorem dX1_untilAffordable_56 : decode cX1_untilAffordable 56 = .ok (.istore 5, 2) := by decide +kernel
theorem dX1_untilAffordable_58 : decode cX1_untilAffordable 58 = .ok (.iconst 1, 1) := by decide +kernel
theorem dX1_untilAffordable_59 : decode cX1_untilAffordable 59 = .ok (.iload 5, 2) := by decide +kernel
theorem dX1_untilAffordable_61 : decode cX1_untilAffordable 61 = .ok (.aload_n 0, 1) := by decide +kernel
theorem dX1_untilAffordable_62 : decode cX1_untilAffordable 62 = .ok (.getfield 21, 3) := by decide +kernel
theorem dX1_untilAffordable_65 : decode cX1_untilAffordable 65 = .ok (.invokevirtual 161, 3) := by decide +kernel
theorem dX1_untilAffordable_68 : decode cX1_untilAffordable 68 = .ok (.invokestatic 164, 3) := by decide +kernel
theorem dX1_untilAffordable_71 : decode cX1_untilAffordable 71 = .ok (.invokestatic 169, 3) := by decide +kernel
theorem dX1_untilAffordable_74 : decode cX1_untilAffordable 74 = .ok (.istore 6, 2) := by decide +kernel
theorem dX1_untilAffordable_76 : decode cX1_untilAffordable 76 = .ok (.aload_n 0, 1) := by decide +kernel
theorem dX1_untilAffordable_77 : decode cX1_untilAffordable 77 = .ok (.iload 6, 2) := by decide +kernel
theorem dX1_untilAffordable_79 : decode cX1_untilAffordable 79 = .ok (.invokevirtual 158, 3) := by decide +kernel
theorem dX1_untilAffordable_82 : decode cX1_untilAffordable 82 = .ok (.pop, 1) := by decide +kernel
theorem dX1_untilAffordable_83 : decode cX1_untilAffordable 83 = .ok (.iload 4, 2) := by decide +kernel
theorem dX1_untilAffordable_85 : decode cX1_untilAffordable 85 = .ok (.iload 6, 2) := by decide +kernel
theorem dX1_untilAffordable_87 : decode cX1_untilAffordable 87 = .ok (.iadd, 1) := by decide +kernel
theorem dX1_untilAffordable_88 : decode cX1_untilAffordable 88 = .ok (.istore 4, 2) := by decide +kernel
theorem dX1_untilAffordable_90 : decode cX1_untilAffordable 90 = .ok (.goto (-87), 3) := by decide +kernel
theorem dX1_untilAffordable_93 : decode cX1_untilAffordable 93 = .ok (.ldc 190, 2) := by decide +kernel
theorem dX1_untilAffordable_95 : decode cX1_untilAffordable 95 = .ok (.ireturn, 1) := by decide +kernel
def vb_X1_untilAffordable_3 (Q : Int32 → Mem → Prop) (rec : Nat → Mem → Int32 → Int32 → Int32 → Int32 → Int32 → Prop) (γ : Mem) (w1 : Int32) (w2 : Int32) (w3 : Int32) (w4 : Int32) : Prop :=
  ((600 < w4) → (Q (-1000004) γ)) ∧ ((¬ 600 < w4) → (vc_X5_have (fun r2 => ((r2 = 0) → (rec 1 γ w1 w2 w3 w4 0)) ∧ ((¬ r2 = 0) → (Q w4 γ))) γ w1 w2))
def vb_X1_untilAffordable_29 (Q : Int32 → Mem → Prop) (rec : Nat → Mem → Int32 → Int32 → Int32 → Int32 → Int32 → Prop) (γ : Mem) (w1 : Int32) (w2 : Int32) (w3 : Int32) (w4 : Int32) (w5 : Int32) : Prop :=
  ((3 ≤ w5) → (∀ v5 : Int32, v5 = (601 - w4) → (vc_X2_untilNextOut (fun r6 => ∀ v7 : Int32, v7 = (if r6 < v5 then r6 else v5) → (∀ v8 : Int32, v8 = (if 1 < v7 then v7 else 1) → (vc_X1_advance (fun r9 γ10 => ∀ v11 : Int32, v11 = (w4 + v8) → (rec 0 γ10 w1 w2 w3 v11 0)) γ v8))) γ))) ∧ ((¬ 3 ≤ w5) → (vc_X1_putWorker (fun r12 γ13 => ∀ v14 : Int32, v14 = w5 + 1 → (rec 1 γ13 w1 w2 w3 w4 v14)) γ w1 w5 w3))
def vl_X1_untilAffordable (Q : Int32 → Mem → Prop) : Nat → Nat → Mem → Int32 → Int32 → Int32 → Int32 → Int32 → Prop
  | 0, _, _, _, _, _, _, _ => False
  | n + 1, 0, γ, w1, w2, w3, w4, _ => vb_X1_untilAffordable_3 Q (vl_X1_untilAffordable Q n) γ w1 w2 w3 w4
  | n + 1, 1, γ, w1, w2, w3, w4, w5 => vb_X1_untilAffordable_29 Q (vl_X1_untilAffordable Q n) γ w1 w2 w3 w4 w5
  | _ + 1, _, _, _, _, _, _, _ => False
def vc_X1_untilAffordable (Q : Int32 → Mem → Prop) (γ : Mem) (x1 : Int32) (x2 : Int32) (x3 : Int32) : Prop :=
  ∃ n : Nat, vl_X1_untilAffordable Q n 0 γ x1 x2 x3 0 0
set_option maxHeartbeats 8000000 in
set_option maxRecDepth 100000 in
theorem m_X1_untilAffordable (l : Launch) (G : GG) (aG : Nat) (γ : Mem) (x1 : Int32) (x2 : Int32) (x3 : Int32) (Q : Int32 → Mem → Prop) (h : vc_X1_untilAffordable Q γ x1 x2 x3) : CtI l yX1_untilAffordable cX1_untilAffordable 7 (some .int) { frames := 4, cells := 0, slots := 0, locals := 95 } [.ref (aG + 0), .int x1, .int x2, .int x3] G (fun H => rg G LG aG γ H) (Q) (fun u H => rg G LG aG u H) (RA aG 22) := by
  unfold CtI
  refine met_start (y := yX1_untilAffordable) (maxL := 7) (av := [.ref (aG + 0), .int x1, .int x2, .int x3]) (G := G) (P := fun H => rg G LG aG γ H) (by decide) rfl (Nat.le_of_ble_eq_true rfl) (fun p e s m below meth c ls C hr hP hK hl => ?_)
  obtain ⟨hx, hb, hml, hown, hts, hlocks⟩ := id C
  have hG : rg G LG aG γ s.heap := hP
  have hS : va_S (RA aG 22) s.heap s.heap [] := va_S.rf
  have hl : lv_has ls 7 [(0, .ref (aG + 0)), (1, .int x1), (2, .int x2), (3, .int x3)] := hl
  have K : ∀ n : Nat, (∀ (γ : Mem) (w1 : Int32) (w2 : Int32) (w3 : Int32) (w4 : Int32) (H : Heap) (locs : List Loc) (ls : Array Slot), rg G LG aG γ H → va_S (RA aG 22) s.heap H locs → lv_has ls 7 [(0, .ref (aG + 0)), (1, .int w1), (2, .int w2), (3, .int w3), (4, .int w4)] → vl_X1_untilAffordable Q n 0 γ w1 w2 w3 w4 0 → W p l e { frames := 4, cells := 0, slots := 0, locals := 95 } s m [.ref (aG + 0), .int x1, .int x2, .int x3].toArray below meth c H locs 0 0 (MQ below (va_Qi (Q) (fun u t => (fun u H => rg G LG aG u H) u t.heap ∧ KK G t) (RA aG 22)) [.ref (aG + 0), .int x1, .int x2, .int x3].toArray s 0 0 (RA aG 22)) (F0 m 3 ls [])) ∧ (∀ (γ : Mem) (w1 : Int32) (w2 : Int32) (w3 : Int32) (w4 : Int32) (w5 : Int32) (H : Heap) (locs : List Loc) (ls : Array Slot), rg G LG aG γ H → va_S (RA aG 22) s.heap H locs → lv_has ls 7 [(0, .ref (aG + 0)), (1, .int w1), (2, .int w2), (3, .int w3), (4, .int w4), (5, .int w5)] → vl_X1_untilAffordable Q n 1 γ w1 w2 w3 w4 w5 → W p l e { frames := 4, cells := 0, slots := 0, locals := 95 } s m [.ref (aG + 0), .int x1, .int x2, .int x3].toArray below meth c H locs 0 0 (MQ below (va_Qi (Q) (fun u t => (fun u H => rg G LG aG u H) u t.heap ∧ KK G t) (RA aG 22)) [.ref (aG + 0), .int x1, .int x2, .int x3].toArray s 0 0 (RA aG 22)) (F0 m 29 ls [])) := by
    intro n
    induction n with
    | zero => exact ⟨fun _ _ _ _ _ _ _ _ _ _ _ h => h.elim, fun _ _ _ _ _ _ _ _ _ _ _ _ h => h.elim⟩
    | succ n ih =>
      refine ⟨?_, ?_⟩
      · intro γ w1 w2 w3 w4 H locs ls hG hS hl h
        replace h : vb_X1_untilAffordable_3 Q (vl_X1_untilAffordable Q n) γ w1 w2 w3 w4 := h
        unfold vb_X1_untilAffordable_3 at h
        refine lv_iload hx hb dX1_untilAffordable_3 (lv_at hl 4 rfl) ?_
        refine lv_sipush (v := 600) hx hb dX1_untilAffordable_5 (by decide) ?_
        refine lv_icmp_gt (tgt := 93) hx hb dX1_untilAffordable_8 (by decide) (fun c1 => ?_) (fun c1 => ?_)
        · replace h := h.1 c1
          refine g_ldc C kc_X1_190 dX1_untilAffordable_93 ?_
          exact g_iret (post := Q) (P' := fun u H => rg G LG aG u H) (r := (-1000004)) (u := γ) C hr hK hS h hG dX1_untilAffordable_95
        · replace h := h.2 c1
          refine lv_aload_n hx hb dX1_untilAffordable_11 rfl (lv_at hl 0 rfl) ?_
          refine g_getR (a := aG) (k := 0) (o := 1) C hK hG fl_X1_12 rfl rfl dX1_untilAffordable_12 ?_
          refine lv_iload_n hx hb dX1_untilAffordable_15 rfl (lv_at hl 1 rfl) ?_
          refine lv_iload_n hx hb dX1_untilAffordable_16 rfl (lv_at hl 2 rfl) ?_
          refine g_vI C hK hl.1 (m_X5_have l G aG γ w1 w2 _ h) mw_X5_have mi_X5_have ml_X1_121 rfl ⟨rfl, rfl, Nat.le_of_ble_eq_true rfl, Nat.le_of_ble_eq_true rfl⟩ ⟨Nat.zero_le _, Nat.zero_le _⟩ (g_recv (a := aG) (k := 1) hK hG rfl rfl) hG hS (fun _ h => h.elim) rfl (Nat.le_of_ble_eq_true rfl) dX1_untilAffordable_17 (fun r2 u H locs h hu _ hq hS => ?_)
          have hG := hG.past hq (fun _ _ h => h)
          refine lv_if_eq (tgt := 26) hx hb dX1_untilAffordable_20 (by decide) (fun c3 => ?_) (fun c3 => ?_)
          · replace h := h.1 c3
            refine lv_iconst (v := 0) hx hb dX1_untilAffordable_26 (by decide) ?_
            refine lv_istore (lv' := [(5, .int 0), (0, .ref (aG + 0)), (1, .int w1), (2, .int w2), (3, .int w3), (4, .int w4)]) hx hb dX1_untilAffordable_27 hl (by decide) rfl (fun ls hl => ?_)
            exact (ih.2) γ w1 w2 w3 w4 0 _ _ _ hG hS (lv_sub hl [1, 2, 3, 4, 5, 0] rfl) h
          · replace h := h.2 c3
            refine lv_iload hx hb dX1_untilAffordable_23 (lv_at hl 4 rfl) ?_
            exact g_iret (post := Q) (P' := fun u H => rg G LG aG u H) (r := w4) (u := γ) C hr hK hS h hG dX1_untilAffordable_25
      · intro γ w1 w2 w3 w4 w5 H locs ls hG hS hl h
        replace h : vb_X1_untilAffordable_29 Q (vl_X1_untilAffordable Q n) γ w1 w2 w3 w4 w5 := h
        unfold vb_X1_untilAffordable_29 at h
        refine lv_iload hx hb dX1_untilAffordable_29 (lv_at hl 5 rfl) ?_
        refine lv_iconst (v := 3) hx hb dX1_untilAffordable_31 (by decide) ?_
        refine lv_icmp_ge (tgt := 50) hx hb dX1_untilAffordable_32 (by decide) (fun c4 => ?_) (fun c4 => ?_)
        · replace h := h.1 c4
          refine lv_sipush (v := 601) hx hb dX1_untilAffordable_50 (by decide) ?_
          refine lv_iload hx hb dX1_untilAffordable_53 (lv_at hl 4 rfl) ?_
          refine lv_isub hx hb dX1_untilAffordable_55 ?_
          refine lv_topi (fun v5 ev5 => ?_)
          specialize h v5 ev5
          refine lv_istore (lv' := [(5, .int v5), (0, .ref (aG + 0)), (1, .int w1), (2, .int w2), (3, .int w3), (4, .int w4)]) hx hb dX1_untilAffordable_56 hl (by decide) rfl (fun ls hl => ?_)
          refine lv_iconst (v := 1) hx hb dX1_untilAffordable_58 (by decide) ?_
          refine lv_iload hx hb dX1_untilAffordable_59 (lv_at hl 0 rfl) ?_
          refine lv_aload_n hx hb dX1_untilAffordable_61 rfl (lv_at hl 1 rfl) ?_
          refine g_getR (a := aG) (k := 0) (o := 4) C hK hG fl_X1_21 rfl rfl dX1_untilAffordable_62 ?_
          refine g_vI C hK hl.1 (m_X2_untilNextOut l G aG γ _ h) mw_X2_untilNextOut mi_X2_untilNextOut ml_X1_161 rfl ⟨rfl, rfl, Nat.le_of_ble_eq_true rfl, Nat.le_of_ble_eq_true rfl⟩ ⟨Nat.zero_le _, Nat.zero_le _⟩ (g_recv (a := aG) (k := 4) hK hG rfl rfl) hG hS (fun _ h => h.elim) rfl (Nat.le_of_ble_eq_true rfl) dX1_untilAffordable_65 (fun r6 u H locs h hu _ hq hS => ?_)
          have hG := hG.past hq (fun _ _ h => h)
          refine va_mmin hx hb (hml.trans hl.1.symm) hown (hts _ ml_X1_164) (hts _ math_min_s) (hts _ math_i) (hts _ math_min_c) (Nat.le_of_ble_eq_true rfl) (Nat.le_of_ble_eq_true rfl) (Nat.zero_le _) (Nat.zero_le _) dX1_untilAffordable_68 ?_
          refine lv_topi (fun v7 ev7 => ?_)
          specialize h v7 ev7
          refine va_mmax hx hb (hml.trans hl.1.symm) hown (hts _ ml_X1_169) (hts _ math_max_s) (hts _ math_i) (hts _ math_max_c) (Nat.le_of_ble_eq_true rfl) (Nat.le_of_ble_eq_true rfl) (Nat.zero_le _) (Nat.zero_le _) dX1_untilAffordable_71 ?_
          refine lv_topi (fun v8 ev8 => ?_)
          specialize h v8 ev8
          refine lv_istore (lv' := [(6, .int v8), (5, .int v5), (0, .ref (aG + 0)), (1, .int w1), (2, .int w2), (3, .int w3), (4, .int w4)]) hx hb dX1_untilAffordable_74 hl (by decide) rfl (fun ls hl => ?_)
          refine lv_aload_n hx hb dX1_untilAffordable_76 rfl (lv_at hl 2 rfl) ?_
          refine lv_iload hx hb dX1_untilAffordable_77 (lv_at hl 0 rfl) ?_
          refine g_vI C hK hl.1 (m_X1_advance l G aG γ v8 _ h) mw_X1_advance mi_X1_advance ml_X1_158 rfl ⟨rfl, rfl, Nat.le_of_ble_eq_true rfl, Nat.le_of_ble_eq_true rfl⟩ ⟨Nat.zero_le _, Nat.zero_le _⟩ (g_recv (a := aG) (k := 0) hK hG rfl rfl) hG hS (fun _ h => h) rfl (Nat.le_of_ble_eq_true rfl) dX1_untilAffordable_79 (fun r9 u H locs h hu _ hq hS => ?_)
          obtain ⟨γ10, rfl⟩ : ∃ z, z = u := ⟨_, rfl⟩
          have hG := hu
          refine lv_pop hx hb dX1_untilAffordable_82 rfl ?_
          refine lv_iload hx hb dX1_untilAffordable_83 (lv_at hl 6 rfl) ?_
          refine lv_iload hx hb dX1_untilAffordable_85 (lv_at hl 0 rfl) ?_
          refine lv_iadd hx hb dX1_untilAffordable_87 ?_
          refine lv_topi (fun v11 ev11 => ?_)
          specialize h v11 ev11
          refine lv_istore (lv' := [(4, .int v11), (6, .int v8), (5, .int v5), (0, .ref (aG + 0)), (1, .int w1), (2, .int w2), (3, .int w3)]) hx hb dX1_untilAffordable_88 hl (by decide) rfl (fun ls hl => ?_)
          refine lv_goto (tgt := 3) hx hb dX1_untilAffordable_90 (by decide) ?_
          exact (ih.1) γ10 w1 w2 w3 v11 _ _ _ hG hS (lv_sub hl [3, 4, 5, 6, 0] rfl) h
        · replace h := h.2 c4
          refine lv_aload_n hx hb dX1_untilAffordable_35 rfl (lv_at hl 0 rfl) ?_
          refine lv_iload_n hx hb dX1_untilAffordable_36 rfl (lv_at hl 1 rfl) ?_
          refine lv_iload hx hb dX1_untilAffordable_37 (lv_at hl 5 rfl) ?_
          refine lv_iload_n hx hb dX1_untilAffordable_39 rfl (lv_at hl 3 rfl) ?_
          refine g_vI C hK hl.1 (m_X1_putWorker l G aG γ w1 w5 w3 _ h) mw_X1_putWorker mi_X1_putWorker ml_X1_197 rfl ⟨rfl, rfl, Nat.le_of_ble_eq_true rfl, Nat.le_of_ble_eq_true rfl⟩ ⟨Nat.zero_le _, Nat.zero_le _⟩ (g_recv (a := aG) (k := 0) hK hG rfl rfl) hG hS (fun _ h => h) rfl (Nat.le_of_ble_eq_true rfl) dX1_untilAffordable_40 (fun r12 u H locs h hu _ hq hS => ?_)
          obtain ⟨γ13, rfl⟩ : ∃ z, z = u := ⟨_, rfl⟩
          have hG := hu
          refine lv_pop hx hb dX1_untilAffordable_43 rfl ?_
          obtain ⟨v14, ev14⟩ : ∃ y : Int32, y = w5 + 1 := ⟨_, rfl⟩
          specialize h v14 ev14
          refine lv_iinc (v := v14) (lv' := [(5, .int v14), (0, .ref (aG + 0)), (1, .int w1), (2, .int w2), (3, .int w3), (4, .int w4)]) hx hb dX1_untilAffordable_44 hl (k := 5) rfl (by rw [ev14]; rfl) (by decide) rfl (fun ls hl => ?_)
          refine lv_goto (tgt := 29) hx hb dX1_untilAffordable_47 (by decide) ?_
          exact (ih.2) γ13 w1 w2 w3 w4 v14 _ _ _ hG hS (lv_sub hl [1, 2, 3, 4, 5, 0] rfl) h
  unfold vc_X1_untilAffordable at h
  obtain ⟨n, h⟩ := h
  refine lv_iconst (v := 0) hx hb dX1_untilAffordable_0 (by decide) ?_
  refine lv_istore (lv' := [(4, .int 0), (0, .ref (aG + 0)), (1, .int x1), (2, .int x2), (3, .int x3)]) hx hb dX1_untilAffordable_1 hl (by decide) rfl (fun ls hl => ?_)
  exact ((K n).1) γ x1 x2 x3 0 _ _ _ hG hS (lv_sub hl [1, 2, 3, 4, 0] rfl) h
