theorem dX8_waited_0 : decode cX8_waited 0 = .ok (.aload_n 0, 1) := by decide +kernel
theorem dX8_waited_1 : decode cX8_waited 1 = .ok (.iconst 3, 1) := by decide +kernel
theorem dX8_waited_2 : decode cX8_waited 2 = .ok (.iload_n 1, 1) := by decide +kernel
theorem dX8_waited_3 : decode cX8_waited 3 = .ok (.imul, 1) := by decide +kernel
theorem dX8_waited_4 : decode cX8_waited 4 = .ok (.iconst 4, 1) := by decide +kernel
theorem dX8_waited_5 : decode cX8_waited 5 = .ok (.invokevirtual 60, 3) := by decide +kernel
theorem dX8_waited_8 : decode cX8_waited 8 = .ok (.aload_n 0, 1) := by decide +kernel
theorem dX8_waited_9 : decode cX8_waited 9 = .ok (.iconst 3, 1) := by decide +kernel
theorem dX8_waited_10 : decode cX8_waited 10 = .ok (.iload_n 1, 1) := by decide +kernel
theorem dX8_waited_11 : decode cX8_waited 11 = .ok (.imul, 1) := by decide +kernel
theorem dX8_waited_12 : decode cX8_waited 12 = .ok (.iconst 1, 1) := by decide +kernel
theorem dX8_waited_13 : decode cX8_waited 13 = .ok (.iadd, 1) := by decide +kernel
theorem dX8_waited_14 : decode cX8_waited 14 = .ok (.iconst 4, 1) := by decide +kernel
theorem dX8_waited_15 : decode cX8_waited 15 = .ok (.invokevirtual 60, 3) := by decide +kernel
theorem dX8_waited_18 : decode cX8_waited 18 = .ok (.iadd, 1) := by decide +kernel
theorem dX8_waited_19 : decode cX8_waited 19 = .ok (.aload_n 0, 1) := by decide +kernel
theorem dX8_waited_20 : decode cX8_waited 20 = .ok (.iconst 3, 1) := by decide +kernel
theorem dX8_waited_21 : decode cX8_waited 21 = .ok (.iload_n 1, 1) := by decide +kernel
theorem dX8_waited_22 : decode cX8_waited 22 = .ok (.imul, 1) := by decide +kernel
theorem dX8_waited_23 : decode cX8_waited 23 = .ok (.iconst 2, 1) := by decide +kernel
theorem dX8_waited_24 : decode cX8_waited 24 = .ok (.iadd, 1) := by decide +kernel
theorem dX8_waited_25 : decode cX8_waited 25 = .ok (.iconst 4, 1) := by decide +kernel
theorem dX8_waited_26 : decode cX8_waited 26 = .ok (.invokevirtual 60, 3) := by decide +kernel
theorem dX8_waited_29 : decode cX8_waited 29 = .ok (.iadd, 1) := by decide +kernel
theorem dX8_waited_30 : decode cX8_waited 30 = .ok (.ireturn, 1) := by decide +kernel
def vc_X8_waited (Q : Int32 → Prop) (ρ : Mem) (x1 : Int32) : Prop :=
  vc_X8_of (fun r1 => vc_X8_of (fun r2 => vc_X8_of (fun r3 => Q ((r1 + r2) + r3) ) ρ ((3 * x1) + 2) 4) ρ ((3 * x1) + 1) 4) ρ (3 * x1) 4
set_option maxHeartbeats 8000000 in
set_option maxRecDepth 100000 in
theorem m_X8_waited (l : Launch) (G : GG) (aM : Nat) (ρ : Mem) (x1 : Int32) (Q : Int32 → Prop) (h : vc_X8_waited Q ρ x1) : CtI l yX8_waited cX8_waited 2 (some .int) { frames := 1, cells := 0, slots := 0, locals := 22 } [.ref (aM + 0), .int x1] G (fun H => rg G LM aM ρ H) (fun r (_ : Unit) => Q r) (fun _ _ => True) (fun _ => False) := by
  unfold CtI
  refine met_start (y := yX8_waited) (maxL := 2) (av := [.ref (aM + 0), .int x1]) (G := G) (P := fun H => rg G LM aM ρ H) (by decide) rfl (Nat.le_of_ble_eq_true rfl) (fun p e s m below meth c ls C hr hP hK hl => ?_)
  obtain ⟨hx, hb, hml, hown, hts, hlocks⟩ := id C
  have hM : rg G LM aM ρ s.heap := hP
  have hS : va_S (fun _ => False) s.heap s.heap [] := va_S.rf
  have hl : lv_has ls 2 [(0, .ref (aM + 0)), (1, .int x1)] := hl
  unfold vc_X8_waited at h
  refine lv_aload_n hx hb dX8_waited_0 rfl (lv_at hl 0 rfl) ?_
  refine lv_iconst (v := 3) hx hb dX8_waited_1 (by decide) ?_
  refine lv_iload_n hx hb dX8_waited_2 rfl (lv_at hl 1 rfl) ?_
  refine lv_imul hx hb dX8_waited_3 ?_
  refine lv_iconst (v := 4) hx hb dX8_waited_4 (by decide) ?_
  refine g_vI C hK hl.1 (m_X8_of l G aM ρ (3 * x1) 4 _ h) mw_X8_of mi_X8_of ml_X8_60 rfl ⟨rfl, rfl, Nat.le_of_ble_eq_true rfl, Nat.le_of_ble_eq_true rfl⟩ ⟨Nat.zero_le _, Nat.zero_le _⟩ (g_recv (a := aM) (k := 0) hK hM rfl rfl) hM hS (fun _ h => h.elim) rfl (Nat.le_of_ble_eq_true rfl) dX8_waited_5 (fun r1 u H locs h hu _ hq hS => ?_)
  have hM := hM.past hq (fun _ _ h => h)
  refine lv_aload_n hx hb dX8_waited_8 rfl (lv_at hl 0 rfl) ?_
  refine lv_iconst (v := 3) hx hb dX8_waited_9 (by decide) ?_
  refine lv_iload_n hx hb dX8_waited_10 rfl (lv_at hl 1 rfl) ?_
  refine lv_imul hx hb dX8_waited_11 ?_
  refine lv_iconst (v := 1) hx hb dX8_waited_12 (by decide) ?_
  refine lv_iadd hx hb dX8_waited_13 ?_
  refine lv_iconst (v := 4) hx hb dX8_waited_14 (by decide) ?_
  refine g_vI C hK hl.1 (m_X8_of l G aM ρ ((3 * x1) + 1) 4 _ h) mw_X8_of mi_X8_of ml_X8_60 rfl ⟨rfl, rfl, Nat.le_of_ble_eq_true rfl, Nat.le_of_ble_eq_true rfl⟩ ⟨Nat.zero_le _, Nat.zero_le _⟩ (g_recv (a := aM) (k := 0) hK hM rfl rfl) hM hS (fun _ h => h.elim) rfl (Nat.le_of_ble_eq_true rfl) dX8_waited_15 (fun r2 u H locs h hu _ hq hS => ?_)
  have hM := hM.past hq (fun _ _ h => h)
  refine lv_iadd hx hb dX8_waited_18 ?_
  refine lv_aload_n hx hb dX8_waited_19 rfl (lv_at hl 0 rfl) ?_
  refine lv_iconst (v := 3) hx hb dX8_waited_20 (by decide) ?_
  refine lv_iload_n hx hb dX8_waited_21 rfl (lv_at hl 1 rfl) ?_
  refine lv_imul hx hb dX8_waited_22 ?_
  refine lv_iconst (v := 2) hx hb dX8_waited_23 (by decide) ?_
  refine lv_iadd hx hb dX8_waited_24 ?_
  refine lv_iconst (v := 4) hx hb dX8_waited_25 (by decide) ?_
  refine g_vI C hK hl.1 (m_X8_of l G aM ρ ((3 * x1) + 2) 4 _ h) mw_X8_of mi_X8_of ml_X8_60 rfl ⟨rfl, rfl, Nat.le_of_ble_eq_true rfl, Nat.le_of_ble_eq_true rfl⟩ ⟨Nat.zero_le _, Nat.zero_le _⟩ (g_recv (a := aM) (k := 0) hK hM rfl rfl) hM hS (fun _ h => h.elim) rfl (Nat.le_of_ble_eq_true rfl) dX8_waited_26 (fun r3 u H locs h hu _ hq hS => ?_)
  have hM := hM.past hq (fun _ _ h => h)
  refine lv_iadd hx hb dX8_waited_29 ?_
  exact g_iret (post := fun r (_ : Unit) => Q r) (P' := fun _ _ => True) (r := ((r1 + r2) + r3)) (u := ()) C hr hK hS h trivial dX8_waited_30
theorem dX8_nextOut_0 : decode cX8_nextOut 0 = .ok (.aload_n 0, 1) := by decide +kernel
theorem dX8_nextOut_1 : decode cX8_nextOut 1 = .ok (.iload_n 1, 1) := by decide +kernel
theorem dX8_nextOut_2 : decode cX8_nextOut 2 = .ok (.invokevirtual 110, 3) := by decide +kernel
theorem dX8_nextOut_5 : decode cX8_nextOut 5 = .ok (.iconst 3, 1) := by decide +kernel
theorem dX8_nextOut_6 : decode cX8_nextOut 6 = .ok (.if_icmp .ne 6, 3) := by decide +kernel
theorem dX8_nextOut_9 : decode cX8_nextOut 9 = .ok (.ldc 113, 2) := by decide +kernel
theorem dX8_nextOut_11 : decode cX8_nextOut 11 = .ok (.ireturn, 1) := by decide +kernel
theorem dX8_nextOut_12 : decode cX8_nextOut 12 = .ok (.aload_n 0, 1) := by decide +kernel
theorem dX8_nextOut_13 : decode cX8_nextOut 13 = .ok (.getfield 7, 3) := by decide +kernel
theorem dX8_nextOut_16 : decode cX8_nextOut 16 = .ok (.aload_n 0, 1) := by decide +kernel
theorem dX8_nextOut_17 : decode cX8_nextOut 17 = .ok (.getfield 19, 3) := by decide +kernel
theorem dX8_nextOut_20 : decode cX8_nextOut 20 = .ok (.invokestatic 114, 3) := by decide +kernel
theorem dX8_nextOut_23 : decode cX8_nextOut 23 = .ok (.aload_n 0, 1) := by decide +kernel
theorem dX8_nextOut_24 : decode cX8_nextOut 24 = .ok (.iload_n 1, 1) := by decide +kernel
theorem dX8_nextOut_25 : decode cX8_nextOut 25 = .ok (.invokevirtual 110, 3) := by decide +kernel
theorem dX8_nextOut_28 : decode cX8_nextOut 28 = .ok (.istore_n 2, 1) := by decide +kernel
theorem dX8_nextOut_29 : decode cX8_nextOut 29 = .ok (.iconst 0, 1) := by decide +kernel
theorem dX8_nextOut_30 : decode cX8_nextOut 30 = .ok (.istore_n 3, 1) := by decide +kernel
theorem dX8_nextOut_31 : decode cX8_nextOut 31 = .ok (.aload_n 0, 1) := by decide +kernel
theorem dX8_nextOut_32 : decode cX8_nextOut 32 = .ok (.iload_n 1, 1) := by decide +kernel
theorem dX8_nextOut_33 : decode cX8_nextOut 33 = .ok (.invokevirtual 110, 3) := by decide +kernel
theorem dX8_nextOut_36 : decode cX8_nextOut 36 = .ok (.iload_n 2, 1) := by decide +kernel
theorem dX8_nextOut_37 : decode cX8_nextOut 37 = .ok (.if_icmp .ne 13, 3) := by decide +kernel
theorem dX8_nextOut_40 : decode cX8_nextOut 40 = .ok (.aload_n 0, 1) := by decide +kernel
theorem dX8_nextOut_41 : decode cX8_nextOut 41 = .ok (.invokevirtual 107, 3) := by decide +kernel
theorem dX8_nextOut_44 : decode cX8_nextOut 44 = .ok (.iinc 3 1, 3) := by decide +kernel
theorem dX8_nextOut_47 : decode cX8_nextOut 47 = .ok (.goto (-16), 3) := by decide +kernel
theorem dX8_nextOut_50 : decode cX8_nextOut 50 = .ok (.aload_n 0, 1) := by decide +kernel
theorem dX8_nextOut_51 : decode cX8_nextOut 51 = .ok (.getfield 19, 3) := by decide +kernel
theorem dX8_nextOut_54 : decode cX8_nextOut 54 = .ok (.aload_n 0, 1) := by decide +kernel
theorem dX8_nextOut_55 : decode cX8_nextOut 55 = .ok (.getfield 7, 3) := by decide +kernel
theorem dX8_nextOut_58 : decode cX8_nextOut 58 = .ok (.invokestatic 114, 3) := by decide +kernel
theorem dX8_nextOut_61 : decode cX8_nextOut 61 = .ok (.iload_n 3, 1) := by decide +kernel
theorem dX8_nextOut_62 : decode cX8_nextOut 62 = .ok (.ireturn, 1) := by decide +kernel
def vb_X8_nextOut_31 (Q : Int32 → Mem → Prop) (rec : Nat → Mem → Int32 → Int32 → Int32 → Prop) (ρ : Mem) (w1 : Int32) (w2 : Int32) (w3 : Int32) : Prop :=
  vc_X8_outs (fun r6 => ((¬ r6 = w2) → (vc_X8_copies (fun ρ9 => Q w3 ρ9) ρ 4 1)) ∧ ((r6 = w2) → (vc_X8_goes (fun ρ11 => ∀ v12 : Int32, v12 = w3 + 1 → (rec 0 ρ11 w1 w2 v12)) ρ))) ρ w1
def vl_X8_nextOut (Q : Int32 → Mem → Prop) : Nat → Nat → Mem → Int32 → Int32 → Int32 → Prop
  | 0, _, _, _, _, _ => False
  | n + 1, 0, ρ, w1, w2, w3 => vb_X8_nextOut_31 Q (vl_X8_nextOut Q n) ρ w1 w2 w3
  | _ + 1, _, _, _, _, _ => False
def vc_X8_nextOut (Q : Int32 → Mem → Prop) (ρ : Mem) (x1 : Int32) : Prop :=
  ∃ n : Nat, vc_X8_outs (fun r1 => ((¬ r1 = 3) → (vc_X8_copies (fun ρ4 => vc_X8_outs (fun r5 => vl_X8_nextOut Q n 0 ρ4 x1 r5 0) ρ4 x1) ρ 1 4)) ∧ ((r1 = 3) → (Q (-1000004) ρ))) ρ x1
set_option maxHeartbeats 8000000 in
set_option maxRecDepth 100000 in
theorem m_X8_nextOut (l : Launch) (G : GG) (aM : Nat) (ρ : Mem) (x1 : Int32) (Q : Int32 → Mem → Prop) (h : vc_X8_nextOut Q ρ x1) : CtI l yX8_nextOut cX8_nextOut 4 (some .int) { frames := 4, cells := 0, slots := 0, locals := 90 } [.ref (aM + 0), .int x1] G (fun H => rg G LM aM ρ H) (Q) (fun u H => rg G LM aM u H) (RA aM 8) := by
  unfold CtI
  refine met_start (y := yX8_nextOut) (maxL := 4) (av := [.ref (aM + 0), .int x1]) (G := G) (P := fun H => rg G LM aM ρ H) (by decide) rfl (Nat.le_of_ble_eq_true rfl) (fun p e s m below meth c ls C hr hP hK hl => ?_)
  obtain ⟨hx, hb, hml, hown, hts, hlocks⟩ := id C
  have hM : rg G LM aM ρ s.heap := hP
  have hS : va_S (RA aM 8) s.heap s.heap [] := va_S.rf
  have hl : lv_has ls 4 [(0, .ref (aM + 0)), (1, .int x1)] := hl
  have K : ∀ n : Nat, (∀ (ρ : Mem) (w1 : Int32) (w2 : Int32) (w3 : Int32) (H : Heap) (locs : List Loc) (ls : Array Slot), rg G LM aM ρ H → va_S (RA aM 8) s.heap H locs → lv_has ls 4 [(0, .ref (aM + 0)), (1, .int w1), (2, .int w2), (3, .int w3)] → vl_X8_nextOut Q n 0 ρ w1 w2 w3 → W p l e { frames := 4, cells := 0, slots := 0, locals := 90 } s m [.ref (aM + 0), .int x1].toArray below meth c H locs 0 0 (MQ below (va_Qi (Q) (fun u t => (fun u H => rg G LM aM u H) u t.heap ∧ KK G t) (RA aM 8)) [.ref (aM + 0), .int x1].toArray s 0 0 (RA aM 8)) (F0 m 31 ls [])) := by
    intro n
    induction n with
    | zero => exact fun _ _ _ _ _ _ _ _ _ _ h => h.elim
    | succ n ih =>
      · intro ρ w1 w2 w3 H locs ls hM hS hl h
        replace h : vb_X8_nextOut_31 Q (vl_X8_nextOut Q n) ρ w1 w2 w3 := h
        unfold vb_X8_nextOut_31 at h
        refine lv_aload_n hx hb dX8_nextOut_31 rfl (lv_at hl 0 rfl) ?_
        refine lv_iload_n hx hb dX8_nextOut_32 rfl (lv_at hl 1 rfl) ?_
        refine g_vI C hK hl.1 (m_X8_outs l G aM ρ w1 _ h) mw_X8_outs mi_X8_outs ml_X8_110 rfl ⟨rfl, rfl, Nat.le_of_ble_eq_true rfl, Nat.le_of_ble_eq_true rfl⟩ ⟨Nat.zero_le _, Nat.zero_le _⟩ (g_recv (a := aM) (k := 0) hK hM rfl rfl) hM hS (fun _ h => h.elim) rfl (Nat.le_of_ble_eq_true rfl) dX8_nextOut_33 (fun r6 u H locs h hu _ hq hS => ?_)
        have hM := hM.past hq (fun _ _ h => h)
        refine lv_iload_n hx hb dX8_nextOut_36 rfl (lv_at hl 2 rfl) ?_
        refine lv_icmp_ne (tgt := 50) hx hb dX8_nextOut_37 (by decide) (fun c7 => ?_) (fun c7 => ?_)
        · replace h := h.1 c7
          refine lv_aload_n hx hb dX8_nextOut_50 rfl (lv_at hl 0 rfl) ?_
          refine g_getR (a := aM) (k := 0) (o := 4) C hK hM fl_X8_19 rfl rfl dX8_nextOut_51 ?_
          refine lv_aload_n hx hb dX8_nextOut_54 rfl (lv_at hl 0 rfl) ?_
          refine g_getR (a := aM) (k := 0) (o := 1) C hK hM fl_X8_7 rfl rfl dX8_nextOut_55 ?_
          refine g_sV C hK hl.1 (m_X8_copies l G aM ρ 4 rfl 1 rfl _ h) mw_X8_copies ms_X8_copies ml_X8_114 rfl ⟨rfl, rfl, Nat.le_of_ble_eq_true rfl, Nat.le_of_ble_eq_true rfl⟩ ⟨Nat.zero_le _, Nat.zero_le _⟩ hM hS (fun _ h => h) rfl (Nat.le_of_ble_eq_true rfl) dX8_nextOut_58 (fun u H locs h hu _ hq hS => ?_)
          obtain ⟨ρ9, rfl⟩ : ∃ z, z = u := ⟨_, rfl⟩
          have hM := hu
          refine lv_iload_n hx hb dX8_nextOut_61 rfl (lv_at hl 3 rfl) ?_
          exact g_iret (post := Q) (P' := fun u H => rg G LM aM u H) (r := w3) (u := ρ9) C hr hK hS h hM dX8_nextOut_62
        · replace h := h.2 c7
          refine lv_aload_n hx hb dX8_nextOut_40 rfl (lv_at hl 0 rfl) ?_
          refine g_vV C hK hl.1 (m_X8_goes l G aM ρ _ h) mw_X8_goes mi_X8_goes ml_X8_107 rfl ⟨rfl, rfl, Nat.le_of_ble_eq_true rfl, Nat.le_of_ble_eq_true rfl⟩ ⟨Nat.zero_le _, Nat.zero_le _⟩ (g_recv (a := aM) (k := 0) hK hM rfl rfl) hM hS (fun _ h => h) rfl (Nat.le_of_ble_eq_true rfl) dX8_nextOut_41 (fun u H locs h hu _ hq hS => ?_)
          obtain ⟨ρ11, rfl⟩ : ∃ z, z = u := ⟨_, rfl⟩
          have hM := hu
          obtain ⟨v12, ev12⟩ : ∃ y : Int32, y = w3 + 1 := ⟨_, rfl⟩
          specialize h v12 ev12
          refine lv_iinc (v := v12) (lv' := [(3, .int v12), (0, .ref (aM + 0)), (1, .int w1), (2, .int w2)]) hx hb dX8_nextOut_44 hl (k := 3) rfl (by rw [ev12]; rfl) (by decide) rfl (fun ls hl => ?_)
          refine lv_goto (tgt := 31) hx hb dX8_nextOut_47 (by decide) ?_
          exact (ih) ρ11 w1 w2 v12 _ _ _ hM hS (lv_sub hl [1, 2, 3, 0] rfl) h
  unfold vc_X8_nextOut at h
  obtain ⟨n, h⟩ := h
  refine lv_aload_n hx hb dX8_nextOut_0 rfl (lv_at hl 0 rfl) ?_
  refine lv_iload_n hx hb dX8_nextOut_1 rfl (lv_at hl 1 rfl) ?_
  refine g_vI C hK hl.1 (m_X8_outs l G aM ρ x1 _ h) mw_X8_outs mi_X8_outs ml_X8_110 rfl ⟨rfl, rfl, Nat.le_of_ble_eq_true rfl, Nat.le_of_ble_eq_true rfl⟩ ⟨Nat.zero_le _, Nat.zero_le _⟩ (g_recv (a := aM) (k := 0) hK hM rfl rfl) hM hS (fun _ h => h.elim) rfl (Nat.le_of_ble_eq_true rfl) dX8_nextOut_2 (fun r1 u H locs h hu _ hq hS => ?_)
  have hM := hM.past hq (fun _ _ h => h)
  refine lv_iconst (v := 3) hx hb dX8_nextOut_5 (by decide) ?_
  refine lv_icmp_ne (tgt := 12) hx hb dX8_nextOut_6 (by decide) (fun c2 => ?_) (fun c2 => ?_)
  · replace h := h.1 c2
    refine lv_aload_n hx hb dX8_nextOut_12 rfl (lv_at hl 0 rfl) ?_
    refine g_getR (a := aM) (k := 0) (o := 1) C hK hM fl_X8_7 rfl rfl dX8_nextOut_13 ?_
    refine lv_aload_n hx hb dX8_nextOut_16 rfl (lv_at hl 0 rfl) ?_
    refine g_getR (a := aM) (k := 0) (o := 4) C hK hM fl_X8_19 rfl rfl dX8_nextOut_17 ?_
    refine g_sV C hK hl.1 (m_X8_copies l G aM ρ 1 rfl 4 rfl _ h) mw_X8_copies ms_X8_copies ml_X8_114 rfl ⟨rfl, rfl, Nat.le_of_ble_eq_true rfl, Nat.le_of_ble_eq_true rfl⟩ ⟨Nat.zero_le _, Nat.zero_le _⟩ hM hS (fun _ h => h) rfl (Nat.le_of_ble_eq_true rfl) dX8_nextOut_20 (fun u H locs h hu _ hq hS => ?_)
    obtain ⟨ρ4, rfl⟩ : ∃ z, z = u := ⟨_, rfl⟩
    have hM := hu
    refine lv_aload_n hx hb dX8_nextOut_23 rfl (lv_at hl 0 rfl) ?_
    refine lv_iload_n hx hb dX8_nextOut_24 rfl (lv_at hl 1 rfl) ?_
    refine g_vI C hK hl.1 (m_X8_outs l G aM ρ4 x1 _ h) mw_X8_outs mi_X8_outs ml_X8_110 rfl ⟨rfl, rfl, Nat.le_of_ble_eq_true rfl, Nat.le_of_ble_eq_true rfl⟩ ⟨Nat.zero_le _, Nat.zero_le _⟩ (g_recv (a := aM) (k := 0) hK hM rfl rfl) hM hS (fun _ h => h.elim) rfl (Nat.le_of_ble_eq_true rfl) dX8_nextOut_25 (fun r5 u H locs h hu _ hq hS => ?_)
    have hM := hM.past hq (fun _ _ h => h)
    refine lv_istore_n (lv' := [(2, .int r5), (0, .ref (aM + 0)), (1, .int x1)]) hx hb dX8_nextOut_28 rfl hl (by decide) rfl (fun ls hl => ?_)
    refine lv_iconst (v := 0) hx hb dX8_nextOut_29 (by decide) ?_
    refine lv_istore_n (lv' := [(3, .int 0), (2, .int r5), (0, .ref (aM + 0)), (1, .int x1)]) hx hb dX8_nextOut_30 rfl hl (by decide) rfl (fun ls hl => ?_)
    exact ((K n)) ρ4 x1 r5 0 _ _ _ hM hS (lv_sub hl [2, 3, 1, 0] rfl) h
  · replace h := h.2 c2
    refine g_ldc C kc_X8_113 dX8_nextOut_9 ?_
    exact g_iret (post := Q) (P' := fun u H => rg G LM aM u H) (r := (-1000004)) (u := ρ) C hr hK hS h hM dX8_nextOut_11
theorem dX8_playerOf_0 : decode cX8_playerOf 0 = .ok (.aload_n 0, 1) := by decide +kernel
theorem dX8_playerOf_1 : decode cX8_playerOf 1 = .ok (.iload_n 1, 1) := by decide +kernel
theorem dX8_playerOf_2 : decode cX8_playerOf 2 = .ok (.invokevirtual 39, 3) := by decide +kernel
theorem dX8_playerOf_5 : decode cX8_playerOf 5 = .ok (.ifCond .eq 13, 3) := by decide +kernel
theorem dX8_playerOf_8 : decode cX8_playerOf 8 = .ok (.iload_n 2, 1) := by decide +kernel
theorem dX8_playerOf_9 : decode cX8_playerOf 9 = .ok (.iconst 0, 1) := by decide +kernel
theorem dX8_playerOf_10 : decode cX8_playerOf 10 = .ok (.bipush 7, 2) := by decide +kernel
theorem dX8_playerOf_12 : decode cX8_playerOf 12 = .ok (.invokestatic 43, 3) := by decide +kernel
theorem dX8_playerOf_15 : decode cX8_playerOf 15 = .ok (.ifCond .ne 6, 3) := by decide +kernel
theorem dX8_playerOf_18 : decode cX8_playerOf 18 = .ok (.ldc 59, 2) := by decide +kernel
theorem dX8_playerOf_20 : decode cX8_playerOf 20 = .ok (.ireturn, 1) := by decide +kernel
theorem dX8_playerOf_21 : decode cX8_playerOf 21 = .ok (.iload_n 2, 1) := by decide +kernel
theorem dX8_playerOf_22 : decode cX8_playerOf 22 = .ok (.iconst 5, 1) := by decide +kernel
theorem dX8_playerOf_23 : decode cX8_playerOf 23 = .ok (.if_icmp .ge 19, 3) := by decide +kernel
theorem dX8_playerOf_26 : decode cX8_playerOf 26 = .ok (.aload_n 0, 1) := by decide +kernel
theorem dX8_playerOf_27 : decode cX8_playerOf 27 = .ok (.getfield 7, 3) := by decide +kernel
theorem dX8_playerOf_30 : decode cX8_playerOf 30 = .ok (.bipush 8, 2) := by decide +kernel
theorem dX8_playerOf_32 : decode cX8_playerOf 32 = .ok (.iconst 5, 1) := by decide +kernel
theorem dX8_playerOf_33 : decode cX8_playerOf 33 = .ok (.iload_n 1, 1) := by decide +kernel
theorem dX8_playerOf_34 : decode cX8_playerOf 34 = .ok (.imul, 1) := by decide +kernel
theorem dX8_playerOf_35 : decode cX8_playerOf 35 = .ok (.iadd, 1) := by decide +kernel
theorem dX8_playerOf_36 : decode cX8_playerOf 36 = .ok (.iload_n 2, 1) := by decide +kernel
theorem dX8_playerOf_37 : decode cX8_playerOf 37 = .ok (.iadd, 1) := by decide +kernel
theorem dX8_playerOf_38 : decode cX8_playerOf 38 = .ok (.iaload, 1) := by decide +kernel
theorem dX8_playerOf_39 : decode cX8_playerOf 39 = .ok (.goto 35, 3) := by decide +kernel
theorem dX8_playerOf_42 : decode cX8_playerOf 42 = .ok (.iload_n 2, 1) := by decide +kernel
theorem dX8_playerOf_43 : decode cX8_playerOf 43 = .ok (.iconst 5, 1) := by decide +kernel
theorem dX8_playerOf_44 : decode cX8_playerOf 44 = .ok (.if_icmp .ne 11, 3) := by decide +kernel
theorem dX8_playerOf_47 : decode cX8_playerOf 47 = .ok (.aload_n 0, 1) := by decide +kernel
theorem dX8_playerOf_48 : decode cX8_playerOf 48 = .ok (.iload_n 1, 1) := by decide +kernel
theorem dX8_playerOf_49 : decode cX8_playerOf 49 = .ok (.invokevirtual 110, 3) := by decide +kernel
theorem dX8_playerOf_52 : decode cX8_playerOf 52 = .ok (.goto 22, 3) := by decide +kernel
theorem dX8_playerOf_55 : decode cX8_playerOf 55 = .ok (.iload_n 2, 1) := by decide +kernel
theorem dX8_playerOf_56 : decode cX8_playerOf 56 = .ok (.bipush 6, 2) := by decide +kernel
theorem dX8_playerOf_58 : decode cX8_playerOf 58 = .ok (.if_icmp .ne 11, 3) := by decide +kernel
theorem dX8_playerOf_61 : decode cX8_playerOf 61 = .ok (.aload_n 0, 1) := by decide +kernel
theorem dX8_playerOf_62 : decode cX8_playerOf 62 = .ok (.iload_n 1, 1) := by decide +kernel
theorem dX8_playerOf_63 : decode cX8_playerOf 63 = .ok (.invokevirtual 118, 3) := by decide +kernel
theorem dX8_playerOf_66 : decode cX8_playerOf 66 = .ok (.goto 8, 3) := by decide +kernel
theorem dX8_playerOf_69 : decode cX8_playerOf 69 = .ok (.aload_n 0, 1) := by decide +kernel
theorem dX8_playerOf_70 : decode cX8_playerOf 70 = .ok (.iload_n 1, 1) := by decide +kernel
theorem dX8_playerOf_71 : decode cX8_playerOf 71 = .ok (.invokevirtual 121, 3) := by decide +kernel
theorem dX8_playerOf_74 : decode cX8_playerOf 74 = .ok (.ireturn, 1) := by decide +kernel
def vc_X8_playerOf (Q : Int32 → Mem → Prop) (ρ : Mem) (x1 : Int32) (x2 : Int32) : Prop :=
  vc_X8_isPlayer (fun r1 => ((r1 = 0) → (Q (-1000001) ρ)) ∧ ((¬ r1 = 0) → (vc_X8_in (fun r3 => ((¬ r3 = 0) → (((5 ≤ x2) → (((¬ x2 = 5) → (((¬ x2 = 6) → (vc_X8_nextOut (fun r8 ρ9 => Q r8 ρ9) ρ x1)) ∧ ((x2 = 6) → (vc_X8_waited (fun r10 => Q r10 ρ) ρ x1)))) ∧ ((x2 = 5) → (vc_X8_outs (fun r11 => Q r11 ρ) ρ x1)))) ∧ ((¬ 5 ≤ x2) → (vp_in ((8 + (5 * x1)) + x2) 164 ∧ (Q (ρ 1 ((8 + (5 * x1)) + x2).toNatClampNeg) ρ))))) ∧ ((r3 = 0) → (Q (-1000001) ρ))) x2 0 7))) ρ x1
set_option maxHeartbeats 8000000 in
set_option maxRecDepth 100000 in
theorem m_X8_playerOf (l : Launch) (G : GG) (aM : Nat) (ρ : Mem) (x1 : Int32) (x2 : Int32) (Q : Int32 → Mem → Prop) (h : vc_X8_playerOf Q ρ x1 x2) : CtI l yX8_playerOf cX8_playerOf 3 (some .int) { frames := 5, cells := 0, slots := 0, locals := 113 } [.ref (aM + 0), .int x1, .int x2] G (fun H => rg G LM aM ρ H) (Q) (fun u H => rg G LM aM u H) (RA aM 8) := by
  unfold CtI
  refine met_start (y := yX8_playerOf) (maxL := 3) (av := [.ref (aM + 0), .int x1, .int x2]) (G := G) (P := fun H => rg G LM aM ρ H) (by decide) rfl (Nat.le_of_ble_eq_true rfl) (fun p e s m below meth c ls C hr hP hK hl => ?_)
  obtain ⟨hx, hb, hml, hown, hts, hlocks⟩ := id C
  have hM : rg G LM aM ρ s.heap := hP
  have hS : va_S (RA aM 8) s.heap s.heap [] := va_S.rf
  have hl : lv_has ls 3 [(0, .ref (aM + 0)), (1, .int x1), (2, .int x2)] := hl
  unfold vc_X8_playerOf at h
  refine lv_aload_n hx hb dX8_playerOf_0 rfl (lv_at hl 0 rfl) ?_
  refine lv_iload_n hx hb dX8_playerOf_1 rfl (lv_at hl 1 rfl) ?_
  refine g_vI C hK hl.1 (m_X8_isPlayer l G aM ρ x1 _ h) mw_X8_isPlayer mi_X8_isPlayer ml_X8_39 rfl ⟨rfl, rfl, Nat.le_of_ble_eq_true rfl, Nat.le_of_ble_eq_true rfl⟩ ⟨Nat.zero_le _, Nat.zero_le _⟩ (g_recv (a := aM) (k := 0) hK hM rfl rfl) hM hS (fun _ h => h.elim) rfl (Nat.le_of_ble_eq_true rfl) dX8_playerOf_2 (fun r1 u H locs h hu _ hq hS => ?_)
  have hM := hM.past hq (fun _ _ h => h)
  refine lv_if_eq (tgt := 18) hx hb dX8_playerOf_5 (by decide) (fun c2 => ?_) (fun c2 => ?_)
  · replace h := h.1 c2
    refine g_ldc C kc_X8_59 dX8_playerOf_18 ?_
    exact g_iret (post := Q) (P' := fun u H => rg G LM aM u H) (r := (-1000001)) (u := ρ) C hr hK hS h hM dX8_playerOf_20
  · replace h := h.2 c2
    refine lv_iload_n hx hb dX8_playerOf_8 rfl (lv_at hl 2 rfl) ?_
    refine lv_iconst (v := 0) hx hb dX8_playerOf_9 (by decide) ?_
    refine lv_bipush (v := 7) hx hb dX8_playerOf_10 (by decide) ?_
    refine g_sI C hK hl.1 (m_X8_in l G x2 0 7 _ h) mw_X8_in ms_X8_in ml_X8_43 rfl ⟨rfl, rfl, Nat.le_of_ble_eq_true rfl, Nat.le_of_ble_eq_true rfl⟩ ⟨Nat.zero_le _, Nat.zero_le _⟩ trivial hS (fun _ h => h.elim) rfl (Nat.le_of_ble_eq_true rfl) dX8_playerOf_12 (fun r3 u H locs h hu _ hq hS => ?_)
    have hM := hM.past hq (fun _ _ h => h)
    refine lv_if_ne (tgt := 21) hx hb dX8_playerOf_15 (by decide) (fun c4 => ?_) (fun c4 => ?_)
    · replace h := h.1 c4
      refine lv_iload_n hx hb dX8_playerOf_21 rfl (lv_at hl 2 rfl) ?_
      refine lv_iconst (v := 5) hx hb dX8_playerOf_22 (by decide) ?_
      refine lv_icmp_ge (tgt := 42) hx hb dX8_playerOf_23 (by decide) (fun c5 => ?_) (fun c5 => ?_)
      · replace h := h.1 c5
        refine lv_iload_n hx hb dX8_playerOf_42 rfl (lv_at hl 2 rfl) ?_
        refine lv_iconst (v := 5) hx hb dX8_playerOf_43 (by decide) ?_
        refine lv_icmp_ne (tgt := 55) hx hb dX8_playerOf_44 (by decide) (fun c6 => ?_) (fun c6 => ?_)
        · replace h := h.1 c6
          refine lv_iload_n hx hb dX8_playerOf_55 rfl (lv_at hl 2 rfl) ?_
          refine lv_bipush (v := 6) hx hb dX8_playerOf_56 (by decide) ?_
          refine lv_icmp_ne (tgt := 69) hx hb dX8_playerOf_58 (by decide) (fun c7 => ?_) (fun c7 => ?_)
          · replace h := h.1 c7
            refine lv_aload_n hx hb dX8_playerOf_69 rfl (lv_at hl 0 rfl) ?_
            refine lv_iload_n hx hb dX8_playerOf_70 rfl (lv_at hl 1 rfl) ?_
            refine g_vI C hK hl.1 (m_X8_nextOut l G aM ρ x1 _ h) mw_X8_nextOut mi_X8_nextOut ml_X8_121 rfl ⟨rfl, rfl, Nat.le_of_ble_eq_true rfl, Nat.le_of_ble_eq_true rfl⟩ ⟨Nat.zero_le _, Nat.zero_le _⟩ (g_recv (a := aM) (k := 0) hK hM rfl rfl) hM hS (fun _ h => h) rfl (Nat.le_of_ble_eq_true rfl) dX8_playerOf_71 (fun r8 u H locs h hu _ hq hS => ?_)
            obtain ⟨ρ9, rfl⟩ : ∃ z, z = u := ⟨_, rfl⟩
            have hM := hu
            exact g_iret (post := Q) (P' := fun u H => rg G LM aM u H) (r := r8) (u := ρ9) C hr hK hS h hM dX8_playerOf_74
          · replace h := h.2 c7
            refine lv_aload_n hx hb dX8_playerOf_61 rfl (lv_at hl 0 rfl) ?_
            refine lv_iload_n hx hb dX8_playerOf_62 rfl (lv_at hl 1 rfl) ?_
            refine g_vI C hK hl.1 (m_X8_waited l G aM ρ x1 _ h) mw_X8_waited mi_X8_waited ml_X8_118 rfl ⟨rfl, rfl, Nat.le_of_ble_eq_true rfl, Nat.le_of_ble_eq_true rfl⟩ ⟨Nat.zero_le _, Nat.zero_le _⟩ (g_recv (a := aM) (k := 0) hK hM rfl rfl) hM hS (fun _ h => h.elim) rfl (Nat.le_of_ble_eq_true rfl) dX8_playerOf_63 (fun r10 u H locs h hu _ hq hS => ?_)
            have hM := hM.past hq (fun _ _ h => h)
            refine lv_goto (tgt := 74) hx hb dX8_playerOf_66 (by decide) ?_
            exact g_iret (post := Q) (P' := fun u H => rg G LM aM u H) (r := r10) (u := ρ) C hr hK hS h hM dX8_playerOf_74
        · replace h := h.2 c6
          refine lv_aload_n hx hb dX8_playerOf_47 rfl (lv_at hl 0 rfl) ?_
          refine lv_iload_n hx hb dX8_playerOf_48 rfl (lv_at hl 1 rfl) ?_
          refine g_vI C hK hl.1 (m_X8_outs l G aM ρ x1 _ h) mw_X8_outs mi_X8_outs ml_X8_110 rfl ⟨rfl, rfl, Nat.le_of_ble_eq_true rfl, Nat.le_of_ble_eq_true rfl⟩ ⟨Nat.zero_le _, Nat.zero_le _⟩ (g_recv (a := aM) (k := 0) hK hM rfl rfl) hM hS (fun _ h => h.elim) rfl (Nat.le_of_ble_eq_true rfl) dX8_playerOf_49 (fun r11 u H locs h hu _ hq hS => ?_)
          have hM := hM.past hq (fun _ _ h => h)
          refine lv_goto (tgt := 74) hx hb dX8_playerOf_52 (by decide) ?_
          exact g_iret (post := Q) (P' := fun u H => rg G LM aM u H) (r := r11) (u := ρ) C hr hK hS h hM dX8_playerOf_74
      · replace h := h.2 c5
        refine lv_aload_n hx hb dX8_playerOf_26 rfl (lv_at hl 0 rfl) ?_
        refine g_getR (a := aM) (k := 0) (o := 1) C hK hM fl_X8_7 rfl rfl dX8_playerOf_27 ?_
        refine lv_bipush (v := 8) hx hb dX8_playerOf_30 (by decide) ?_
        refine lv_iconst (v := 5) hx hb dX8_playerOf_32 (by decide) ?_
        refine lv_iload_n hx hb dX8_playerOf_33 rfl (lv_at hl 1 rfl) ?_
        refine lv_imul hx hb dX8_playerOf_34 ?_
        refine lv_iadd hx hb dX8_playerOf_35 ?_
        refine lv_iload_n hx hb dX8_playerOf_36 rfl (lv_at hl 2 rfl) ?_
        refine lv_iadd hx hb dX8_playerOf_37 ?_
        obtain ⟨b12, h⟩ := h
        refine g_ald (a := aM) (k := 1) (n := 164) C hK hM rfl b12 dX8_playerOf_38 ?_
        refine lv_goto (tgt := 74) hx hb dX8_playerOf_39 (by decide) ?_
        exact g_iret (post := Q) (P' := fun u H => rg G LM aM u H) (r := (ρ 1 ((8 + (5 * x1)) + x2).toNatClampNeg)) (u := ρ) C hr hK hS h hM dX8_playerOf_74
    · replace h := h.2 c4
      refine g_ldc C kc_X8_59 dX8_playerOf_18 ?_
      exact g_iret (post := Q) (P' := fun u H => rg G LM aM u H) (r := (-1000001)) (u := ρ) C hr hK hS h hM dX8_playerOf_20
theorem dX8_workerOf_0 : decode cX8_workerOf 0 = .ok (.aload_n 0, 1) := by decide +kernel
theorem dX8_workerOf_1 : decode cX8_workerOf 1 = .ok (.iload_n 1, 1) := by decide +kernel
theorem dX8_workerOf_2 : decode cX8_workerOf 2 = .ok (.iload_n 2, 1) := by decide +kernel
theorem dX8_workerOf_3 : decode cX8_workerOf 3 = .ok (.invokevirtual 55, 3) := by decide +kernel
theorem dX8_workerOf_6 : decode cX8_workerOf 6 = .ok (.ifCond .eq 12, 3) := by decide +kernel
theorem dX8_workerOf_9 : decode cX8_workerOf 9 = .ok (.iload_n 3, 1) := by decide +kernel
theorem dX8_workerOf_10 : decode cX8_workerOf 10 = .ok (.iconst 0, 1) := by decide +kernel
theorem dX8_workerOf_11 : decode cX8_workerOf 11 = .ok (.iconst 5, 1) := by decide +kernel
theorem dX8_workerOf_12 : decode cX8_workerOf 12 = .ok (.invokestatic 43, 3) := by decide +kernel
theorem dX8_workerOf_15 : decode cX8_workerOf 15 = .ok (.ifCond .ne 6, 3) := by decide +kernel
theorem dX8_workerOf_18 : decode cX8_workerOf 18 = .ok (.ldc 59, 2) := by decide +kernel
theorem dX8_workerOf_20 : decode cX8_workerOf 20 = .ok (.ireturn, 1) := by decide +kernel
theorem dX8_workerOf_21 : decode cX8_workerOf 21 = .ok (.aload_n 0, 1) := by decide +kernel
theorem dX8_workerOf_22 : decode cX8_workerOf 22 = .ok (.iconst 3, 1) := by decide +kernel
theorem dX8_workerOf_23 : decode cX8_workerOf 23 = .ok (.iload_n 1, 1) := by decide +kernel
theorem dX8_workerOf_24 : decode cX8_workerOf 24 = .ok (.imul, 1) := by decide +kernel
theorem dX8_workerOf_25 : decode cX8_workerOf 25 = .ok (.iload_n 2, 1) := by decide +kernel
theorem dX8_workerOf_26 : decode cX8_workerOf 26 = .ok (.iadd, 1) := by decide +kernel
theorem dX8_workerOf_27 : decode cX8_workerOf 27 = .ok (.iload_n 3, 1) := by decide +kernel
theorem dX8_workerOf_28 : decode cX8_workerOf 28 = .ok (.invokevirtual 60, 3) := by decide +kernel
theorem dX8_workerOf_31 : decode cX8_workerOf 31 = .ok (.istore 4, 2) := by decide +kernel
theorem dX8_workerOf_33 : decode cX8_workerOf 33 = .ok (.iload_n 3, 1) := by decide +kernel
theorem dX8_workerOf_34 : decode cX8_workerOf 34 = .ok (.iconst 1, 1) := by decide +kernel
theorem dX8_workerOf_35 : decode cX8_workerOf 35 = .ok (.if_icmp .ne 13, 3) := by decide +kernel
theorem dX8_workerOf_38 : decode cX8_workerOf 38 = .ok (.iload 4, 2) := by decide +kernel
theorem dX8_workerOf_40 : decode cX8_workerOf 40 = .ok (.ifCond .ge 8, 3) := by decide +kernel
theorem dX8_workerOf_43 : decode cX8_workerOf 43 = .ok (.ldc 113, 2) := by decide +kernel
theorem dX8_workerOf_45 : decode cX8_workerOf 45 = .ok (.goto 5, 3) := by decide +kernel
theorem dX8_workerOf_48 : decode cX8_workerOf 48 = .ok (.iload 4, 2) := by decide +kernel
theorem dX8_workerOf_50 : decode cX8_workerOf 50 = .ok (.ireturn, 1) := by decide +kernel
def vc_X8_workerOf (Q : Int32 → Prop) (ρ : Mem) (x1 : Int32) (x2 : Int32) (x3 : Int32) : Prop :=
  vc_X8_isWorker (fun r1 => ((r1 = 0) → (Q (-1000001) )) ∧ ((¬ r1 = 0) → (vc_X8_in (fun r3 => ((¬ r3 = 0) → (vc_X8_of (fun r5 => ((¬ x3 = 1) → (Q r5 )) ∧ ((x3 = 1) → (((0 ≤ r5) → (Q r5 )) ∧ ((¬ 0 ≤ r5) → (Q (-1000004) ))))) ρ ((3 * x1) + x2) x3)) ∧ ((r3 = 0) → (Q (-1000001) ))) x3 0 5))) ρ x1 x2
set_option maxHeartbeats 8000000 in
set_option maxRecDepth 100000 in
theorem m_X8_workerOf (l : Launch) (G : GG) (aM : Nat) (ρ : Mem) (x1 : Int32) (x2 : Int32) (x3 : Int32) (Q : Int32 → Prop) (h : vc_X8_workerOf Q ρ x1 x2 x3) : CtI l yX8_workerOf cX8_workerOf 5 (some .int) { frames := 2, cells := 0, slots := 0, locals := 44 } [.ref (aM + 0), .int x1, .int x2, .int x3] G (fun H => rg G LM aM ρ H) (fun r (_ : Unit) => Q r) (fun _ _ => True) (fun _ => False) := by
  unfold CtI
  refine met_start (y := yX8_workerOf) (maxL := 5) (av := [.ref (aM + 0), .int x1, .int x2, .int x3]) (G := G) (P := fun H => rg G LM aM ρ H) (by decide) rfl (Nat.le_of_ble_eq_true rfl) (fun p e s m below meth c ls C hr hP hK hl => ?_)
  obtain ⟨hx, hb, hml, hown, hts, hlocks⟩ := id C
  have hM : rg G LM aM ρ s.heap := hP
  have hS : va_S (fun _ => False) s.heap s.heap [] := va_S.rf
  have hl : lv_has ls 5 [(0, .ref (aM + 0)), (1, .int x1), (2, .int x2), (3, .int x3)] := hl
  unfold vc_X8_workerOf at h
  refine lv_aload_n hx hb dX8_workerOf_0 rfl (lv_at hl 0 rfl) ?_
  refine lv_iload_n hx hb dX8_workerOf_1 rfl (lv_at hl 1 rfl) ?_
  refine lv_iload_n hx hb dX8_workerOf_2 rfl (lv_at hl 2 rfl) ?_
  refine g_vI C hK hl.1 (m_X8_isWorker l G aM ρ x1 x2 _ h) mw_X8_isWorker mi_X8_isWorker ml_X8_55 rfl ⟨rfl, rfl, Nat.le_of_ble_eq_true rfl, Nat.le_of_ble_eq_true rfl⟩ ⟨Nat.zero_le _, Nat.zero_le _⟩ (g_recv (a := aM) (k := 0) hK hM rfl rfl) hM hS (fun _ h => h.elim) rfl (Nat.le_of_ble_eq_true rfl) dX8_workerOf_3 (fun r1 u H locs h hu _ hq hS => ?_)
  have hM := hM.past hq (fun _ _ h => h)
  refine lv_if_eq (tgt := 18) hx hb dX8_workerOf_6 (by decide) (fun c2 => ?_) (fun c2 => ?_)
  · replace h := h.1 c2
    refine g_ldc C kc_X8_59 dX8_workerOf_18 ?_
    exact g_iret (post := fun r (_ : Unit) => Q r) (P' := fun _ _ => True) (r := (-1000001)) (u := ()) C hr hK hS h trivial dX8_workerOf_20
  · replace h := h.2 c2
    refine lv_iload_n hx hb dX8_workerOf_9 rfl (lv_at hl 3 rfl) ?_
    refine lv_iconst (v := 0) hx hb dX8_workerOf_10 (by decide) ?_
    refine lv_iconst (v := 5) hx hb dX8_workerOf_11 (by decide) ?_
    refine g_sI C hK hl.1 (m_X8_in l G x3 0 5 _ h) mw_X8_in ms_X8_in ml_X8_43 rfl ⟨rfl, rfl, Nat.le_of_ble_eq_true rfl, Nat.le_of_ble_eq_true rfl⟩ ⟨Nat.zero_le _, Nat.zero_le _⟩ trivial hS (fun _ h => h.elim) rfl (Nat.le_of_ble_eq_true rfl) dX8_workerOf_12 (fun r3 u H locs h hu _ hq hS => ?_)
    have hM := hM.past hq (fun _ _ h => h)
    refine lv_if_ne (tgt := 21) hx hb dX8_workerOf_15 (by decide) (fun c4 => ?_) (fun c4 => ?_)
    · replace h := h.1 c4
      refine lv_aload_n hx hb dX8_workerOf_21 rfl (lv_at hl 0 rfl) ?_
      refine lv_iconst (v := 3) hx hb dX8_workerOf_22 (by decide) ?_
      refine lv_iload_n hx hb dX8_workerOf_23 rfl (lv_at hl 1 rfl) ?_
      refine lv_imul hx hb dX8_workerOf_24 ?_
      refine lv_iload_n hx hb dX8_workerOf_25 rfl (lv_at hl 2 rfl) ?_
      refine lv_iadd hx hb dX8_workerOf_26 ?_
      refine lv_iload_n hx hb dX8_workerOf_27 rfl (lv_at hl 3 rfl) ?_
      refine g_vI C hK hl.1 (m_X8_of l G aM ρ ((3 * x1) + x2) x3 _ h) mw_X8_of mi_X8_of ml_X8_60 rfl ⟨rfl, rfl, Nat.le_of_ble_eq_true rfl, Nat.le_of_ble_eq_true rfl⟩ ⟨Nat.zero_le _, Nat.zero_le _⟩ (g_recv (a := aM) (k := 0) hK hM rfl rfl) hM hS (fun _ h => h.elim) rfl (Nat.le_of_ble_eq_true rfl) dX8_workerOf_28 (fun r5 u H locs h hu _ hq hS => ?_)
      have hM := hM.past hq (fun _ _ h => h)
      refine lv_istore (lv' := [(4, .int r5), (0, .ref (aM + 0)), (1, .int x1), (2, .int x2), (3, .int x3)]) hx hb dX8_workerOf_31 hl (by decide) rfl (fun ls hl => ?_)
      refine lv_iload_n hx hb dX8_workerOf_33 rfl (lv_at hl 4 rfl) ?_
      refine lv_iconst (v := 1) hx hb dX8_workerOf_34 (by decide) ?_
      refine lv_icmp_ne (tgt := 48) hx hb dX8_workerOf_35 (by decide) (fun c6 => ?_) (fun c6 => ?_)
      · replace h := h.1 c6
        refine lv_iload hx hb dX8_workerOf_48 (lv_at hl 0 rfl) ?_
        exact g_iret (post := fun r (_ : Unit) => Q r) (P' := fun _ _ => True) (r := r5) (u := ()) C hr hK hS h trivial dX8_workerOf_50
      · replace h := h.2 c6
        refine lv_iload hx hb dX8_workerOf_38 (lv_at hl 0 rfl) ?_
        refine lv_if_ge (tgt := 48) hx hb dX8_workerOf_40 (by decide) (fun c7 => ?_) (fun c7 => ?_)
        · replace h := h.1 c7
          refine lv_iload hx hb dX8_workerOf_48 (lv_at hl 0 rfl) ?_
          exact g_iret (post := fun r (_ : Unit) => Q r) (P' := fun _ _ => True) (r := r5) (u := ()) C hr hK hS h trivial dX8_workerOf_50
        · replace h := h.2 c7
          refine g_ldc C kc_X8_113 dX8_workerOf_43 ?_
          refine lv_goto (tgt := 50) hx hb dX8_workerOf_45 (by decide) ?_
          exact g_iret (post := fun r (_ : Unit) => Q r) (P' := fun _ _ => True) (r := (-1000004)) (u := ()) C hr hK hS h trivial dX8_workerOf_50
    · replace h := h.2 c4
      refine g_ldc C kc_X8_59 dX8_workerOf_18 ?_
      exact g_iret (post := fun r (_ : Unit) => Q r) (P' := fun _ _ => True) (r := (-1000001)) (u := ()) C hr hK hS h trivial dX8_workerOf_20
theorem dX8_taskOf_0 : decode cX8_taskOf 0 = .ok (.aload_n 0, 1) := by decide +kernel
theorem dX8_taskOf_1 : decode cX8_taskOf 1 = .ok (.iload_n 1, 1) := by decide +kernel
theorem dX8_taskOf_2 : decode cX8_taskOf 2 = .ok (.invokevirtual 82, 3) := by decide +kernel
theorem dX8_taskOf_5 : decode cX8_taskOf 5 = .ok (.ifCond .eq 12, 3) := by decide +kernel
theorem dX8_taskOf_8 : decode cX8_taskOf 8 = .ok (.iload_n 2, 1) := by decide +kernel
theorem dX8_taskOf_9 : decode cX8_taskOf 9 = .ok (.iconst 0, 1) := by decide +kernel
theorem dX8_taskOf_10 : decode cX8_taskOf 10 = .ok (.iconst 5, 1) := by decide +kernel
theorem dX8_taskOf_11 : decode cX8_taskOf 11 = .ok (.invokestatic 43, 3) := by decide +kernel
theorem dX8_taskOf_14 : decode cX8_taskOf 14 = .ok (.ifCond .ne 6, 3) := by decide +kernel
theorem dX8_taskOf_17 : decode cX8_taskOf 17 = .ok (.ldc 59, 2) := by decide +kernel
theorem dX8_taskOf_19 : decode cX8_taskOf 19 = .ok (.ireturn, 1) := by decide +kernel
theorem dX8_taskOf_20 : decode cX8_taskOf 20 = .ok (.iload_n 2, 1) := by decide +kernel
theorem dX8_taskOf_21 : decode cX8_taskOf 21 = .ok (.iconst 4, 1) := by decide +kernel
theorem dX8_taskOf_22 : decode cX8_taskOf 22 = .ok (.if_icmp .ne 11, 3) := by decide +kernel
theorem dX8_taskOf_25 : decode cX8_taskOf 25 = .ok (.aload_n 0, 1) := by decide +kernel
theorem dX8_taskOf_26 : decode cX8_taskOf 26 = .ok (.iload_n 1, 1) := by decide +kernel
theorem dX8_taskOf_27 : decode cX8_taskOf 27 = .ok (.invokevirtual 71, 3) := by decide +kernel
theorem dX8_taskOf_30 : decode cX8_taskOf 30 = .ok (.goto 18, 3) := by decide +kernel
theorem dX8_taskOf_33 : decode cX8_taskOf 33 = .ok (.aload_n 0, 1) := by decide +kernel
theorem dX8_taskOf_34 : decode cX8_taskOf 34 = .ok (.iload_n 1, 1) := by decide +kernel
theorem dX8_taskOf_35 : decode cX8_taskOf 35 = .ok (.iload_n 2, 1) := by decide +kernel
theorem dX8_taskOf_36 : decode cX8_taskOf 36 = .ok (.iconst 5, 1) := by decide +kernel
theorem dX8_taskOf_37 : decode cX8_taskOf 37 = .ok (.if_icmp .ne 7, 3) := by decide +kernel
theorem dX8_taskOf_40 : decode cX8_taskOf 40 = .ok (.iconst 4, 1) := by decide +kernel
theorem dX8_taskOf_41 : decode cX8_taskOf 41 = .ok (.goto 4, 3) := by decide +kernel
theorem dX8_taskOf_44 : decode cX8_taskOf 44 = .ok (.iload_n 2, 1) := by decide +kernel
theorem dX8_taskOf_45 : decode cX8_taskOf 45 = .ok (.invokevirtual 64, 3) := by decide +kernel
theorem dX8_taskOf_48 : decode cX8_taskOf 48 = .ok (.ireturn, 1) := by decide +kernel
def vc_X8_taskOf (Q : Int32 → Prop) (ρ : Mem) (x1 : Int32) (x2 : Int32) : Prop :=
  vc_X8_isTask (fun r1 => ((r1 = 0) → (Q (-1000001) )) ∧ ((¬ r1 = 0) → (vc_X8_in (fun r3 => ((¬ r3 = 0) → (((¬ x2 = 4) → (((¬ x2 = 5) → (vc_X8_ofTask (fun r7 => Q r7 ) ρ x1 x2)) ∧ ((x2 = 5) → (vc_X8_ofTask (fun r8 => Q r8 ) ρ x1 4)))) ∧ ((x2 = 4) → (vc_X8_left (fun r9 => Q r9 ) ρ x1)))) ∧ ((r3 = 0) → (Q (-1000001) ))) x2 0 5))) ρ x1
set_option maxHeartbeats 8000000 in
set_option maxRecDepth 100000 in
theorem m_X8_taskOf (l : Launch) (G : GG) (aM : Nat) (ρ : Mem) (x1 : Int32) (x2 : Int32) (Q : Int32 → Prop) (h : vc_X8_taskOf Q ρ x1 x2) : CtI l yX8_taskOf cX8_taskOf 3 (some .int) { frames := 2, cells := 0, slots := 0, locals := 45 } [.ref (aM + 0), .int x1, .int x2] G (fun H => rg G LM aM ρ H) (fun r (_ : Unit) => Q r) (fun _ _ => True) (fun _ => False) := by
  unfold CtI
  refine met_start (y := yX8_taskOf) (maxL := 3) (av := [.ref (aM + 0), .int x1, .int x2]) (G := G) (P := fun H => rg G LM aM ρ H) (by decide) rfl (Nat.le_of_ble_eq_true rfl) (fun p e s m below meth c ls C hr hP hK hl => ?_)
  obtain ⟨hx, hb, hml, hown, hts, hlocks⟩ := id C
  have hM : rg G LM aM ρ s.heap := hP
  have hS : va_S (fun _ => False) s.heap s.heap [] := va_S.rf
  have hl : lv_has ls 3 [(0, .ref (aM + 0)), (1, .int x1), (2, .int x2)] := hl
  unfold vc_X8_taskOf at h
  refine lv_aload_n hx hb dX8_taskOf_0 rfl (lv_at hl 0 rfl) ?_
  refine lv_iload_n hx hb dX8_taskOf_1 rfl (lv_at hl 1 rfl) ?_
  refine g_vI C hK hl.1 (m_X8_isTask l G aM ρ x1 _ h) mw_X8_isTask mi_X8_isTask ml_X8_82 rfl ⟨rfl, rfl, Nat.le_of_ble_eq_true rfl, Nat.le_of_ble_eq_true rfl⟩ ⟨Nat.zero_le _, Nat.zero_le _⟩ (g_recv (a := aM) (k := 0) hK hM rfl rfl) hM hS (fun _ h => h.elim) rfl (Nat.le_of_ble_eq_true rfl) dX8_taskOf_2 (fun r1 u H locs h hu _ hq hS => ?_)
  have hM := hM.past hq (fun _ _ h => h)
  refine lv_if_eq (tgt := 17) hx hb dX8_taskOf_5 (by decide) (fun c2 => ?_) (fun c2 => ?_)
  · replace h := h.1 c2
    refine g_ldc C kc_X8_59 dX8_taskOf_17 ?_
    exact g_iret (post := fun r (_ : Unit) => Q r) (P' := fun _ _ => True) (r := (-1000001)) (u := ()) C hr hK hS h trivial dX8_taskOf_19
  · replace h := h.2 c2
    refine lv_iload_n hx hb dX8_taskOf_8 rfl (lv_at hl 2 rfl) ?_
    refine lv_iconst (v := 0) hx hb dX8_taskOf_9 (by decide) ?_
    refine lv_iconst (v := 5) hx hb dX8_taskOf_10 (by decide) ?_
    refine g_sI C hK hl.1 (m_X8_in l G x2 0 5 _ h) mw_X8_in ms_X8_in ml_X8_43 rfl ⟨rfl, rfl, Nat.le_of_ble_eq_true rfl, Nat.le_of_ble_eq_true rfl⟩ ⟨Nat.zero_le _, Nat.zero_le _⟩ trivial hS (fun _ h => h.elim) rfl (Nat.le_of_ble_eq_true rfl) dX8_taskOf_11 (fun r3 u H locs h hu _ hq hS => ?_)
    have hM := hM.past hq (fun _ _ h => h)
    refine lv_if_ne (tgt := 20) hx hb dX8_taskOf_14 (by decide) (fun c4 => ?_) (fun c4 => ?_)
    · replace h := h.1 c4
      refine lv_iload_n hx hb dX8_taskOf_20 rfl (lv_at hl 2 rfl) ?_
      refine lv_iconst (v := 4) hx hb dX8_taskOf_21 (by decide) ?_
      refine lv_icmp_ne (tgt := 33) hx hb dX8_taskOf_22 (by decide) (fun c5 => ?_) (fun c5 => ?_)
      · replace h := h.1 c5
        refine lv_aload_n hx hb dX8_taskOf_33 rfl (lv_at hl 0 rfl) ?_
        refine lv_iload_n hx hb dX8_taskOf_34 rfl (lv_at hl 1 rfl) ?_
        refine lv_iload_n hx hb dX8_taskOf_35 rfl (lv_at hl 2 rfl) ?_
        refine lv_iconst (v := 5) hx hb dX8_taskOf_36 (by decide) ?_
        refine lv_icmp_ne (tgt := 44) hx hb dX8_taskOf_37 (by decide) (fun c6 => ?_) (fun c6 => ?_)
        · replace h := h.1 c6
          refine lv_iload_n hx hb dX8_taskOf_44 rfl (lv_at hl 2 rfl) ?_
          refine g_vI C hK hl.1 (m_X8_ofTask l G aM ρ x1 x2 _ h) mw_X8_ofTask mi_X8_ofTask ml_X8_64 rfl ⟨rfl, rfl, Nat.le_of_ble_eq_true rfl, Nat.le_of_ble_eq_true rfl⟩ ⟨Nat.zero_le _, Nat.zero_le _⟩ (g_recv (a := aM) (k := 0) hK hM rfl rfl) hM hS (fun _ h => h.elim) rfl (Nat.le_of_ble_eq_true rfl) dX8_taskOf_45 (fun r7 u H locs h hu _ hq hS => ?_)
          have hM := hM.past hq (fun _ _ h => h)
          exact g_iret (post := fun r (_ : Unit) => Q r) (P' := fun _ _ => True) (r := r7) (u := ()) C hr hK hS h trivial dX8_taskOf_48
        · replace h := h.2 c6
          refine lv_iconst (v := 4) hx hb dX8_taskOf_40 (by decide) ?_
          refine lv_goto (tgt := 45) hx hb dX8_taskOf_41 (by decide) ?_
          refine g_vI C hK hl.1 (m_X8_ofTask l G aM ρ x1 4 _ h) mw_X8_ofTask mi_X8_ofTask ml_X8_64 rfl ⟨rfl, rfl, Nat.le_of_ble_eq_true rfl, Nat.le_of_ble_eq_true rfl⟩ ⟨Nat.zero_le _, Nat.zero_le _⟩ (g_recv (a := aM) (k := 0) hK hM rfl rfl) hM hS (fun _ h => h.elim) rfl (Nat.le_of_ble_eq_true rfl) dX8_taskOf_45 (fun r8 u H locs h hu _ hq hS => ?_)
          have hM := hM.past hq (fun _ _ h => h)
          exact g_iret (post := fun r (_ : Unit) => Q r) (P' := fun _ _ => True) (r := r8) (u := ()) C hr hK hS h trivial dX8_taskOf_48
      · replace h := h.2 c5
        refine lv_aload_n hx hb dX8_taskOf_25 rfl (lv_at hl 0 rfl) ?_
        refine lv_iload_n hx hb dX8_taskOf_26 rfl (lv_at hl 1 rfl) ?_
        refine g_vI C hK hl.1 (m_X8_left l G aM ρ x1 _ h) mw_X8_left mi_X8_left ml_X8_71 rfl ⟨rfl, rfl, Nat.le_of_ble_eq_true rfl, Nat.le_of_ble_eq_true rfl⟩ ⟨Nat.zero_le _, Nat.zero_le _⟩ (g_recv (a := aM) (k := 0) hK hM rfl rfl) hM hS (fun _ h => h.elim) rfl (Nat.le_of_ble_eq_true rfl) dX8_taskOf_27 (fun r9 u H locs h hu _ hq hS => ?_)
        have hM := hM.past hq (fun _ _ h => h)
        refine lv_goto (tgt := 48) hx hb dX8_taskOf_30 (by decide) ?_
        exact g_iret (post := fun r (_ : Unit) => Q r) (P' := fun _ _ => True) (r := r9) (u := ()) C hr hK hS h trivial dX8_taskOf_48
    · replace h := h.2 c4
      refine g_ldc C kc_X8_59 dX8_taskOf_17 ?_
      exact g_iret (post := fun r (_ : Unit) => Q r) (P' := fun _ _ => True) (r := (-1000001)) (u := ()) C hr hK hS h trivial dX8_taskOf_19
theorem dX8_told_0 : decode cX8_told 0 = .ok (.iload_n 0, 1) := by decide +kernel
theorem dX8_told_1 : decode cX8_told 1 = .ok (.iconst 3, 1) := by decide +kernel
theorem dX8_told_2 : decode cX8_told 2 = .ok (.idiv, 1) := by decide +kernel
theorem dX8_told_3 : decode cX8_told 3 = .ok (.bipush 10, 2) := by decide +kernel
theorem dX8_told_5 : decode cX8_told 5 = .ok (.imul, 1) := by decide +kernel
theorem dX8_told_6 : decode cX8_told 6 = .ok (.iload_n 0, 1) := by decide +kernel
theorem dX8_told_7 : decode cX8_told 7 = .ok (.iconst 3, 1) := by decide +kernel
theorem dX8_told_8 : decode cX8_told 8 = .ok (.irem, 1) := by decide +kernel
theorem dX8_told_9 : decode cX8_told 9 = .ok (.iadd, 1) := by decide +kernel
theorem dX8_told_10 : decode cX8_told 10 = .ok (.ireturn, 1) := by decide +kernel
def vc_X8_told (Q : Int32 → Prop) (x0 : Int32) : Prop :=
  Q (((x0 / 3) * 10) + (x0 - x0 / 3 * 3)) 
set_option maxHeartbeats 8000000 in
set_option maxRecDepth 100000 in
theorem m_X8_told (l : Launch) (G : GG) (x0 : Int32) (Q : Int32 → Prop) (h : vc_X8_told Q x0) : CtI l yX8_told cX8_told 1 (some .int) { frames := 0, cells := 0, slots := 0, locals := 0 } [.int x0] G (fun H => True) (fun r (_ : Unit) => Q r) (fun _ _ => True) (fun _ => False) := by
  unfold CtI
  refine met_start (y := yX8_told) (maxL := 1) (av := [.int x0]) (G := G) (P := fun H => True) (by decide) rfl (Nat.le_of_ble_eq_true rfl) (fun p e s m below meth c ls C hr hP hK hl => ?_)
  obtain ⟨hx, hb, hml, hown, hts, hlocks⟩ := id C
  have hS : va_S (fun _ => False) s.heap s.heap [] := va_S.rf
  have hl : lv_has ls 1 [(0, .int x0)] := hl
  unfold vc_X8_told at h
  refine lv_iload_n hx hb dX8_told_0 rfl (lv_at hl 0 rfl) ?_
  refine lv_iconst (v := 3) hx hb dX8_told_1 (by decide) ?_
  refine lv_idiv hx hb dX8_told_2 (by decide) ?_
  refine lv_bipush (v := 10) hx hb dX8_told_3 (by decide) ?_
  refine lv_imul hx hb dX8_told_5 ?_
  refine lv_iload_n hx hb dX8_told_6 rfl (lv_at hl 0 rfl) ?_
  refine lv_iconst (v := 3) hx hb dX8_told_7 (by decide) ?_
  refine lv_irem hx hb dX8_told_8 (by decide) ?_
  refine lv_iadd hx hb dX8_told_9 ?_
  exact g_iret (post := fun r (_ : Unit) => Q r) (P' := fun _ _ => True) (r := (((x0 / 3) * 10) + (x0 - x0 / 3 * 3))) (u := ()) C hr hK hS h trivial dX8_told_10
theorem dX8_on_0 : decode cX8_on 0 = .ok (.aload_n 0, 1) := by decide +kernel
theorem dX8_on_1 : decode cX8_on 1 = .ok (.iload_n 1, 1) := by decide +kernel
theorem dX8_on_2 : decode cX8_on 2 = .ok (.invokevirtual 82, 3) := by decide +kernel
theorem dX8_on_5 : decode cX8_on 5 = .ok (.ifCond .eq 7, 3) := by decide +kernel
theorem dX8_on_8 : decode cX8_on 8 = .ok (.iload_n 2, 1) := by decide +kernel
theorem dX8_on_9 : decode cX8_on 9 = .ok (.ifCond .ge 6, 3) := by decide +kernel
theorem dX8_on_12 : decode cX8_on 12 = .ok (.ldc 59, 2) := by decide +kernel
theorem dX8_on_14 : decode cX8_on 14 = .ok (.ireturn, 1) := by decide +kernel
theorem dX8_on_15 : decode cX8_on 15 = .ok (.iconst 0, 1) := by decide +kernel
theorem dX8_on_16 : decode cX8_on 16 = .ok (.istore_n 3, 1) := by decide +kernel
theorem dX8_on_17 : decode cX8_on 17 = .ok (.iload_n 3, 1) := by decide +kernel
theorem dX8_on_18 : decode cX8_on 18 = .ok (.aload_n 0, 1) := by decide +kernel
theorem dX8_on_19 : decode cX8_on 19 = .ok (.invokevirtual 67, 3) := by decide +kernel
theorem dX8_on_22 : decode cX8_on 22 = .ok (.if_icmp .ge 90, 3) := by decide +kernel
theorem dX8_on_25 : decode cX8_on 25 = .ok (.iconst 0, 1) := by decide +kernel
theorem dX8_on_26 : decode cX8_on 26 = .ok (.istore 4, 2) := by decide +kernel
theorem dX8_on_28 : decode cX8_on 28 = .ok (.iconst 0, 1) := by decide +kernel
theorem dX8_on_29 : decode cX8_on 29 = .ok (.istore 5, 2) := by decide +kernel
theorem dX8_on_31 : decode cX8_on 31 = .ok (.iload 5, 2) := by decide +kernel
theorem dX8_on_33 : decode cX8_on 33 = .ok (.aload_n 0, 1) := by decide +kernel
theorem dX8_on_34 : decode cX8_on 34 = .ok (.invokevirtual 67, 3) := by decide +kernel
theorem dX8_on_37 : decode cX8_on 37 = .ok (.if_icmp .ge 48, 3) := by decide +kernel
theorem dX8_on_40 : decode cX8_on 40 = .ok (.iload 4, 2) := by decide +kernel
theorem dX8_on_42 : decode cX8_on 42 = .ok (.aload_n 0, 1) := by decide +kernel
theorem dX8_on_43 : decode cX8_on 43 = .ok (.iload 5, 2) := by decide +kernel
theorem dX8_on_45 : decode cX8_on 45 = .ok (.iconst 1, 1) := by decide +kernel
theorem dX8_on_46 : decode cX8_on 46 = .ok (.invokevirtual 60, 3) := by decide +kernel
theorem dX8_on_49 : decode cX8_on 49 = .ok (.iload_n 1, 1) := by decide +kernel
theorem dX8_on_50 : decode cX8_on 50 = .ok (.if_icmp .ne 25, 3) := by decide +kernel
theorem dX8_on_53 : decode cX8_on 53 = .ok (.aload_n 0, 1) := by decide +kernel
theorem dX8_on_54 : decode cX8_on 54 = .ok (.iload 5, 2) := by decide +kernel
theorem dX8_on_56 : decode cX8_on 56 = .ok (.bipush 6, 2) := by decide +kernel
theorem dX8_on_58 : decode cX8_on 58 = .ok (.invokevirtual 60, 3) := by decide +kernel
theorem dX8_on_61 : decode cX8_on 61 = .ok (.aload_n 0, 1) := by decide +kernel
theorem dX8_on_62 : decode cX8_on 62 = .ok (.iload_n 3, 1) := by decide +kernel
theorem dX8_on_63 : decode cX8_on 63 = .ok (.bipush 6, 2) := by decide +kernel
theorem dX8_on_65 : decode cX8_on 65 = .ok (.invokevirtual 60, 3) := by decide +kernel
theorem dX8_on_68 : decode cX8_on 68 = .ok (.if_icmp .ge 7, 3) := by decide +kernel
theorem dX8_on_71 : decode cX8_on 71 = .ok (.iconst 1, 1) := by decide +kernel
theorem dX8_on_72 : decode cX8_on 72 = .ok (.goto 4, 3) := by decide +kernel
theorem dX8_on_75 : decode cX8_on 75 = .ok (.iconst 0, 1) := by decide +kernel
theorem dX8_on_76 : decode cX8_on 76 = .ok (.iadd, 1) := by decide +kernel
theorem dX8_on_77 : decode cX8_on 77 = .ok (.istore 4, 2) := by decide +kernel
theorem dX8_on_79 : decode cX8_on 79 = .ok (.iinc 5 1, 3) := by decide +kernel
theorem dX8_on_82 : decode cX8_on 82 = .ok (.goto (-51), 3) := by decide +kernel
theorem dX8_on_85 : decode cX8_on 85 = .ok (.aload_n 0, 1) := by decide +kernel
theorem dX8_on_86 : decode cX8_on 86 = .ok (.iload_n 3, 1) := by decide +kernel
theorem dX8_on_87 : decode cX8_on 87 = .ok (.iconst 1, 1) := by decide +kernel
theorem dX8_on_88 : decode cX8_on 88 = .ok (.invokevirtual 60, 3) := by decide +kernel
theorem dX8_on_91 : decode cX8_on 91 = .ok (.iload_n 1, 1) := by decide +kernel
theorem dX8_on_92 : decode cX8_on 92 = .ok (.if_icmp .ne 14, 3) := by decide +kernel
theorem dX8_on_95 : decode cX8_on 95 = .ok (.iload 4, 2) := by decide +kernel
theorem dX8_on_97 : decode cX8_on 97 = .ok (.iload_n 2, 1) := by decide +kernel
theorem dX8_on_98 : decode cX8_on 98 = .ok (.if_icmp .ne 8, 3) := by decide +kernel
theorem dX8_on_101 : decode cX8_on 101 = .ok (.iload_n 3, 1) := by decide +kernel
theorem dX8_on_102 : decode cX8_on 102 = .ok (.invokestatic 124, 3) := by decide +kernel
theorem dX8_on_105 : decode cX8_on 105 = .ok (.ireturn, 1) := by decide +kernel
theorem dX8_on_106 : decode cX8_on 106 = .ok (.iinc 3 1, 3) := by decide +kernel
theorem dX8_on_109 : decode cX8_on 109 = .ok (.goto (-92), 3) := by decide +kernel
theorem dX8_on_112 : decode cX8_on 112 = .ok (.ldc 113, 2) := by decide +kernel
theorem dX8_on_114 : decode cX8_on 114 = .ok (.ireturn, 1) := by decide +kernel
def vb_X8_on_17 (Q : Int32 → Prop) (ρ : Mem) (rec : Nat → Int32 → Int32 → Int32 → Int32 → Int32 → Prop) (w1 : Int32) (w2 : Int32) (w3 : Int32) : Prop :=
  vc_X8_workers (fun r4 => ((r4 ≤ w3) → (Q (-1000004) )) ∧ ((¬ r4 ≤ w3) → (rec 1 w1 w2 w3 0 0))) ρ
def vb_X8_on_31 (Q : Int32 → Prop) (ρ : Mem) (rec : Nat → Int32 → Int32 → Int32 → Int32 → Int32 → Prop) (w1 : Int32) (w2 : Int32) (w3 : Int32) (w4 : Int32) (w5 : Int32) : Prop :=
  vc_X8_workers (fun r6 => ((r6 ≤ w5) → (vc_X8_of (fun r8 => ((¬ r8 = w1) → (∀ v10 : Int32, v10 = w3 + 1 → (rec 0 w1 w2 v10 0 0))) ∧ ((r8 = w1) → (((¬ w4 = w2) → (∀ v12 : Int32, v12 = w3 + 1 → (rec 0 w1 w2 v12 0 0))) ∧ ((w4 = w2) → (vc_X8_told (fun r13 => Q r13 ) w3))))) ρ w3 1)) ∧ ((¬ r6 ≤ w5) → (vc_X8_of (fun r14 => ((¬ r14 = w1) → (∀ v16 : Int32, v16 = (w4 + 0) → (∀ v17 : Int32, v17 = w5 + 1 → (rec 1 w1 w2 w3 v16 v17)))) ∧ ((r14 = w1) → (vc_X8_of (fun r18 => vc_X8_of (fun r19 => ((r19 ≤ r18) → (∀ v21 : Int32, v21 = (w4 + 0) → (∀ v22 : Int32, v22 = w5 + 1 → (rec 1 w1 w2 w3 v21 v22)))) ∧ ((¬ r19 ≤ r18) → (∀ v23 : Int32, v23 = (w4 + 1) → (∀ v24 : Int32, v24 = w5 + 1 → (rec 1 w1 w2 w3 v23 v24))))) ρ w3 6) ρ w5 6))) ρ w5 1))) ρ
def vl_X8_on (Q : Int32 → Prop) (ρ : Mem) : Nat → Nat → Int32 → Int32 → Int32 → Int32 → Int32 → Prop
  | 0, _, _, _, _, _, _ => False
  | n + 1, 0, w1, w2, w3, _, _ => vb_X8_on_17 Q ρ (vl_X8_on Q ρ n) w1 w2 w3
  | n + 1, 1, w1, w2, w3, w4, w5 => vb_X8_on_31 Q ρ (vl_X8_on Q ρ n) w1 w2 w3 w4 w5
  | _ + 1, _, _, _, _, _, _ => False
def vc_X8_on (Q : Int32 → Prop) (ρ : Mem) (x1 : Int32) (x2 : Int32) : Prop :=
  ∃ n : Nat, vc_X8_isTask (fun r1 => ((r1 = 0) → (Q (-1000001) )) ∧ ((¬ r1 = 0) → (((0 ≤ x2) → (vl_X8_on Q ρ n 0 x1 x2 0 0 0)) ∧ ((¬ 0 ≤ x2) → (Q (-1000001) ))))) ρ x1
set_option maxHeartbeats 8000000 in
set_option maxRecDepth 100000 in
theorem m_X8_on (l : Launch) (G : GG) (aM : Nat) (ρ : Mem) (x1 : Int32) (x2 : Int32) (Q : Int32 → Prop) (h : vc_X8_on Q ρ x1 x2) : CtI l yX8_on cX8_on 6 (some .int) { frames := 1, cells := 0, slots := 0, locals := 22 } [.ref (aM + 0), .int x1, .int x2] G (fun H => rg G LM aM ρ H) (fun r (_ : Unit) => Q r) (fun _ _ => True) (fun _ => False) := by
  unfold CtI
  refine met_start (y := yX8_on) (maxL := 6) (av := [.ref (aM + 0), .int x1, .int x2]) (G := G) (P := fun H => rg G LM aM ρ H) (by decide) rfl (Nat.le_of_ble_eq_true rfl) (fun p e s m below meth c ls C hr hP hK hl => ?_)
  obtain ⟨hx, hb, hml, hown, hts, hlocks⟩ := id C
  have hM : rg G LM aM ρ s.heap := hP
  have hS : va_S (fun _ => False) s.heap s.heap [] := va_S.rf
  have hl : lv_has ls 6 [(0, .ref (aM + 0)), (1, .int x1), (2, .int x2)] := hl
  have K : ∀ n : Nat, (∀ (w1 : Int32) (w2 : Int32) (w3 : Int32) (H : Heap) (locs : List Loc) (ls : Array Slot), rg G LM aM ρ H → va_S (fun _ => False) s.heap H locs → lv_has ls 6 [(0, .ref (aM + 0)), (1, .int w1), (2, .int w2), (3, .int w3)] → vl_X8_on Q ρ n 0 w1 w2 w3 0 0 → W p l e { frames := 1, cells := 0, slots := 0, locals := 22 } s m [.ref (aM + 0), .int x1, .int x2].toArray below meth c H locs 0 0 (MQ below (va_Qi (fun r (_ : Unit) => Q r) (fun u t => (fun _ _ => True) u t.heap ∧ KK G t) (fun _ => False)) [.ref (aM + 0), .int x1, .int x2].toArray s 0 0 (fun _ => False)) (F0 m 17 ls [])) ∧ (∀ (w1 : Int32) (w2 : Int32) (w3 : Int32) (w4 : Int32) (w5 : Int32) (H : Heap) (locs : List Loc) (ls : Array Slot), rg G LM aM ρ H → va_S (fun _ => False) s.heap H locs → lv_has ls 6 [(0, .ref (aM + 0)), (1, .int w1), (2, .int w2), (3, .int w3), (4, .int w4), (5, .int w5)] → vl_X8_on Q ρ n 1 w1 w2 w3 w4 w5 → W p l e { frames := 1, cells := 0, slots := 0, locals := 22 } s m [.ref (aM + 0), .int x1, .int x2].toArray below meth c H locs 0 0 (MQ below (va_Qi (fun r (_ : Unit) => Q r) (fun u t => (fun _ _ => True) u t.heap ∧ KK G t) (fun _ => False)) [.ref (aM + 0), .int x1, .int x2].toArray s 0 0 (fun _ => False)) (F0 m 31 ls [])) := by
    intro n
    induction n with
    | zero => exact ⟨fun _ _ _ _ _ _ _ _ _ h => h.elim, fun _ _ _ _ _ _ _ _ _ _ _ h => h.elim⟩
    | succ n ih =>
      refine ⟨?_, ?_⟩
      · intro w1 w2 w3 H locs ls hM hS hl h
        replace h : vb_X8_on_17 Q ρ (vl_X8_on Q ρ n) w1 w2 w3 := h
        unfold vb_X8_on_17 at h
        refine lv_iload_n hx hb dX8_on_17 rfl (lv_at hl 3 rfl) ?_
        refine lv_aload_n hx hb dX8_on_18 rfl (lv_at hl 0 rfl) ?_
        refine g_vI C hK hl.1 (m_X8_workers l G aM ρ _ h) mw_X8_workers mi_X8_workers ml_X8_67 rfl ⟨rfl, rfl, Nat.le_of_ble_eq_true rfl, Nat.le_of_ble_eq_true rfl⟩ ⟨Nat.zero_le _, Nat.zero_le _⟩ (g_recv (a := aM) (k := 0) hK hM rfl rfl) hM hS (fun _ h => h.elim) rfl (Nat.le_of_ble_eq_true rfl) dX8_on_19 (fun r4 u H locs h hu _ hq hS => ?_)
        have hM := hM.past hq (fun _ _ h => h)
        refine lv_icmp_ge (tgt := 112) hx hb dX8_on_22 (by decide) (fun c5 => ?_) (fun c5 => ?_)
        · replace h := h.1 c5
          refine g_ldc C kc_X8_113 dX8_on_112 ?_
          exact g_iret (post := fun r (_ : Unit) => Q r) (P' := fun _ _ => True) (r := (-1000004)) (u := ()) C hr hK hS h trivial dX8_on_114
        · replace h := h.2 c5
          refine lv_iconst (v := 0) hx hb dX8_on_25 (by decide) ?_
          refine lv_istore (lv' := [(4, .int 0), (0, .ref (aM + 0)), (1, .int w1), (2, .int w2), (3, .int w3)]) hx hb dX8_on_26 hl (by decide) rfl (fun ls hl => ?_)
          refine lv_iconst (v := 0) hx hb dX8_on_28 (by decide) ?_
          refine lv_istore (lv' := [(5, .int 0), (4, .int 0), (0, .ref (aM + 0)), (1, .int w1), (2, .int w2), (3, .int w3)]) hx hb dX8_on_29 hl (by decide) rfl (fun ls hl => ?_)
          exact (ih.2) w1 w2 w3 0 0 _ _ _ hM hS (lv_sub hl [2, 3, 4, 5, 1, 0] rfl) h
      · intro w1 w2 w3 w4 w5 H locs ls hM hS hl h
        replace h : vb_X8_on_31 Q ρ (vl_X8_on Q ρ n) w1 w2 w3 w4 w5 := h
        unfold vb_X8_on_31 at h
        refine lv_iload hx hb dX8_on_31 (lv_at hl 5 rfl) ?_
        refine lv_aload_n hx hb dX8_on_33 rfl (lv_at hl 0 rfl) ?_
        refine g_vI C hK hl.1 (m_X8_workers l G aM ρ _ h) mw_X8_workers mi_X8_workers ml_X8_67 rfl ⟨rfl, rfl, Nat.le_of_ble_eq_true rfl, Nat.le_of_ble_eq_true rfl⟩ ⟨Nat.zero_le _, Nat.zero_le _⟩ (g_recv (a := aM) (k := 0) hK hM rfl rfl) hM hS (fun _ h => h.elim) rfl (Nat.le_of_ble_eq_true rfl) dX8_on_34 (fun r6 u H locs h hu _ hq hS => ?_)
        have hM := hM.past hq (fun _ _ h => h)
        refine lv_icmp_ge (tgt := 85) hx hb dX8_on_37 (by decide) (fun c7 => ?_) (fun c7 => ?_)
        · replace h := h.1 c7
          refine lv_aload_n hx hb dX8_on_85 rfl (lv_at hl 0 rfl) ?_
          refine lv_iload_n hx hb dX8_on_86 rfl (lv_at hl 3 rfl) ?_
          refine lv_iconst (v := 1) hx hb dX8_on_87 (by decide) ?_
          refine g_vI C hK hl.1 (m_X8_of l G aM ρ w3 1 _ h) mw_X8_of mi_X8_of ml_X8_60 rfl ⟨rfl, rfl, Nat.le_of_ble_eq_true rfl, Nat.le_of_ble_eq_true rfl⟩ ⟨Nat.zero_le _, Nat.zero_le _⟩ (g_recv (a := aM) (k := 0) hK hM rfl rfl) hM hS (fun _ h => h.elim) rfl (Nat.le_of_ble_eq_true rfl) dX8_on_88 (fun r8 u H locs h hu _ hq hS => ?_)
          have hM := hM.past hq (fun _ _ h => h)
          refine lv_iload_n hx hb dX8_on_91 rfl (lv_at hl 1 rfl) ?_
          refine lv_icmp_ne (tgt := 106) hx hb dX8_on_92 (by decide) (fun c9 => ?_) (fun c9 => ?_)
          · replace h := h.1 c9
            obtain ⟨v10, ev10⟩ : ∃ y : Int32, y = w3 + 1 := ⟨_, rfl⟩
            specialize h v10 ev10
            refine lv_iinc (v := v10) (lv' := [(3, .int v10), (0, .ref (aM + 0)), (1, .int w1), (2, .int w2), (4, .int w4), (5, .int w5)]) hx hb dX8_on_106 hl (k := 3) rfl (by rw [ev10]; rfl) (by decide) rfl (fun ls hl => ?_)
            refine lv_goto (tgt := 17) hx hb dX8_on_109 (by decide) ?_
            exact (ih.1) w1 w2 v10 _ _ _ hM hS (lv_sub hl [1, 2, 3, 0] rfl) h
          · replace h := h.2 c9
            refine lv_iload hx hb dX8_on_95 (lv_at hl 4 rfl) ?_
            refine lv_iload_n hx hb dX8_on_97 rfl (lv_at hl 2 rfl) ?_
            refine lv_icmp_ne (tgt := 106) hx hb dX8_on_98 (by decide) (fun c11 => ?_) (fun c11 => ?_)
            · replace h := h.1 c11
              obtain ⟨v12, ev12⟩ : ∃ y : Int32, y = w3 + 1 := ⟨_, rfl⟩
              specialize h v12 ev12
              refine lv_iinc (v := v12) (lv' := [(3, .int v12), (0, .ref (aM + 0)), (1, .int w1), (2, .int w2), (4, .int w4), (5, .int w5)]) hx hb dX8_on_106 hl (k := 3) rfl (by rw [ev12]; rfl) (by decide) rfl (fun ls hl => ?_)
              refine lv_goto (tgt := 17) hx hb dX8_on_109 (by decide) ?_
              exact (ih.1) w1 w2 v12 _ _ _ hM hS (lv_sub hl [1, 2, 3, 0] rfl) h
            · replace h := h.2 c11
              refine lv_iload_n hx hb dX8_on_101 rfl (lv_at hl 3 rfl) ?_
              refine g_sI C hK hl.1 (m_X8_told l G w3 _ h) mw_X8_told ms_X8_told ml_X8_124 rfl ⟨rfl, rfl, Nat.le_of_ble_eq_true rfl, Nat.le_of_ble_eq_true rfl⟩ ⟨Nat.zero_le _, Nat.zero_le _⟩ trivial hS (fun _ h => h.elim) rfl (Nat.le_of_ble_eq_true rfl) dX8_on_102 (fun r13 u H locs h hu _ hq hS => ?_)
              have hM := hM.past hq (fun _ _ h => h)
              exact g_iret (post := fun r (_ : Unit) => Q r) (P' := fun _ _ => True) (r := r13) (u := ()) C hr hK hS h trivial dX8_on_105
        · replace h := h.2 c7
          refine lv_iload hx hb dX8_on_40 (lv_at hl 4 rfl) ?_
          refine lv_aload_n hx hb dX8_on_42 rfl (lv_at hl 0 rfl) ?_
          refine lv_iload hx hb dX8_on_43 (lv_at hl 5 rfl) ?_
          refine lv_iconst (v := 1) hx hb dX8_on_45 (by decide) ?_
          refine g_vI C hK hl.1 (m_X8_of l G aM ρ w5 1 _ h) mw_X8_of mi_X8_of ml_X8_60 rfl ⟨rfl, rfl, Nat.le_of_ble_eq_true rfl, Nat.le_of_ble_eq_true rfl⟩ ⟨Nat.zero_le _, Nat.zero_le _⟩ (g_recv (a := aM) (k := 0) hK hM rfl rfl) hM hS (fun _ h => h.elim) rfl (Nat.le_of_ble_eq_true rfl) dX8_on_46 (fun r14 u H locs h hu _ hq hS => ?_)
          have hM := hM.past hq (fun _ _ h => h)
          refine lv_iload_n hx hb dX8_on_49 rfl (lv_at hl 1 rfl) ?_
          refine lv_icmp_ne (tgt := 75) hx hb dX8_on_50 (by decide) (fun c15 => ?_) (fun c15 => ?_)
          · replace h := h.1 c15
            refine lv_iconst (v := 0) hx hb dX8_on_75 (by decide) ?_
            refine lv_iadd hx hb dX8_on_76 ?_
            refine lv_topi (fun v16 ev16 => ?_)
            specialize h v16 ev16
            refine lv_istore (lv' := [(4, .int v16), (0, .ref (aM + 0)), (1, .int w1), (2, .int w2), (3, .int w3), (5, .int w5)]) hx hb dX8_on_77 hl (by decide) rfl (fun ls hl => ?_)
            obtain ⟨v17, ev17⟩ : ∃ y : Int32, y = w5 + 1 := ⟨_, rfl⟩
            specialize h v17 ev17
            refine lv_iinc (v := v17) (lv' := [(5, .int v17), (4, .int v16), (0, .ref (aM + 0)), (1, .int w1), (2, .int w2), (3, .int w3)]) hx hb dX8_on_79 hl (k := 5) rfl (by rw [ev17]; rfl) (by decide) rfl (fun ls hl => ?_)
            refine lv_goto (tgt := 31) hx hb dX8_on_82 (by decide) ?_
            exact (ih.2) w1 w2 w3 v16 v17 _ _ _ hM hS (lv_sub hl [2, 3, 4, 5, 1, 0] rfl) h
          · replace h := h.2 c15
            refine lv_aload_n hx hb dX8_on_53 rfl (lv_at hl 0 rfl) ?_
            refine lv_iload hx hb dX8_on_54 (lv_at hl 5 rfl) ?_
            refine lv_bipush (v := 6) hx hb dX8_on_56 (by decide) ?_
            refine g_vI C hK hl.1 (m_X8_of l G aM ρ w5 6 _ h) mw_X8_of mi_X8_of ml_X8_60 rfl ⟨rfl, rfl, Nat.le_of_ble_eq_true rfl, Nat.le_of_ble_eq_true rfl⟩ ⟨Nat.zero_le _, Nat.zero_le _⟩ (g_recv (a := aM) (k := 0) hK hM rfl rfl) hM hS (fun _ h => h.elim) rfl (Nat.le_of_ble_eq_true rfl) dX8_on_58 (fun r18 u H locs h hu _ hq hS => ?_)
            have hM := hM.past hq (fun _ _ h => h)
            refine lv_aload_n hx hb dX8_on_61 rfl (lv_at hl 0 rfl) ?_
            refine lv_iload_n hx hb dX8_on_62 rfl (lv_at hl 3 rfl) ?_
            refine lv_bipush (v := 6) hx hb dX8_on_63 (by decide) ?_
            refine g_vI C hK hl.1 (m_X8_of l G aM ρ w3 6 _ h) mw_X8_of mi_X8_of ml_X8_60 rfl ⟨rfl, rfl, Nat.le_of_ble_eq_true rfl, Nat.le_of_ble_eq_true rfl⟩ ⟨Nat.zero_le _, Nat.zero_le _⟩ (g_recv (a := aM) (k := 0) hK hM rfl rfl) hM hS (fun _ h => h.elim) rfl (Nat.le_of_ble_eq_true rfl) dX8_on_65 (fun r19 u H locs h hu _ hq hS => ?_)
            have hM := hM.past hq (fun _ _ h => h)
            refine lv_icmp_ge (tgt := 75) hx hb dX8_on_68 (by decide) (fun c20 => ?_) (fun c20 => ?_)
            · replace h := h.1 c20
              refine lv_iconst (v := 0) hx hb dX8_on_75 (by decide) ?_
              refine lv_iadd hx hb dX8_on_76 ?_
              refine lv_topi (fun v21 ev21 => ?_)
              specialize h v21 ev21
              refine lv_istore (lv' := [(4, .int v21), (0, .ref (aM + 0)), (1, .int w1), (2, .int w2), (3, .int w3), (5, .int w5)]) hx hb dX8_on_77 hl (by decide) rfl (fun ls hl => ?_)
              obtain ⟨v22, ev22⟩ : ∃ y : Int32, y = w5 + 1 := ⟨_, rfl⟩
              specialize h v22 ev22
              refine lv_iinc (v := v22) (lv' := [(5, .int v22), (4, .int v21), (0, .ref (aM + 0)), (1, .int w1), (2, .int w2), (3, .int w3)]) hx hb dX8_on_79 hl (k := 5) rfl (by rw [ev22]; rfl) (by decide) rfl (fun ls hl => ?_)
              refine lv_goto (tgt := 31) hx hb dX8_on_82 (by decide) ?_
              exact (ih.2) w1 w2 w3 v21 v22 _ _ _ hM hS (lv_sub hl [2, 3, 4, 5, 1, 0] rfl) h
            · replace h := h.2 c20
              refine lv_iconst (v := 1) hx hb dX8_on_71 (by decide) ?_
              refine lv_goto (tgt := 76) hx hb dX8_on_72 (by decide) ?_
              refine lv_iadd hx hb dX8_on_76 ?_
              refine lv_topi (fun v23 ev23 => ?_)
              specialize h v23 ev23
              refine lv_istore (lv' := [(4, .int v23), (0, .ref (aM + 0)), (1, .int w1), (2, .int w2), (3, .int w3), (5, .int w5)]) hx hb dX8_on_77 hl (by decide) rfl (fun ls hl => ?_)
              obtain ⟨v24, ev24⟩ : ∃ y : Int32, y = w5 + 1 := ⟨_, rfl⟩
              specialize h v24 ev24
              refine lv_iinc (v := v24) (lv' := [(5, .int v24), (4, .int v23), (0, .ref (aM + 0)), (1, .int w1), (2, .int w2), (3, .int w3)]) hx hb dX8_on_79 hl (k := 5) rfl (by rw [ev24]; rfl) (by decide) rfl (fun ls hl => ?_)
              refine lv_goto (tgt := 31) hx hb dX8_on_82 (by decide) ?_
              exact (ih.2) w1 w2 w3 v23 v24 _ _ _ hM hS (lv_sub hl [2, 3, 4, 5, 1, 0] rfl) h
  unfold vc_X8_on at h
  obtain ⟨n, h⟩ := h
  refine lv_aload_n hx hb dX8_on_0 rfl (lv_at hl 0 rfl) ?_
  refine lv_iload_n hx hb dX8_on_1 rfl (lv_at hl 1 rfl) ?_
  refine g_vI C hK hl.1 (m_X8_isTask l G aM ρ x1 _ h) mw_X8_isTask mi_X8_isTask ml_X8_82 rfl ⟨rfl, rfl, Nat.le_of_ble_eq_true rfl, Nat.le_of_ble_eq_true rfl⟩ ⟨Nat.zero_le _, Nat.zero_le _⟩ (g_recv (a := aM) (k := 0) hK hM rfl rfl) hM hS (fun _ h => h.elim) rfl (Nat.le_of_ble_eq_true rfl) dX8_on_2 (fun r1 u H locs h hu _ hq hS => ?_)
  have hM := hM.past hq (fun _ _ h => h)
  refine lv_if_eq (tgt := 12) hx hb dX8_on_5 (by decide) (fun c2 => ?_) (fun c2 => ?_)
  · replace h := h.1 c2
    refine g_ldc C kc_X8_59 dX8_on_12 ?_
    exact g_iret (post := fun r (_ : Unit) => Q r) (P' := fun _ _ => True) (r := (-1000001)) (u := ()) C hr hK hS h trivial dX8_on_14
  · replace h := h.2 c2
    refine lv_iload_n hx hb dX8_on_8 rfl (lv_at hl 2 rfl) ?_
    refine lv_if_ge (tgt := 15) hx hb dX8_on_9 (by decide) (fun c3 => ?_) (fun c3 => ?_)
    · replace h := h.1 c3
      refine lv_iconst (v := 0) hx hb dX8_on_15 (by decide) ?_
      refine lv_istore_n (lv' := [(3, .int 0), (0, .ref (aM + 0)), (1, .int x1), (2, .int x2)]) hx hb dX8_on_16 rfl hl (by decide) rfl (fun ls hl => ?_)
      exact ((K n).1) x1 x2 0 _ _ _ hM hS (lv_sub hl [1, 2, 3, 0] rfl) h
    · replace h := h.2 c3
      refine g_ldc C kc_X8_59 dX8_on_12 ?_
      exact g_iret (post := fun r (_ : Unit) => Q r) (P' := fun _ _ => True) (r := (-1000001)) (u := ()) C hr hK hS h trivial dX8_on_14
theorem dX8_contractOf_0 : decode cX8_contractOf 0 = .ok (.aload_n 0, 1) := by decide +kernel
theorem dX8_contractOf_1 : decode cX8_contractOf 1 = .ok (.iload_n 1, 1) := by decide +kernel
theorem dX8_contractOf_2 : decode cX8_contractOf 2 = .ok (.invokevirtual 104, 3) := by decide +kernel
theorem dX8_contractOf_5 : decode cX8_contractOf 5 = .ok (.ifCond .eq 12, 3) := by decide +kernel
theorem dX8_contractOf_8 : decode cX8_contractOf 8 = .ok (.iload_n 2, 1) := by decide +kernel
theorem dX8_contractOf_9 : decode cX8_contractOf 9 = .ok (.iconst 0, 1) := by decide +kernel
theorem dX8_contractOf_10 : decode cX8_contractOf 10 = .ok (.iconst 2, 1) := by decide +kernel
theorem dX8_contractOf_11 : decode cX8_contractOf 11 = .ok (.invokestatic 43, 3) := by decide +kernel
theorem dX8_contractOf_14 : decode cX8_contractOf 14 = .ok (.ifCond .ne 6, 3) := by decide +kernel
theorem dX8_contractOf_17 : decode cX8_contractOf 17 = .ok (.ldc 59, 2) := by decide +kernel
theorem dX8_contractOf_19 : decode cX8_contractOf 19 = .ok (.ireturn, 1) := by decide +kernel
theorem dX8_contractOf_20 : decode cX8_contractOf 20 = .ok (.iload_n 2, 1) := by decide +kernel
theorem dX8_contractOf_21 : decode cX8_contractOf 21 = .ok (.iconst 2, 1) := by decide +kernel
theorem dX8_contractOf_22 : decode cX8_contractOf 22 = .ok (.if_icmp .ge 18, 3) := by decide +kernel
theorem dX8_contractOf_25 : decode cX8_contractOf 25 = .ok (.aload_n 0, 1) := by decide +kernel
theorem dX8_contractOf_26 : decode cX8_contractOf 26 = .ok (.getfield 7, 3) := by decide +kernel
theorem dX8_contractOf_29 : decode cX8_contractOf 29 = .ok (.sipush 152, 3) := by decide +kernel
theorem dX8_contractOf_32 : decode cX8_contractOf 32 = .ok (.iconst 2, 1) := by decide +kernel
theorem dX8_contractOf_33 : decode cX8_contractOf 33 = .ok (.iload_n 1, 1) := by decide +kernel
theorem dX8_contractOf_34 : decode cX8_contractOf 34 = .ok (.imul, 1) := by decide +kernel
theorem dX8_contractOf_35 : decode cX8_contractOf 35 = .ok (.iadd, 1) := by decide +kernel
theorem dX8_contractOf_36 : decode cX8_contractOf 36 = .ok (.iload_n 2, 1) := by decide +kernel
theorem dX8_contractOf_37 : decode cX8_contractOf 37 = .ok (.iadd, 1) := by decide +kernel
theorem dX8_contractOf_38 : decode cX8_contractOf 38 = .ok (.iaload, 1) := by decide +kernel
theorem dX8_contractOf_39 : decode cX8_contractOf 39 = .ok (.ireturn, 1) := by decide +kernel
theorem dX8_contractOf_40 : decode cX8_contractOf 40 = .ok (.iconst 0, 1) := by decide +kernel
theorem dX8_contractOf_41 : decode cX8_contractOf 41 = .ok (.istore_n 3, 1) := by decide +kernel
theorem dX8_contractOf_42 : decode cX8_contractOf 42 = .ok (.iconst 0, 1) := by decide +kernel
theorem dX8_contractOf_43 : decode cX8_contractOf 43 = .ok (.istore 4, 2) := by decide +kernel
theorem dX8_contractOf_45 : decode cX8_contractOf 45 = .ok (.iload 4, 2) := by decide +kernel
theorem dX8_contractOf_47 : decode cX8_contractOf 47 = .ok (.aload_n 0, 1) := by decide +kernel
theorem dX8_contractOf_48 : decode cX8_contractOf 48 = .ok (.getfield 7, 3) := by decide +kernel
theorem dX8_contractOf_51 : decode cX8_contractOf 51 = .ok (.iconst 0, 1) := by decide +kernel
theorem dX8_contractOf_52 : decode cX8_contractOf 52 = .ok (.iaload, 1) := by decide +kernel
theorem dX8_contractOf_53 : decode cX8_contractOf 53 = .ok (.if_icmp .ge 41, 3) := by decide +kernel
theorem dX8_contractOf_56 : decode cX8_contractOf 56 = .ok (.iload_n 3, 1) := by decide +kernel
theorem dX8_contractOf_57 : decode cX8_contractOf 57 = .ok (.aload_n 0, 1) := by decide +kernel
theorem dX8_contractOf_58 : decode cX8_contractOf 58 = .ok (.iload 4, 2) := by decide +kernel
theorem dX8_contractOf_60 : decode cX8_contractOf 60 = .ok (.aload_n 0, 1) := by decide +kernel
theorem dX8_contractOf_61 : decode cX8_contractOf 61 = .ok (.getfield 7, 3) := by decide +kernel
theorem dX8_contractOf_64 : decode cX8_contractOf 64 = .ok (.sipush 152, 3) := by decide +kernel
theorem dX8_contractOf_67 : decode cX8_contractOf 67 = .ok (.iconst 2, 1) := by decide +kernel
theorem dX8_contractOf_68 : decode cX8_contractOf 68 = .ok (.iload_n 1, 1) := by decide +kernel
theorem dX8_contractOf_69 : decode cX8_contractOf 69 = .ok (.imul, 1) := by decide +kernel
theorem dX8_contractOf_70 : decode cX8_contractOf 70 = .ok (.iadd, 1) := by decide +kernel
theorem dX8_contractOf_71 : decode cX8_contractOf 71 = .ok (.iaload, 1) := by decide +kernel
theorem dX8_contractOf_72 : decode cX8_contractOf 72 = .ok (.invokevirtual 75, 3) := by decide +kernel
theorem dX8_contractOf_75 : decode cX8_contractOf 75 = .ok (.ifCond .eq 10, 3) := by decide +kernel
theorem dX8_contractOf_78 : decode cX8_contractOf 78 = .ok (.iconst 1, 1) := by decide +kernel
theorem dX8_contractOf_79 : decode cX8_contractOf 79 = .ok (.iload 4, 2) := by decide +kernel
theorem dX8_contractOf_81 : decode cX8_contractOf 81 = .ok (.ishl, 1) := by decide +kernel
theorem dX8_contractOf_82 : decode cX8_contractOf 82 = .ok (.goto 4, 3) := by decide +kernel
theorem dX8_contractOf_85 : decode cX8_contractOf 85 = .ok (.iconst 0, 1) := by decide +kernel
theorem dX8_contractOf_86 : decode cX8_contractOf 86 = .ok (.ior, 1) := by decide +kernel
theorem dX8_contractOf_87 : decode cX8_contractOf 87 = .ok (.istore_n 3, 1) := by decide +kernel
theorem dX8_contractOf_88 : decode cX8_contractOf 88 = .ok (.iinc 4 1, 3) := by decide +kernel
theorem dX8_contractOf_91 : decode cX8_contractOf 91 = .ok (.goto (-46), 3) := by decide +kernel
theorem dX8_contractOf_94 : decode cX8_contractOf 94 = .ok (.iload_n 3, 1) := by decide +kernel
theorem dX8_contractOf_95 : decode cX8_contractOf 95 = .ok (.ireturn, 1) := by decide +kernel
def vb_X8_contractOf_45 (Q : Int32 → Prop) (ρ : Mem) (rec : Nat → Int32 → Int32 → Int32 → Prop) (w1 : Int32) (w3 : Int32) (w4 : Int32) : Prop :=
  ((((ρ 1 (0 : Int32).toNatClampNeg) ≤ w4) → (Q w3 )) ∧ ((¬ (ρ 1 (0 : Int32).toNatClampNeg) ≤ w4) → (vp_in (152 + (2 * w1)) 164 ∧ (vc_X8_has (fun r9 => ((r9 = 0) → (∀ v11 : Int32, v11 = (w3 ||| 0) → (∀ v12 : Int32, v12 = w4 + 1 → (rec 0 w1 v11 v12)))) ∧ ((¬ r9 = 0) → (∀ v13 : Int32, v13 = (w3 ||| (1 <<< (w4 &&& 31))) → (∀ v14 : Int32, v14 = w4 + 1 → (rec 0 w1 v13 v14))))) ρ w4 (ρ 1 (152 + (2 * w1)).toNatClampNeg)))))
def vl_X8_contractOf (Q : Int32 → Prop) (ρ : Mem) : Nat → Nat → Int32 → Int32 → Int32 → Prop
  | 0, _, _, _, _ => False
  | n + 1, 0, w1, w3, w4 => vb_X8_contractOf_45 Q ρ (vl_X8_contractOf Q ρ n) w1 w3 w4
  | _ + 1, _, _, _, _ => False
def vc_X8_contractOf (Q : Int32 → Prop) (ρ : Mem) (x1 : Int32) (x2 : Int32) : Prop :=
  ∃ n : Nat, vc_X8_isContract (fun r1 => ((r1 = 0) → (Q (-1000001) )) ∧ ((¬ r1 = 0) → (vc_X8_in (fun r3 => ((¬ r3 = 0) → (((2 ≤ x2) → (vl_X8_contractOf Q ρ n 0 x1 0 0)) ∧ ((¬ 2 ≤ x2) → (vp_in ((152 + (2 * x1)) + x2) 164 ∧ (Q (ρ 1 ((152 + (2 * x1)) + x2).toNatClampNeg) ))))) ∧ ((r3 = 0) → (Q (-1000001) ))) x2 0 2))) ρ x1
set_option maxHeartbeats 8000000 in
set_option maxRecDepth 100000 in
theorem m_X8_contractOf (l : Launch) (G : GG) (aM : Nat) (ρ : Mem) (x1 : Int32) (x2 : Int32) (Q : Int32 → Prop) (h : vc_X8_contractOf Q ρ x1 x2) : CtI l yX8_contractOf cX8_contractOf 5 (some .int) { frames := 2, cells := 0, slots := 0, locals := 45 } [.ref (aM + 0), .int x1, .int x2] G (fun H => rg G LM aM ρ H) (fun r (_ : Unit) => Q r) (fun _ _ => True) (fun _ => False) := by
  unfold CtI
  refine met_start (y := yX8_contractOf) (maxL := 5) (av := [.ref (aM + 0), .int x1, .int x2]) (G := G) (P := fun H => rg G LM aM ρ H) (by decide) rfl (Nat.le_of_ble_eq_true rfl) (fun p e s m below meth c ls C hr hP hK hl => ?_)
  obtain ⟨hx, hb, hml, hown, hts, hlocks⟩ := id C
  have hM : rg G LM aM ρ s.heap := hP
  have hS : va_S (fun _ => False) s.heap s.heap [] := va_S.rf
  have hl : lv_has ls 5 [(0, .ref (aM + 0)), (1, .int x1), (2, .int x2)] := hl
  have K : ∀ n : Nat, (∀ (w1 : Int32) (w3 : Int32) (w4 : Int32) (H : Heap) (locs : List Loc) (ls : Array Slot), rg G LM aM ρ H → va_S (fun _ => False) s.heap H locs → lv_has ls 5 [(0, .ref (aM + 0)), (1, .int w1), (3, .int w3), (4, .int w4)] → vl_X8_contractOf Q ρ n 0 w1 w3 w4 → W p l e { frames := 2, cells := 0, slots := 0, locals := 45 } s m [.ref (aM + 0), .int x1, .int x2].toArray below meth c H locs 0 0 (MQ below (va_Qi (fun r (_ : Unit) => Q r) (fun u t => (fun _ _ => True) u t.heap ∧ KK G t) (fun _ => False)) [.ref (aM + 0), .int x1, .int x2].toArray s 0 0 (fun _ => False)) (F0 m 45 ls [])) := by
    intro n
    induction n with
    | zero => exact fun _ _ _ _ _ _ _ _ _ h => h.elim
    | succ n ih =>
      · intro w1 w3 w4 H locs ls hM hS hl h
        replace h : vb_X8_contractOf_45 Q ρ (vl_X8_contractOf Q ρ n) w1 w3 w4 := h
        unfold vb_X8_contractOf_45 at h
        refine lv_iload hx hb dX8_contractOf_45 (lv_at hl 3 rfl) ?_
        refine lv_aload_n hx hb dX8_contractOf_47 rfl (lv_at hl 0 rfl) ?_
        refine g_getR (a := aM) (k := 0) (o := 1) C hK hM fl_X8_7 rfl rfl dX8_contractOf_48 ?_
        refine lv_iconst (v := 0) hx hb dX8_contractOf_51 (by decide) ?_
        refine g_ald (a := aM) (k := 1) (n := 164) C hK hM rfl (vp_dec (by decide)) dX8_contractOf_52 ?_
        refine lv_icmp_ge (tgt := 94) hx hb dX8_contractOf_53 (by decide) (fun c7 => ?_) (fun c7 => ?_)
        · replace h := h.1 c7
          refine lv_iload_n hx hb dX8_contractOf_94 rfl (lv_at hl 2 rfl) ?_
          exact g_iret (post := fun r (_ : Unit) => Q r) (P' := fun _ _ => True) (r := w3) (u := ()) C hr hK hS h trivial dX8_contractOf_95
        · replace h := h.2 c7
          refine lv_iload_n hx hb dX8_contractOf_56 rfl (lv_at hl 2 rfl) ?_
          refine lv_aload_n hx hb dX8_contractOf_57 rfl (lv_at hl 0 rfl) ?_
          refine lv_iload hx hb dX8_contractOf_58 (lv_at hl 3 rfl) ?_
          refine lv_aload_n hx hb dX8_contractOf_60 rfl (lv_at hl 0 rfl) ?_
          refine g_getR (a := aM) (k := 0) (o := 1) C hK hM fl_X8_7 rfl rfl dX8_contractOf_61 ?_
          refine lv_sipush (v := 152) hx hb dX8_contractOf_64 (by decide) ?_
          refine lv_iconst (v := 2) hx hb dX8_contractOf_67 (by decide) ?_
          refine lv_iload_n hx hb dX8_contractOf_68 rfl (lv_at hl 1 rfl) ?_
          refine lv_imul hx hb dX8_contractOf_69 ?_
          refine lv_iadd hx hb dX8_contractOf_70 ?_
          obtain ⟨b8, h⟩ := h
          refine g_ald (a := aM) (k := 1) (n := 164) C hK hM rfl b8 dX8_contractOf_71 ?_
          refine g_vI C hK hl.1 (m_X8_has l G aM ρ w4 (ρ 1 (152 + (2 * w1)).toNatClampNeg) _ h) mw_X8_has mi_X8_has ml_X8_75 rfl ⟨rfl, rfl, Nat.le_of_ble_eq_true rfl, Nat.le_of_ble_eq_true rfl⟩ ⟨Nat.zero_le _, Nat.zero_le _⟩ (g_recv (a := aM) (k := 0) hK hM rfl rfl) hM hS (fun _ h => h.elim) rfl (Nat.le_of_ble_eq_true rfl) dX8_contractOf_72 (fun r9 u H locs h hu _ hq hS => ?_)
          have hM := hM.past hq (fun _ _ h => h)
          refine lv_if_eq (tgt := 85) hx hb dX8_contractOf_75 (by decide) (fun c10 => ?_) (fun c10 => ?_)
          · replace h := h.1 c10
            refine lv_iconst (v := 0) hx hb dX8_contractOf_85 (by decide) ?_
            refine lv_ior hx hb dX8_contractOf_86 ?_
            refine lv_topi (fun v11 ev11 => ?_)
            specialize h v11 ev11
            refine lv_istore_n (lv' := [(3, .int v11), (0, .ref (aM + 0)), (1, .int w1), (4, .int w4)]) hx hb dX8_contractOf_87 rfl hl (by decide) rfl (fun ls hl => ?_)
            obtain ⟨v12, ev12⟩ : ∃ y : Int32, y = w4 + 1 := ⟨_, rfl⟩
            specialize h v12 ev12
            refine lv_iinc (v := v12) (lv' := [(4, .int v12), (3, .int v11), (0, .ref (aM + 0)), (1, .int w1)]) hx hb dX8_contractOf_88 hl (k := 3) rfl (by rw [ev12]; rfl) (by decide) rfl (fun ls hl => ?_)
            refine lv_goto (tgt := 45) hx hb dX8_contractOf_91 (by decide) ?_
            exact (ih) w1 v11 v12 _ _ _ hM hS (lv_sub hl [2, 3, 1, 0] rfl) h
          · replace h := h.2 c10
            refine lv_iconst (v := 1) hx hb dX8_contractOf_78 (by decide) ?_
            refine lv_iload hx hb dX8_contractOf_79 (lv_at hl 3 rfl) ?_
            refine lv_ishl hx hb dX8_contractOf_81 ?_
            refine lv_goto (tgt := 86) hx hb dX8_contractOf_82 (by decide) ?_
            refine lv_ior hx hb dX8_contractOf_86 ?_
            refine lv_topi (fun v13 ev13 => ?_)
            specialize h v13 ev13
            refine lv_istore_n (lv' := [(3, .int v13), (0, .ref (aM + 0)), (1, .int w1), (4, .int w4)]) hx hb dX8_contractOf_87 rfl hl (by decide) rfl (fun ls hl => ?_)
            obtain ⟨v14, ev14⟩ : ∃ y : Int32, y = w4 + 1 := ⟨_, rfl⟩
            specialize h v14 ev14
            refine lv_iinc (v := v14) (lv' := [(4, .int v14), (3, .int v13), (0, .ref (aM + 0)), (1, .int w1)]) hx hb dX8_contractOf_88 hl (k := 3) rfl (by rw [ev14]; rfl) (by decide) rfl (fun ls hl => ?_)
            refine lv_goto (tgt := 45) hx hb dX8_contractOf_91 (by decide) ?_
            exact (ih) w1 v13 v14 _ _ _ hM hS (lv_sub hl [2, 3, 1, 0] rfl) h
  unfold vc_X8_contractOf at h
  obtain ⟨n, h⟩ := h
  refine lv_aload_n hx hb dX8_contractOf_0 rfl (lv_at hl 0 rfl) ?_
  refine lv_iload_n hx hb dX8_contractOf_1 rfl (lv_at hl 1 rfl) ?_
  refine g_vI C hK hl.1 (m_X8_isContract l G aM ρ x1 _ h) mw_X8_isContract mi_X8_isContract ml_X8_104 rfl ⟨rfl, rfl, Nat.le_of_ble_eq_true rfl, Nat.le_of_ble_eq_true rfl⟩ ⟨Nat.zero_le _, Nat.zero_le _⟩ (g_recv (a := aM) (k := 0) hK hM rfl rfl) hM hS (fun _ h => h.elim) rfl (Nat.le_of_ble_eq_true rfl) dX8_contractOf_2 (fun r1 u H locs h hu _ hq hS => ?_)
  have hM := hM.past hq (fun _ _ h => h)
  refine lv_if_eq (tgt := 17) hx hb dX8_contractOf_5 (by decide) (fun c2 => ?_) (fun c2 => ?_)
  · replace h := h.1 c2
    refine g_ldc C kc_X8_59 dX8_contractOf_17 ?_
    exact g_iret (post := fun r (_ : Unit) => Q r) (P' := fun _ _ => True) (r := (-1000001)) (u := ()) C hr hK hS h trivial dX8_contractOf_19
  · replace h := h.2 c2
    refine lv_iload_n hx hb dX8_contractOf_8 rfl (lv_at hl 2 rfl) ?_
    refine lv_iconst (v := 0) hx hb dX8_contractOf_9 (by decide) ?_
    refine lv_iconst (v := 2) hx hb dX8_contractOf_10 (by decide) ?_
    refine g_sI C hK hl.1 (m_X8_in l G x2 0 2 _ h) mw_X8_in ms_X8_in ml_X8_43 rfl ⟨rfl, rfl, Nat.le_of_ble_eq_true rfl, Nat.le_of_ble_eq_true rfl⟩ ⟨Nat.zero_le _, Nat.zero_le _⟩ trivial hS (fun _ h => h.elim) rfl (Nat.le_of_ble_eq_true rfl) dX8_contractOf_11 (fun r3 u H locs h hu _ hq hS => ?_)
    have hM := hM.past hq (fun _ _ h => h)
    refine lv_if_ne (tgt := 20) hx hb dX8_contractOf_14 (by decide) (fun c4 => ?_) (fun c4 => ?_)
    · replace h := h.1 c4
      refine lv_iload_n hx hb dX8_contractOf_20 rfl (lv_at hl 2 rfl) ?_
      refine lv_iconst (v := 2) hx hb dX8_contractOf_21 (by decide) ?_
      refine lv_icmp_ge (tgt := 40) hx hb dX8_contractOf_22 (by decide) (fun c5 => ?_) (fun c5 => ?_)
      · replace h := h.1 c5
        refine lv_iconst (v := 0) hx hb dX8_contractOf_40 (by decide) ?_
        refine lv_istore_n (lv' := [(3, .int 0), (0, .ref (aM + 0)), (1, .int x1), (2, .int x2)]) hx hb dX8_contractOf_41 rfl hl (by decide) rfl (fun ls hl => ?_)
        refine lv_iconst (v := 0) hx hb dX8_contractOf_42 (by decide) ?_
        refine lv_istore (lv' := [(4, .int 0), (3, .int 0), (0, .ref (aM + 0)), (1, .int x1), (2, .int x2)]) hx hb dX8_contractOf_43 hl (by decide) rfl (fun ls hl => ?_)
        exact ((K n)) x1 0 0 _ _ _ hM hS (lv_sub hl [2, 3, 1, 0] rfl) h
      · replace h := h.2 c5
        refine lv_aload_n hx hb dX8_contractOf_25 rfl (lv_at hl 0 rfl) ?_
        refine g_getR (a := aM) (k := 0) (o := 1) C hK hM fl_X8_7 rfl rfl dX8_contractOf_26 ?_
        refine lv_sipush (v := 152) hx hb dX8_contractOf_29 (by decide) ?_
        refine lv_iconst (v := 2) hx hb dX8_contractOf_32 (by decide) ?_
        refine lv_iload_n hx hb dX8_contractOf_33 rfl (lv_at hl 1 rfl) ?_
        refine lv_imul hx hb dX8_contractOf_34 ?_
        refine lv_iadd hx hb dX8_contractOf_35 ?_
        refine lv_iload_n hx hb dX8_contractOf_36 rfl (lv_at hl 2 rfl) ?_
        refine lv_iadd hx hb dX8_contractOf_37 ?_
        obtain ⟨b6, h⟩ := h
        refine g_ald (a := aM) (k := 1) (n := 164) C hK hM rfl b6 dX8_contractOf_38 ?_
        exact g_iret (post := fun r (_ : Unit) => Q r) (P' := fun _ _ => True) (r := (ρ 1 ((152 + (2 * x1)) + x2).toNatClampNeg)) (u := ()) C hr hK hS h trivial dX8_contractOf_39
    · replace h := h.2 c4
      refine g_ldc C kc_X8_59 dX8_contractOf_17 ?_
      exact g_iret (post := fun r (_ : Unit) => Q r) (P' := fun _ _ => True) (r := (-1000001)) (u := ()) C hr hK hS h trivial dX8_contractOf_19
