theorem dX8_anySand_0 : decode cX8_anySand 0 = .ok (.iconst 0, 1) := by decide +kernel
theorem dX8_anySand_1 : decode cX8_anySand 1 = .ok (.istore_n 1, 1) := by decide +kernel
theorem dX8_anySand_2 : decode cX8_anySand 2 = .ok (.iconst 0, 1) := by decide +kernel
theorem dX8_anySand_3 : decode cX8_anySand 3 = .ok (.istore_n 2, 1) := by decide +kernel
theorem dX8_anySand_4 : decode cX8_anySand 4 = .ok (.iload_n 2, 1) := by decide +kernel
theorem dX8_anySand_5 : decode cX8_anySand 5 = .ok (.aload_n 0, 1) := by decide +kernel
theorem dX8_anySand_6 : decode cX8_anySand 6 = .ok (.invokevirtual 67, 3) := by decide +kernel
theorem dX8_anySand_9 : decode cX8_anySand 9 = .ok (.if_icmp .ge 28, 3) := by decide +kernel
theorem dX8_anySand_12 : decode cX8_anySand 12 = .ok (.iload_n 1, 1) := by decide +kernel
theorem dX8_anySand_13 : decode cX8_anySand 13 = .ok (.ifCond .ne 12, 3) := by decide +kernel
theorem dX8_anySand_16 : decode cX8_anySand 16 = .ok (.aload_n 0, 1) := by decide +kernel
theorem dX8_anySand_17 : decode cX8_anySand 17 = .ok (.iload_n 2, 1) := by decide +kernel
theorem dX8_anySand_18 : decode cX8_anySand 18 = .ok (.iconst 2, 1) := by decide +kernel
theorem dX8_anySand_19 : decode cX8_anySand 19 = .ok (.invokevirtual 60, 3) := by decide +kernel
theorem dX8_anySand_22 : decode cX8_anySand 22 = .ok (.ifCond .le 7, 3) := by decide +kernel
theorem dX8_anySand_25 : decode cX8_anySand 25 = .ok (.iconst 1, 1) := by decide +kernel
theorem dX8_anySand_26 : decode cX8_anySand 26 = .ok (.goto 4, 3) := by decide +kernel
theorem dX8_anySand_29 : decode cX8_anySand 29 = .ok (.iconst 0, 1) := by decide +kernel
theorem dX8_anySand_30 : decode cX8_anySand 30 = .ok (.istore_n 1, 1) := by decide +kernel
theorem dX8_anySand_31 : decode cX8_anySand 31 = .ok (.iinc 2 1, 3) := by decide +kernel
theorem dX8_anySand_34 : decode cX8_anySand 34 = .ok (.goto (-30), 3) := by decide +kernel
theorem dX8_anySand_37 : decode cX8_anySand 37 = .ok (.iload_n 1, 1) := by decide +kernel
theorem dX8_anySand_38 : decode cX8_anySand 38 = .ok (.ireturn, 1) := by decide +kernel
def vb_X8_anySand_4 (Q : Int32 → Prop) (ρ : Mem) (rec : Nat → Int32 → Int32 → Prop) (w1 : Int32) (w2 : Int32) : Prop :=
  vc_X8_workers (fun r1 => ((r1 ≤ w2) → (narrow .boolean (.int w1) = .int w1 ∧ Q w1 )) ∧ ((¬ r1 ≤ w2) → (((¬ w1 = 0) → (∀ v4 : Int32, v4 = w2 + 1 → (rec 0 1 v4))) ∧ ((w1 = 0) → (vc_X8_of (fun r5 => ((r5 ≤ 0) → (∀ v7 : Int32, v7 = w2 + 1 → (rec 0 0 v7))) ∧ ((¬ r5 ≤ 0) → (∀ v8 : Int32, v8 = w2 + 1 → (rec 0 1 v8)))) ρ w2 2))))) ρ
def vl_X8_anySand (Q : Int32 → Prop) (ρ : Mem) : Nat → Nat → Int32 → Int32 → Prop
  | 0, _, _, _ => False
  | n + 1, 0, w1, w2 => vb_X8_anySand_4 Q ρ (vl_X8_anySand Q ρ n) w1 w2
  | _ + 1, _, _, _ => False
def vc_X8_anySand (Q : Int32 → Prop) (ρ : Mem) : Prop :=
  ∃ n : Nat, vl_X8_anySand Q ρ n 0 0 0
set_option maxHeartbeats 8000000 in
set_option maxRecDepth 100000 in
theorem m_X8_anySand (l : Launch) (G : GG) (aM : Nat) (ρ : Mem) (Q : Int32 → Prop) (h : vc_X8_anySand Q ρ) : CtI l yX8_anySand cX8_anySand 3 (some .boolean) { frames := 1, cells := 0, slots := 0, locals := 22 } [.ref (aM + 0)] G (fun H => rg G LM aM ρ H) (fun r (_ : Unit) => Q r) (fun _ _ => True) (fun _ => False) := by
  unfold CtI
  refine met_start (y := yX8_anySand) (maxL := 3) (av := [.ref (aM + 0)]) (G := G) (P := fun H => rg G LM aM ρ H) (by decide) rfl (Nat.le_of_ble_eq_true rfl) (fun p e s m below meth c ls C hr hP hK hl => ?_)
  obtain ⟨hx, hb, hml, hown, hts, hlocks⟩ := id C
  have hM : rg G LM aM ρ s.heap := hP
  have hS : va_S (fun _ => False) s.heap s.heap [] := va_S.rf
  have hl : lv_has ls 3 [(0, .ref (aM + 0))] := hl
  have K : ∀ n : Nat, (∀ (w1 : Int32) (w2 : Int32) (H : Heap) (locs : List Loc) (ls : Array Slot), rg G LM aM ρ H → va_S (fun _ => False) s.heap H locs → lv_has ls 3 [(0, .ref (aM + 0)), (1, .int w1), (2, .int w2)] → vl_X8_anySand Q ρ n 0 w1 w2 → W p l e { frames := 1, cells := 0, slots := 0, locals := 22 } s m [.ref (aM + 0)].toArray below meth c H locs 0 0 (MQ below (va_Qi (fun r (_ : Unit) => Q r) (fun u t => (fun _ _ => True) u t.heap ∧ KK G t) (fun _ => False)) [.ref (aM + 0)].toArray s 0 0 (fun _ => False)) (F0 m 4 ls [])) := by
    intro n
    induction n with
    | zero => exact fun _ _ _ _ _ _ _ _ h => h.elim
    | succ n ih =>
      · intro w1 w2 H locs ls hM hS hl h
        replace h : vb_X8_anySand_4 Q ρ (vl_X8_anySand Q ρ n) w1 w2 := h
        unfold vb_X8_anySand_4 at h
        refine lv_iload_n hx hb dX8_anySand_4 rfl (lv_at hl 2 rfl) ?_
        refine lv_aload_n hx hb dX8_anySand_5 rfl (lv_at hl 0 rfl) ?_
        refine g_vI C hK hl.1 (m_X8_workers l G aM ρ _ h) mw_X8_workers mi_X8_workers ml_X8_67 rfl ⟨rfl, rfl, Nat.le_of_ble_eq_true rfl, Nat.le_of_ble_eq_true rfl⟩ ⟨Nat.zero_le _, Nat.zero_le _⟩ (g_recv (a := aM) (k := 0) hK hM rfl rfl) hM hS (fun _ h => h.elim) rfl (Nat.le_of_ble_eq_true rfl) dX8_anySand_6 (fun r1 u H locs h hu _ hq hS => ?_)
        have hM := hM.past hq (fun _ _ h => h)
        refine lv_icmp_ge (tgt := 37) hx hb dX8_anySand_9 (by decide) (fun c2 => ?_) (fun c2 => ?_)
        · replace h := h.1 c2
          refine lv_iload_n hx hb dX8_anySand_37 rfl (lv_at hl 1 rfl) ?_
          exact g_zret (post := fun r (_ : Unit) => Q r) (P' := fun _ _ => True) (r := w1) (u := ()) C hr hK hS h.1 h.2 trivial dX8_anySand_38
        · replace h := h.2 c2
          refine lv_iload_n hx hb dX8_anySand_12 rfl (lv_at hl 1 rfl) ?_
          refine lv_if_ne (tgt := 25) hx hb dX8_anySand_13 (by decide) (fun c3 => ?_) (fun c3 => ?_)
          · replace h := h.1 c3
            refine lv_iconst (v := 1) hx hb dX8_anySand_25 (by decide) ?_
            refine lv_goto (tgt := 30) hx hb dX8_anySand_26 (by decide) ?_
            refine lv_istore_n (lv' := [(1, .int 1), (0, .ref (aM + 0)), (2, .int w2)]) hx hb dX8_anySand_30 rfl hl (by decide) rfl (fun ls hl => ?_)
            obtain ⟨v4, ev4⟩ : ∃ y : Int32, y = w2 + 1 := ⟨_, rfl⟩
            specialize h v4 ev4
            refine lv_iinc (v := v4) (lv' := [(2, .int v4), (1, .int 1), (0, .ref (aM + 0))]) hx hb dX8_anySand_31 hl (k := 2) rfl (by rw [ev4]; rfl) (by decide) rfl (fun ls hl => ?_)
            refine lv_goto (tgt := 4) hx hb dX8_anySand_34 (by decide) ?_
            exact (ih) 1 v4 _ _ _ hM hS (lv_sub hl [2, 1, 0] rfl) h
          · replace h := h.2 c3
            refine lv_aload_n hx hb dX8_anySand_16 rfl (lv_at hl 0 rfl) ?_
            refine lv_iload_n hx hb dX8_anySand_17 rfl (lv_at hl 2 rfl) ?_
            refine lv_iconst (v := 2) hx hb dX8_anySand_18 (by decide) ?_
            refine g_vI C hK hl.1 (m_X8_of l G aM ρ w2 2 _ h) mw_X8_of mi_X8_of ml_X8_60 rfl ⟨rfl, rfl, Nat.le_of_ble_eq_true rfl, Nat.le_of_ble_eq_true rfl⟩ ⟨Nat.zero_le _, Nat.zero_le _⟩ (g_recv (a := aM) (k := 0) hK hM rfl rfl) hM hS (fun _ h => h.elim) rfl (Nat.le_of_ble_eq_true rfl) dX8_anySand_19 (fun r5 u H locs h hu _ hq hS => ?_)
            have hM := hM.past hq (fun _ _ h => h)
            refine lv_if_le (tgt := 29) hx hb dX8_anySand_22 (by decide) (fun c6 => ?_) (fun c6 => ?_)
            · replace h := h.1 c6
              refine lv_iconst (v := 0) hx hb dX8_anySand_29 (by decide) ?_
              refine lv_istore_n (lv' := [(1, .int 0), (0, .ref (aM + 0)), (2, .int w2)]) hx hb dX8_anySand_30 rfl hl (by decide) rfl (fun ls hl => ?_)
              obtain ⟨v7, ev7⟩ : ∃ y : Int32, y = w2 + 1 := ⟨_, rfl⟩
              specialize h v7 ev7
              refine lv_iinc (v := v7) (lv' := [(2, .int v7), (1, .int 0), (0, .ref (aM + 0))]) hx hb dX8_anySand_31 hl (k := 2) rfl (by rw [ev7]; rfl) (by decide) rfl (fun ls hl => ?_)
              refine lv_goto (tgt := 4) hx hb dX8_anySand_34 (by decide) ?_
              exact (ih) 0 v7 _ _ _ hM hS (lv_sub hl [2, 1, 0] rfl) h
            · replace h := h.2 c6
              refine lv_iconst (v := 1) hx hb dX8_anySand_25 (by decide) ?_
              refine lv_goto (tgt := 30) hx hb dX8_anySand_26 (by decide) ?_
              refine lv_istore_n (lv' := [(1, .int 1), (0, .ref (aM + 0)), (2, .int w2)]) hx hb dX8_anySand_30 rfl hl (by decide) rfl (fun ls hl => ?_)
              obtain ⟨v8, ev8⟩ : ∃ y : Int32, y = w2 + 1 := ⟨_, rfl⟩
              specialize h v8 ev8
              refine lv_iinc (v := v8) (lv' := [(2, .int v8), (1, .int 1), (0, .ref (aM + 0))]) hx hb dX8_anySand_31 hl (k := 2) rfl (by rw [ev8]; rfl) (by decide) rfl (fun ls hl => ?_)
              refine lv_goto (tgt := 4) hx hb dX8_anySand_34 (by decide) ?_
              exact (ih) 1 v8 _ _ _ hM hS (lv_sub hl [2, 1, 0] rfl) h
  unfold vc_X8_anySand at h
  obtain ⟨n, h⟩ := h
  refine lv_iconst (v := 0) hx hb dX8_anySand_0 (by decide) ?_
  refine lv_istore_n (lv' := [(1, .int 0), (0, .ref (aM + 0))]) hx hb dX8_anySand_1 rfl hl (by decide) rfl (fun ls hl => ?_)
  refine lv_iconst (v := 0) hx hb dX8_anySand_2 (by decide) ?_
  refine lv_istore_n (lv' := [(2, .int 0), (1, .int 0), (0, .ref (aM + 0))]) hx hb dX8_anySand_3 rfl hl (by decide) rfl (fun ls hl => ?_)
  exact ((K n)) 0 0 _ _ _ hM hS (lv_sub hl [2, 1, 0] rfl) h
theorem dX8_next_0 : decode cX8_next 0 = .ok (.iload_n 1, 1) := by decide +kernel
theorem dX8_next_1 : decode cX8_next 1 = .ok (.iconst 0, 1) := by decide +kernel
theorem dX8_next_2 : decode cX8_next 2 = .ok (.iconst 1, 1) := by decide +kernel
theorem dX8_next_3 : decode cX8_next 3 = .ok (.invokestatic 43, 3) := by decide +kernel
theorem dX8_next_6 : decode cX8_next 6 = .ok (.ifCond .ne 6, 3) := by decide +kernel
theorem dX8_next_9 : decode cX8_next 9 = .ok (.ldc 59, 2) := by decide +kernel
theorem dX8_next_11 : decode cX8_next 11 = .ok (.ireturn, 1) := by decide +kernel
theorem dX8_next_12 : decode cX8_next 12 = .ok (.aload_n 0, 1) := by decide +kernel
theorem dX8_next_13 : decode cX8_next 13 = .ok (.invokevirtual 127, 3) := by decide +kernel
theorem dX8_next_16 : decode cX8_next 16 = .ok (.ifCond .ne 6, 3) := by decide +kernel
theorem dX8_next_19 : decode cX8_next 19 = .ok (.ldc 113, 2) := by decide +kernel
theorem dX8_next_21 : decode cX8_next 21 = .ok (.ireturn, 1) := by decide +kernel
theorem dX8_next_22 : decode cX8_next 22 = .ok (.aload_n 0, 1) := by decide +kernel
theorem dX8_next_23 : decode cX8_next 23 = .ok (.getfield 7, 3) := by decide +kernel
theorem dX8_next_26 : decode cX8_next 26 = .ok (.aload_n 0, 1) := by decide +kernel
theorem dX8_next_27 : decode cX8_next 27 = .ok (.getfield 19, 3) := by decide +kernel
theorem dX8_next_30 : decode cX8_next 30 = .ok (.invokestatic 114, 3) := by decide +kernel
theorem dX8_next_33 : decode cX8_next 33 = .ok (.iconst 0, 1) := by decide +kernel
theorem dX8_next_34 : decode cX8_next 34 = .ok (.istore_n 2, 1) := by decide +kernel
theorem dX8_next_35 : decode cX8_next 35 = .ok (.aload_n 0, 1) := by decide +kernel
theorem dX8_next_36 : decode cX8_next 36 = .ok (.iconst 0, 1) := by decide +kernel
theorem dX8_next_37 : decode cX8_next 37 = .ok (.putfield 91, 3) := by decide +kernel
theorem dX8_next_40 : decode cX8_next 40 = .ok (.aload_n 0, 1) := by decide +kernel
theorem dX8_next_41 : decode cX8_next 41 = .ok (.getfield 91, 3) := by decide +kernel
theorem dX8_next_44 : decode cX8_next 44 = .ok (.ifCond .ne 13, 3) := by decide +kernel
theorem dX8_next_47 : decode cX8_next 47 = .ok (.aload_n 0, 1) := by decide +kernel
theorem dX8_next_48 : decode cX8_next 48 = .ok (.invokevirtual 107, 3) := by decide +kernel
theorem dX8_next_51 : decode cX8_next 51 = .ok (.iinc 2 1, 3) := by decide +kernel
theorem dX8_next_54 : decode cX8_next 54 = .ok (.goto (-14), 3) := by decide +kernel
theorem dX8_next_57 : decode cX8_next 57 = .ok (.aload_n 0, 1) := by decide +kernel
theorem dX8_next_58 : decode cX8_next 58 = .ok (.getfield 19, 3) := by decide +kernel
theorem dX8_next_61 : decode cX8_next 61 = .ok (.aload_n 0, 1) := by decide +kernel
theorem dX8_next_62 : decode cX8_next 62 = .ok (.getfield 7, 3) := by decide +kernel
theorem dX8_next_65 : decode cX8_next 65 = .ok (.invokestatic 114, 3) := by decide +kernel
theorem dX8_next_68 : decode cX8_next 68 = .ok (.iload_n 1, 1) := by decide +kernel
theorem dX8_next_69 : decode cX8_next 69 = .ok (.ifCond .ne 15, 3) := by decide +kernel
theorem dX8_next_72 : decode cX8_next 72 = .ok (.aload_n 0, 1) := by decide +kernel
theorem dX8_next_73 : decode cX8_next 73 = .ok (.getfield 25, 3) := by decide +kernel
theorem dX8_next_76 : decode cX8_next 76 = .ok (.iconst 0, 1) := by decide +kernel
theorem dX8_next_77 : decode cX8_next 77 = .ok (.iaload, 1) := by decide +kernel
theorem dX8_next_78 : decode cX8_next 78 = .ok (.invokestatic 124, 3) := by decide +kernel
theorem dX8_next_81 : decode cX8_next 81 = .ok (.goto 4, 3) := by decide +kernel
theorem dX8_next_84 : decode cX8_next 84 = .ok (.iload_n 2, 1) := by decide +kernel
theorem dX8_next_85 : decode cX8_next 85 = .ok (.ireturn, 1) := by decide +kernel
def vb_X8_next_40 (Q : Int32 → Mem → Prop) (rec : Nat → Mem → Int32 → Int32 → Prop) (ρ : Mem) (w1 : Int32) (w2 : Int32) : Prop :=
  ((¬ (ρ 0 9) = 0) → (vc_X8_copies (fun ρ10 => ((¬ w1 = 0) → (Q w2 ρ10)) ∧ ((w1 = 0) → ((vc_X8_told (fun r12 => Q r12 ρ10) (ρ10 6 (0 : Int32).toNatClampNeg))))) ρ 4 1)) ∧ (((ρ 0 9) = 0) → (vc_X8_goes (fun ρ14 => ∀ v15 : Int32, v15 = w2 + 1 → (rec 0 ρ14 w1 v15)) ρ))
def vl_X8_next (Q : Int32 → Mem → Prop) : Nat → Nat → Mem → Int32 → Int32 → Prop
  | 0, _, _, _, _ => False
  | n + 1, 0, ρ, w1, w2 => vb_X8_next_40 Q (vl_X8_next Q n) ρ w1 w2
  | _ + 1, _, _, _, _ => False
def vc_X8_next (Q : Int32 → Mem → Prop) (ρ : Mem) (x1 : Int32) : Prop :=
  ∃ n : Nat, vc_X8_in (fun r1 => ((¬ r1 = 0) → (vc_X8_anySand (fun r3 => ((¬ r3 = 0) → (vc_X8_copies (fun ρ6 => ∀ ρ7 : Mem, ρ7 = up ρ6 0 9 0 → (vl_X8_next Q n 0 ρ7 x1 0)) ρ 1 4)) ∧ ((r3 = 0) → (Q (-1000004) ρ))) ρ)) ∧ ((r1 = 0) → (Q (-1000001) ρ))) x1 0 1
set_option maxHeartbeats 8000000 in
set_option maxRecDepth 100000 in
theorem m_X8_next (l : Launch) (G : GG) (aM : Nat) (ρ : Mem) (x1 : Int32) (Q : Int32 → Mem → Prop) (h : vc_X8_next Q ρ x1) : CtI l yX8_next cX8_next 3 (some .int) { frames := 4, cells := 0, slots := 0, locals := 90 } [.ref (aM + 0), .int x1] G (fun H => rg G LM aM ρ H) (Q) (fun u H => rg G LM aM u H) (RA aM 8) := by
  unfold CtI
  refine met_start (y := yX8_next) (maxL := 3) (av := [.ref (aM + 0), .int x1]) (G := G) (P := fun H => rg G LM aM ρ H) (by decide) rfl (Nat.le_of_ble_eq_true rfl) (fun p e s m below meth c ls C hr hP hK hl => ?_)
  obtain ⟨hx, hb, hml, hown, hts, hlocks⟩ := id C
  have hM : rg G LM aM ρ s.heap := hP
  have hS : va_S (RA aM 8) s.heap s.heap [] := va_S.rf
  have hl : lv_has ls 3 [(0, .ref (aM + 0)), (1, .int x1)] := hl
  have K : ∀ n : Nat, (∀ (ρ : Mem) (w1 : Int32) (w2 : Int32) (H : Heap) (locs : List Loc) (ls : Array Slot), rg G LM aM ρ H → va_S (RA aM 8) s.heap H locs → lv_has ls 3 [(0, .ref (aM + 0)), (1, .int w1), (2, .int w2)] → vl_X8_next Q n 0 ρ w1 w2 → W p l e { frames := 4, cells := 0, slots := 0, locals := 90 } s m [.ref (aM + 0), .int x1].toArray below meth c H locs 0 0 (MQ below (va_Qi (Q) (fun u t => (fun u H => rg G LM aM u H) u t.heap ∧ KK G t) (RA aM 8)) [.ref (aM + 0), .int x1].toArray s 0 0 (RA aM 8)) (F0 m 40 ls [])) := by
    intro n
    induction n with
    | zero => exact fun _ _ _ _ _ _ _ _ _ h => h.elim
    | succ n ih =>
      · intro ρ w1 w2 H locs ls hM hS hl h
        replace h : vb_X8_next_40 Q (vl_X8_next Q n) ρ w1 w2 := h
        unfold vb_X8_next_40 at h
        refine lv_aload_n hx hb dX8_next_40 rfl (lv_at hl 0 rfl) ?_
        refine g_getI (a := aM) (k := 0) C hK hM fl_X8_91 rfl rfl dX8_next_41 ?_
        refine lv_if_ne (tgt := 57) hx hb dX8_next_44 (by decide) (fun c8 => ?_) (fun c8 => ?_)
        · replace h := h.1 c8
          refine lv_aload_n hx hb dX8_next_57 rfl (lv_at hl 0 rfl) ?_
          refine g_getR (a := aM) (k := 0) (o := 4) C hK hM fl_X8_19 rfl rfl dX8_next_58 ?_
          refine lv_aload_n hx hb dX8_next_61 rfl (lv_at hl 0 rfl) ?_
          refine g_getR (a := aM) (k := 0) (o := 1) C hK hM fl_X8_7 rfl rfl dX8_next_62 ?_
          refine g_sV C hK hl.1 (m_X8_copies l G aM ρ 4 rfl 1 rfl _ h) mw_X8_copies ms_X8_copies ml_X8_114 rfl ⟨rfl, rfl, Nat.le_of_ble_eq_true rfl, Nat.le_of_ble_eq_true rfl⟩ ⟨Nat.zero_le _, Nat.zero_le _⟩ hM hS (fun _ h => h) rfl (Nat.le_of_ble_eq_true rfl) dX8_next_65 (fun u H locs h hu _ hq hS => ?_)
          obtain ⟨ρ10, rfl⟩ : ∃ z, z = u := ⟨_, rfl⟩
          have hM := hu
          refine lv_iload_n hx hb dX8_next_68 rfl (lv_at hl 1 rfl) ?_
          refine lv_if_ne (tgt := 84) hx hb dX8_next_69 (by decide) (fun c11 => ?_) (fun c11 => ?_)
          · replace h := h.1 c11
            refine lv_iload_n hx hb dX8_next_84 rfl (lv_at hl 2 rfl) ?_
            exact g_iret (post := Q) (P' := fun u H => rg G LM aM u H) (r := w2) (u := ρ10) C hr hK hS h hM dX8_next_85
          · replace h := h.2 c11
            refine lv_aload_n hx hb dX8_next_72 rfl (lv_at hl 0 rfl) ?_
            refine g_getR (a := aM) (k := 0) (o := 6) C hK hM fl_X8_25 rfl rfl dX8_next_73 ?_
            refine lv_iconst (v := 0) hx hb dX8_next_76 (by decide) ?_
            refine g_ald (a := aM) (k := 6) (n := 12) C hK hM rfl (vp_dec (by decide)) dX8_next_77 ?_
            refine g_sI C hK hl.1 (m_X8_told l G (ρ10 6 (0 : Int32).toNatClampNeg) _ h) mw_X8_told ms_X8_told ml_X8_124 rfl ⟨rfl, rfl, Nat.le_of_ble_eq_true rfl, Nat.le_of_ble_eq_true rfl⟩ ⟨Nat.zero_le _, Nat.zero_le _⟩ trivial hS (fun _ h => h.elim) rfl (Nat.le_of_ble_eq_true rfl) dX8_next_78 (fun r12 u H locs h hu _ hq hS => ?_)
            have hM := hM.past hq (fun _ _ h => h)
            refine lv_goto (tgt := 85) hx hb dX8_next_81 (by decide) ?_
            exact g_iret (post := Q) (P' := fun u H => rg G LM aM u H) (r := r12) (u := ρ10) C hr hK hS h hM dX8_next_85
        · replace h := h.2 c8
          refine lv_aload_n hx hb dX8_next_47 rfl (lv_at hl 0 rfl) ?_
          refine g_vV C hK hl.1 (m_X8_goes l G aM ρ _ h) mw_X8_goes mi_X8_goes ml_X8_107 rfl ⟨rfl, rfl, Nat.le_of_ble_eq_true rfl, Nat.le_of_ble_eq_true rfl⟩ ⟨Nat.zero_le _, Nat.zero_le _⟩ (g_recv (a := aM) (k := 0) hK hM rfl rfl) hM hS (fun _ h => h) rfl (Nat.le_of_ble_eq_true rfl) dX8_next_48 (fun u H locs h hu _ hq hS => ?_)
          obtain ⟨ρ14, rfl⟩ : ∃ z, z = u := ⟨_, rfl⟩
          have hM := hu
          obtain ⟨v15, ev15⟩ : ∃ y : Int32, y = w2 + 1 := ⟨_, rfl⟩
          specialize h v15 ev15
          refine lv_iinc (v := v15) (lv' := [(2, .int v15), (0, .ref (aM + 0)), (1, .int w1)]) hx hb dX8_next_51 hl (k := 2) rfl (by rw [ev15]; rfl) (by decide) rfl (fun ls hl => ?_)
          refine lv_goto (tgt := 40) hx hb dX8_next_54 (by decide) ?_
          exact (ih) ρ14 w1 v15 _ _ _ hM hS (lv_sub hl [1, 2, 0] rfl) h
  unfold vc_X8_next at h
  obtain ⟨n, h⟩ := h
  refine lv_iload_n hx hb dX8_next_0 rfl (lv_at hl 1 rfl) ?_
  refine lv_iconst (v := 0) hx hb dX8_next_1 (by decide) ?_
  refine lv_iconst (v := 1) hx hb dX8_next_2 (by decide) ?_
  refine g_sI C hK hl.1 (m_X8_in l G x1 0 1 _ h) mw_X8_in ms_X8_in ml_X8_43 rfl ⟨rfl, rfl, Nat.le_of_ble_eq_true rfl, Nat.le_of_ble_eq_true rfl⟩ ⟨Nat.zero_le _, Nat.zero_le _⟩ trivial hS (fun _ h => h.elim) rfl (Nat.le_of_ble_eq_true rfl) dX8_next_3 (fun r1 u H locs h hu _ hq hS => ?_)
  have hM := hM.past hq (fun _ _ h => h)
  refine lv_if_ne (tgt := 12) hx hb dX8_next_6 (by decide) (fun c2 => ?_) (fun c2 => ?_)
  · replace h := h.1 c2
    refine lv_aload_n hx hb dX8_next_12 rfl (lv_at hl 0 rfl) ?_
    refine g_vI C hK hl.1 (m_X8_anySand l G aM ρ _ h) mw_X8_anySand mi_X8_anySand ml_X8_127 rfl ⟨rfl, rfl, Nat.le_of_ble_eq_true rfl, Nat.le_of_ble_eq_true rfl⟩ ⟨Nat.zero_le _, Nat.zero_le _⟩ (g_recv (a := aM) (k := 0) hK hM rfl rfl) hM hS (fun _ h => h.elim) rfl (Nat.le_of_ble_eq_true rfl) dX8_next_13 (fun r3 u H locs h hu _ hq hS => ?_)
    have hM := hM.past hq (fun _ _ h => h)
    refine lv_if_ne (tgt := 22) hx hb dX8_next_16 (by decide) (fun c4 => ?_) (fun c4 => ?_)
    · replace h := h.1 c4
      refine lv_aload_n hx hb dX8_next_22 rfl (lv_at hl 0 rfl) ?_
      refine g_getR (a := aM) (k := 0) (o := 1) C hK hM fl_X8_7 rfl rfl dX8_next_23 ?_
      refine lv_aload_n hx hb dX8_next_26 rfl (lv_at hl 0 rfl) ?_
      refine g_getR (a := aM) (k := 0) (o := 4) C hK hM fl_X8_19 rfl rfl dX8_next_27 ?_
      refine g_sV C hK hl.1 (m_X8_copies l G aM ρ 1 rfl 4 rfl _ h) mw_X8_copies ms_X8_copies ml_X8_114 rfl ⟨rfl, rfl, Nat.le_of_ble_eq_true rfl, Nat.le_of_ble_eq_true rfl⟩ ⟨Nat.zero_le _, Nat.zero_le _⟩ hM hS (fun _ h => h) rfl (Nat.le_of_ble_eq_true rfl) dX8_next_30 (fun u H locs h hu _ hq hS => ?_)
      obtain ⟨ρ6, rfl⟩ : ∃ z, z = u := ⟨_, rfl⟩
      have hM := hu
      refine lv_iconst (v := 0) hx hb dX8_next_33 (by decide) ?_
      refine lv_istore_n (lv' := [(2, .int 0), (0, .ref (aM + 0)), (1, .int x1)]) hx hb dX8_next_34 rfl hl (by decide) rfl (fun ls hl => ?_)
      refine lv_aload_n hx hb dX8_next_35 rfl (lv_at hl 1 rfl) ?_
      refine lv_iconst (v := 0) hx hb dX8_next_36 (by decide) ?_
      refine g_put (a := aM) (k := 0) C hK hM hS fl_X8_91 fp_X8_9 rfl rfl (by rfl) (by rfl) (RA_in (by decide)) dX8_next_37 (fun ρ7 H locs eρ7 hM hS hq => ?_)
      specialize h ρ7 eρ7
      exact ((K n)) ρ7 x1 0 _ _ _ hM hS (lv_sub hl [1, 2, 0] rfl) h
    · replace h := h.2 c4
      refine g_ldc C kc_X8_113 dX8_next_19 ?_
      exact g_iret (post := Q) (P' := fun u H => rg G LM aM u H) (r := (-1000004)) (u := ρ) C hr hK hS h hM dX8_next_21
  · replace h := h.2 c2
    refine g_ldc C kc_X8_59 dX8_next_9 ?_
    exact g_iret (post := Q) (P' := fun u H => rg G LM aM u H) (r := (-1000001)) (u := ρ) C hr hK hS h hM dX8_next_11
theorem dX8_would_0 : decode cX8_would 0 = .ok (.aload_n 0, 1) := by decide +kernel
theorem dX8_would_1 : decode cX8_would 1 = .ok (.iload_n 1, 1) := by decide +kernel
theorem dX8_would_2 : decode cX8_would 2 = .ok (.invokevirtual 39, 3) := by decide +kernel
theorem dX8_would_5 : decode cX8_would 5 = .ok (.ifCond .eq 23, 3) := by decide +kernel
theorem dX8_would_8 : decode cX8_would 8 = .ok (.iload_n 2, 1) := by decide +kernel
theorem dX8_would_9 : decode cX8_would 9 = .ok (.iconst 0, 1) := by decide +kernel
theorem dX8_would_10 : decode cX8_would 10 = .ok (.sipush 600, 3) := by decide +kernel
theorem dX8_would_13 : decode cX8_would 13 = .ok (.invokestatic 43, 3) := by decide +kernel
theorem dX8_would_16 : decode cX8_would 16 = .ok (.ifCond .eq 12, 3) := by decide +kernel
theorem dX8_would_19 : decode cX8_would 19 = .ok (.iload_n 3, 1) := by decide +kernel
theorem dX8_would_20 : decode cX8_would 20 = .ok (.iconst 0, 1) := by decide +kernel
theorem dX8_would_21 : decode cX8_would 21 = .ok (.iconst 4, 1) := by decide +kernel
theorem dX8_would_22 : decode cX8_would 22 = .ok (.invokestatic 43, 3) := by decide +kernel
theorem dX8_would_25 : decode cX8_would 25 = .ok (.ifCond .ne 6, 3) := by decide +kernel
theorem dX8_would_28 : decode cX8_would 28 = .ok (.ldc 59, 2) := by decide +kernel
theorem dX8_would_30 : decode cX8_would 30 = .ok (.ireturn, 1) := by decide +kernel
theorem dX8_would_31 : decode cX8_would 31 = .ok (.aload_n 0, 1) := by decide +kernel
theorem dX8_would_32 : decode cX8_would 32 = .ok (.getfield 7, 3) := by decide +kernel
theorem dX8_would_35 : decode cX8_would 35 = .ok (.aload_n 0, 1) := by decide +kernel
theorem dX8_would_36 : decode cX8_would 36 = .ok (.getfield 19, 3) := by decide +kernel
theorem dX8_would_39 : decode cX8_would 39 = .ok (.invokestatic 114, 3) := by decide +kernel
theorem dX8_would_42 : decode cX8_would 42 = .ok (.iconst 0, 1) := by decide +kernel
theorem dX8_would_43 : decode cX8_would 43 = .ok (.istore 4, 2) := by decide +kernel
theorem dX8_would_45 : decode cX8_would 45 = .ok (.iload 4, 2) := by decide +kernel
theorem dX8_would_47 : decode cX8_would 47 = .ok (.iload_n 2, 1) := by decide +kernel
theorem dX8_would_48 : decode cX8_would 48 = .ok (.if_icmp .ge 13, 3) := by decide +kernel
theorem dX8_would_51 : decode cX8_would 51 = .ok (.aload_n 0, 1) := by decide +kernel
theorem dX8_would_52 : decode cX8_would 52 = .ok (.invokevirtual 107, 3) := by decide +kernel
theorem dX8_would_55 : decode cX8_would 55 = .ok (.iinc 4 1, 3) := by decide +kernel
theorem dX8_would_58 : decode cX8_would 58 = .ok (.goto (-13), 3) := by decide +kernel
theorem dX8_would_61 : decode cX8_would 61 = .ok (.aload_n 0, 1) := by decide +kernel
theorem dX8_would_62 : decode cX8_would 62 = .ok (.getfield 7, 3) := by decide +kernel
theorem dX8_would_65 : decode cX8_would 65 = .ok (.bipush 8, 2) := by decide +kernel
theorem dX8_would_67 : decode cX8_would 67 = .ok (.iconst 5, 1) := by decide +kernel
theorem dX8_would_68 : decode cX8_would 68 = .ok (.iload_n 1, 1) := by decide +kernel
theorem dX8_would_69 : decode cX8_would 69 = .ok (.imul, 1) := by decide +kernel
theorem dX8_would_70 : decode cX8_would 70 = .ok (.iadd, 1) := by decide +kernel
theorem dX8_would_71 : decode cX8_would 71 = .ok (.iload_n 3, 1) := by decide +kernel
theorem dX8_would_72 : decode cX8_would 72 = .ok (.iadd, 1) := by decide +kernel
theorem dX8_would_73 : decode cX8_would 73 = .ok (.iaload, 1) := by decide +kernel
theorem dX8_would_74 : decode cX8_would 74 = .ok (.iload_n 3, 1) := by decide +kernel
theorem dX8_would_75 : decode cX8_would 75 = .ok (.iconst 4, 1) := by decide +kernel
theorem dX8_would_76 : decode cX8_would 76 = .ok (.if_icmp .ne 19, 3) := by decide +kernel
theorem dX8_would_79 : decode cX8_would 79 = .ok (.aload_n 0, 1) := by decide +kernel
theorem dX8_would_80 : decode cX8_would 80 = .ok (.getfield 19, 3) := by decide +kernel
theorem dX8_would_83 : decode cX8_would 83 = .ok (.bipush 8, 2) := by decide +kernel
theorem dX8_would_85 : decode cX8_would 85 = .ok (.iconst 5, 1) := by decide +kernel
theorem dX8_would_86 : decode cX8_would 86 = .ok (.iload_n 1, 1) := by decide +kernel
theorem dX8_would_87 : decode cX8_would 87 = .ok (.imul, 1) := by decide +kernel
theorem dX8_would_88 : decode cX8_would 88 = .ok (.iadd, 1) := by decide +kernel
theorem dX8_would_89 : decode cX8_would 89 = .ok (.iload_n 3, 1) := by decide +kernel
theorem dX8_would_90 : decode cX8_would 90 = .ok (.iadd, 1) := by decide +kernel
theorem dX8_would_91 : decode cX8_would 91 = .ok (.iaload, 1) := by decide +kernel
theorem dX8_would_92 : decode cX8_would 92 = .ok (.goto 4, 3) := by decide +kernel
theorem dX8_would_95 : decode cX8_would 95 = .ok (.iconst 0, 1) := by decide +kernel
theorem dX8_would_96 : decode cX8_would 96 = .ok (.isub, 1) := by decide +kernel
theorem dX8_would_97 : decode cX8_would 97 = .ok (.istore 4, 2) := by decide +kernel
theorem dX8_would_99 : decode cX8_would 99 = .ok (.aload_n 0, 1) := by decide +kernel
theorem dX8_would_100 : decode cX8_would 100 = .ok (.getfield 19, 3) := by decide +kernel
theorem dX8_would_103 : decode cX8_would 103 = .ok (.aload_n 0, 1) := by decide +kernel
theorem dX8_would_104 : decode cX8_would 104 = .ok (.getfield 7, 3) := by decide +kernel
theorem dX8_would_107 : decode cX8_would 107 = .ok (.invokestatic 114, 3) := by decide +kernel
theorem dX8_would_110 : decode cX8_would 110 = .ok (.iload 4, 2) := by decide +kernel
theorem dX8_would_112 : decode cX8_would 112 = .ok (.ireturn, 1) := by decide +kernel
def vb_X8_would_45 (Q : Int32 → Mem → Prop) (rec : Nat → Mem → Int32 → Int32 → Int32 → Int32 → Prop) (ρ : Mem) (w1 : Int32) (w2 : Int32) (w3 : Int32) (w4 : Int32) : Prop :=
  ((w2 ≤ w4) → (vp_in ((8 + (5 * w1)) + w3) 164 ∧ (((¬ w3 = 4) → (∀ v12 : Int32, v12 = ((ρ 1 ((8 + (5 * w1)) + w3).toNatClampNeg) - 0) → (vc_X8_copies (fun ρ14 => Q v12 ρ14) ρ 4 1))) ∧ ((w3 = 4) → ((∀ v15 : Int32, v15 = ((ρ 1 ((8 + (5 * w1)) + w3).toNatClampNeg) - (ρ 4 ((8 + (5 * w1)) + w3).toNatClampNeg)) → (vc_X8_copies (fun ρ17 => Q v15 ρ17) ρ 4 1))))))) ∧ ((¬ w2 ≤ w4) → (vc_X8_goes (fun ρ19 => ∀ v20 : Int32, v20 = w4 + 1 → (rec 0 ρ19 w1 w2 w3 v20)) ρ))
def vl_X8_would (Q : Int32 → Mem → Prop) : Nat → Nat → Mem → Int32 → Int32 → Int32 → Int32 → Prop
  | 0, _, _, _, _, _, _ => False
  | n + 1, 0, ρ, w1, w2, w3, w4 => vb_X8_would_45 Q (vl_X8_would Q n) ρ w1 w2 w3 w4
  | _ + 1, _, _, _, _, _, _ => False
def vc_X8_would (Q : Int32 → Mem → Prop) (ρ : Mem) (x1 : Int32) (x2 : Int32) (x3 : Int32) : Prop :=
  ∃ n : Nat, vc_X8_isPlayer (fun r1 => ((r1 = 0) → (Q (-1000001) ρ)) ∧ ((¬ r1 = 0) → (vc_X8_in (fun r3 => ((r3 = 0) → (Q (-1000001) ρ)) ∧ ((¬ r3 = 0) → (vc_X8_in (fun r5 => ((¬ r5 = 0) → (vc_X8_copies (fun ρ8 => vl_X8_would Q n 0 ρ8 x1 x2 x3 0) ρ 1 4)) ∧ ((r5 = 0) → (Q (-1000001) ρ))) x3 0 4))) x2 0 600))) ρ x1
set_option maxHeartbeats 8000000 in
set_option maxRecDepth 100000 in
theorem m_X8_would (l : Launch) (G : GG) (aM : Nat) (ρ : Mem) (x1 : Int32) (x2 : Int32) (x3 : Int32) (Q : Int32 → Mem → Prop) (h : vc_X8_would Q ρ x1 x2 x3) : CtI l yX8_would cX8_would 5 (some .int) { frames := 4, cells := 0, slots := 0, locals := 90 } [.ref (aM + 0), .int x1, .int x2, .int x3] G (fun H => rg G LM aM ρ H) (Q) (fun u H => rg G LM aM u H) (RA aM 8) := by
  unfold CtI
  refine met_start (y := yX8_would) (maxL := 5) (av := [.ref (aM + 0), .int x1, .int x2, .int x3]) (G := G) (P := fun H => rg G LM aM ρ H) (by decide) rfl (Nat.le_of_ble_eq_true rfl) (fun p e s m below meth c ls C hr hP hK hl => ?_)
  obtain ⟨hx, hb, hml, hown, hts, hlocks⟩ := id C
  have hM : rg G LM aM ρ s.heap := hP
  have hS : va_S (RA aM 8) s.heap s.heap [] := va_S.rf
  have hl : lv_has ls 5 [(0, .ref (aM + 0)), (1, .int x1), (2, .int x2), (3, .int x3)] := hl
  have K : ∀ n : Nat, (∀ (ρ : Mem) (w1 : Int32) (w2 : Int32) (w3 : Int32) (w4 : Int32) (H : Heap) (locs : List Loc) (ls : Array Slot), rg G LM aM ρ H → va_S (RA aM 8) s.heap H locs → lv_has ls 5 [(0, .ref (aM + 0)), (1, .int w1), (2, .int w2), (3, .int w3), (4, .int w4)] → vl_X8_would Q n 0 ρ w1 w2 w3 w4 → W p l e { frames := 4, cells := 0, slots := 0, locals := 90 } s m [.ref (aM + 0), .int x1, .int x2, .int x3].toArray below meth c H locs 0 0 (MQ below (va_Qi (Q) (fun u t => (fun u H => rg G LM aM u H) u t.heap ∧ KK G t) (RA aM 8)) [.ref (aM + 0), .int x1, .int x2, .int x3].toArray s 0 0 (RA aM 8)) (F0 m 45 ls [])) := by
    intro n
    induction n with
    | zero => exact fun _ _ _ _ _ _ _ _ _ _ _ h => h.elim
    | succ n ih =>
      · intro ρ w1 w2 w3 w4 H locs ls hM hS hl h
        replace h : vb_X8_would_45 Q (vl_X8_would Q n) ρ w1 w2 w3 w4 := h
        unfold vb_X8_would_45 at h
        refine lv_iload hx hb dX8_would_45 (lv_at hl 4 rfl) ?_
        refine lv_iload_n hx hb dX8_would_47 rfl (lv_at hl 2 rfl) ?_
        refine lv_icmp_ge (tgt := 61) hx hb dX8_would_48 (by decide) (fun c9 => ?_) (fun c9 => ?_)
        · replace h := h.1 c9
          refine lv_aload_n hx hb dX8_would_61 rfl (lv_at hl 0 rfl) ?_
          refine g_getR (a := aM) (k := 0) (o := 1) C hK hM fl_X8_7 rfl rfl dX8_would_62 ?_
          refine lv_bipush (v := 8) hx hb dX8_would_65 (by decide) ?_
          refine lv_iconst (v := 5) hx hb dX8_would_67 (by decide) ?_
          refine lv_iload_n hx hb dX8_would_68 rfl (lv_at hl 1 rfl) ?_
          refine lv_imul hx hb dX8_would_69 ?_
          refine lv_iadd hx hb dX8_would_70 ?_
          refine lv_iload_n hx hb dX8_would_71 rfl (lv_at hl 3 rfl) ?_
          refine lv_iadd hx hb dX8_would_72 ?_
          obtain ⟨b10, h⟩ := h
          refine g_ald (a := aM) (k := 1) (n := 164) C hK hM rfl b10 dX8_would_73 ?_
          refine lv_iload_n hx hb dX8_would_74 rfl (lv_at hl 3 rfl) ?_
          refine lv_iconst (v := 4) hx hb dX8_would_75 (by decide) ?_
          refine lv_icmp_ne (tgt := 95) hx hb dX8_would_76 (by decide) (fun c11 => ?_) (fun c11 => ?_)
          · replace h := h.1 c11
            refine lv_iconst (v := 0) hx hb dX8_would_95 (by decide) ?_
            refine lv_isub hx hb dX8_would_96 ?_
            refine lv_topi (fun v12 ev12 => ?_)
            specialize h v12 ev12
            refine lv_istore (lv' := [(4, .int v12), (0, .ref (aM + 0)), (1, .int w1), (2, .int w2), (3, .int w3)]) hx hb dX8_would_97 hl (by decide) rfl (fun ls hl => ?_)
            refine lv_aload_n hx hb dX8_would_99 rfl (lv_at hl 1 rfl) ?_
            refine g_getR (a := aM) (k := 0) (o := 4) C hK hM fl_X8_19 rfl rfl dX8_would_100 ?_
            refine lv_aload_n hx hb dX8_would_103 rfl (lv_at hl 1 rfl) ?_
            refine g_getR (a := aM) (k := 0) (o := 1) C hK hM fl_X8_7 rfl rfl dX8_would_104 ?_
            refine g_sV C hK hl.1 (m_X8_copies l G aM ρ 4 rfl 1 rfl _ h) mw_X8_copies ms_X8_copies ml_X8_114 rfl ⟨rfl, rfl, Nat.le_of_ble_eq_true rfl, Nat.le_of_ble_eq_true rfl⟩ ⟨Nat.zero_le _, Nat.zero_le _⟩ hM hS (fun _ h => h) rfl (Nat.le_of_ble_eq_true rfl) dX8_would_107 (fun u H locs h hu _ hq hS => ?_)
            obtain ⟨ρ14, rfl⟩ : ∃ z, z = u := ⟨_, rfl⟩
            have hM := hu
            refine lv_iload hx hb dX8_would_110 (lv_at hl 0 rfl) ?_
            exact g_iret (post := Q) (P' := fun u H => rg G LM aM u H) (r := v12) (u := ρ14) C hr hK hS h hM dX8_would_112
          · replace h := h.2 c11
            refine lv_aload_n hx hb dX8_would_79 rfl (lv_at hl 0 rfl) ?_
            refine g_getR (a := aM) (k := 0) (o := 4) C hK hM fl_X8_19 rfl rfl dX8_would_80 ?_
            refine lv_bipush (v := 8) hx hb dX8_would_83 (by decide) ?_
            refine lv_iconst (v := 5) hx hb dX8_would_85 (by decide) ?_
            refine lv_iload_n hx hb dX8_would_86 rfl (lv_at hl 1 rfl) ?_
            refine lv_imul hx hb dX8_would_87 ?_
            refine lv_iadd hx hb dX8_would_88 ?_
            refine lv_iload_n hx hb dX8_would_89 rfl (lv_at hl 3 rfl) ?_
            refine lv_iadd hx hb dX8_would_90 ?_
            refine g_ald (a := aM) (k := 4) (n := 164) C hK hM rfl b10 dX8_would_91 ?_
            refine lv_goto (tgt := 96) hx hb dX8_would_92 (by decide) ?_
            refine lv_isub hx hb dX8_would_96 ?_
            refine lv_topi (fun v15 ev15 => ?_)
            specialize h v15 ev15
            refine lv_istore (lv' := [(4, .int v15), (0, .ref (aM + 0)), (1, .int w1), (2, .int w2), (3, .int w3)]) hx hb dX8_would_97 hl (by decide) rfl (fun ls hl => ?_)
            refine lv_aload_n hx hb dX8_would_99 rfl (lv_at hl 1 rfl) ?_
            refine g_getR (a := aM) (k := 0) (o := 4) C hK hM fl_X8_19 rfl rfl dX8_would_100 ?_
            refine lv_aload_n hx hb dX8_would_103 rfl (lv_at hl 1 rfl) ?_
            refine g_getR (a := aM) (k := 0) (o := 1) C hK hM fl_X8_7 rfl rfl dX8_would_104 ?_
            refine g_sV C hK hl.1 (m_X8_copies l G aM ρ 4 rfl 1 rfl _ h) mw_X8_copies ms_X8_copies ml_X8_114 rfl ⟨rfl, rfl, Nat.le_of_ble_eq_true rfl, Nat.le_of_ble_eq_true rfl⟩ ⟨Nat.zero_le _, Nat.zero_le _⟩ hM hS (fun _ h => h) rfl (Nat.le_of_ble_eq_true rfl) dX8_would_107 (fun u H locs h hu _ hq hS => ?_)
            obtain ⟨ρ17, rfl⟩ : ∃ z, z = u := ⟨_, rfl⟩
            have hM := hu
            refine lv_iload hx hb dX8_would_110 (lv_at hl 0 rfl) ?_
            exact g_iret (post := Q) (P' := fun u H => rg G LM aM u H) (r := v15) (u := ρ17) C hr hK hS h hM dX8_would_112
        · replace h := h.2 c9
          refine lv_aload_n hx hb dX8_would_51 rfl (lv_at hl 0 rfl) ?_
          refine g_vV C hK hl.1 (m_X8_goes l G aM ρ _ h) mw_X8_goes mi_X8_goes ml_X8_107 rfl ⟨rfl, rfl, Nat.le_of_ble_eq_true rfl, Nat.le_of_ble_eq_true rfl⟩ ⟨Nat.zero_le _, Nat.zero_le _⟩ (g_recv (a := aM) (k := 0) hK hM rfl rfl) hM hS (fun _ h => h) rfl (Nat.le_of_ble_eq_true rfl) dX8_would_52 (fun u H locs h hu _ hq hS => ?_)
          obtain ⟨ρ19, rfl⟩ : ∃ z, z = u := ⟨_, rfl⟩
          have hM := hu
          obtain ⟨v20, ev20⟩ : ∃ y : Int32, y = w4 + 1 := ⟨_, rfl⟩
          specialize h v20 ev20
          refine lv_iinc (v := v20) (lv' := [(4, .int v20), (0, .ref (aM + 0)), (1, .int w1), (2, .int w2), (3, .int w3)]) hx hb dX8_would_55 hl (k := 4) rfl (by rw [ev20]; rfl) (by decide) rfl (fun ls hl => ?_)
          refine lv_goto (tgt := 45) hx hb dX8_would_58 (by decide) ?_
          exact (ih) ρ19 w1 w2 w3 v20 _ _ _ hM hS (lv_sub hl [1, 2, 3, 4, 0] rfl) h
  unfold vc_X8_would at h
  obtain ⟨n, h⟩ := h
  refine lv_aload_n hx hb dX8_would_0 rfl (lv_at hl 0 rfl) ?_
  refine lv_iload_n hx hb dX8_would_1 rfl (lv_at hl 1 rfl) ?_
  refine g_vI C hK hl.1 (m_X8_isPlayer l G aM ρ x1 _ h) mw_X8_isPlayer mi_X8_isPlayer ml_X8_39 rfl ⟨rfl, rfl, Nat.le_of_ble_eq_true rfl, Nat.le_of_ble_eq_true rfl⟩ ⟨Nat.zero_le _, Nat.zero_le _⟩ (g_recv (a := aM) (k := 0) hK hM rfl rfl) hM hS (fun _ h => h.elim) rfl (Nat.le_of_ble_eq_true rfl) dX8_would_2 (fun r1 u H locs h hu _ hq hS => ?_)
  have hM := hM.past hq (fun _ _ h => h)
  refine lv_if_eq (tgt := 28) hx hb dX8_would_5 (by decide) (fun c2 => ?_) (fun c2 => ?_)
  · replace h := h.1 c2
    refine g_ldc C kc_X8_59 dX8_would_28 ?_
    exact g_iret (post := Q) (P' := fun u H => rg G LM aM u H) (r := (-1000001)) (u := ρ) C hr hK hS h hM dX8_would_30
  · replace h := h.2 c2
    refine lv_iload_n hx hb dX8_would_8 rfl (lv_at hl 2 rfl) ?_
    refine lv_iconst (v := 0) hx hb dX8_would_9 (by decide) ?_
    refine lv_sipush (v := 600) hx hb dX8_would_10 (by decide) ?_
    refine g_sI C hK hl.1 (m_X8_in l G x2 0 600 _ h) mw_X8_in ms_X8_in ml_X8_43 rfl ⟨rfl, rfl, Nat.le_of_ble_eq_true rfl, Nat.le_of_ble_eq_true rfl⟩ ⟨Nat.zero_le _, Nat.zero_le _⟩ trivial hS (fun _ h => h.elim) rfl (Nat.le_of_ble_eq_true rfl) dX8_would_13 (fun r3 u H locs h hu _ hq hS => ?_)
    have hM := hM.past hq (fun _ _ h => h)
    refine lv_if_eq (tgt := 28) hx hb dX8_would_16 (by decide) (fun c4 => ?_) (fun c4 => ?_)
    · replace h := h.1 c4
      refine g_ldc C kc_X8_59 dX8_would_28 ?_
      exact g_iret (post := Q) (P' := fun u H => rg G LM aM u H) (r := (-1000001)) (u := ρ) C hr hK hS h hM dX8_would_30
    · replace h := h.2 c4
      refine lv_iload_n hx hb dX8_would_19 rfl (lv_at hl 3 rfl) ?_
      refine lv_iconst (v := 0) hx hb dX8_would_20 (by decide) ?_
      refine lv_iconst (v := 4) hx hb dX8_would_21 (by decide) ?_
      refine g_sI C hK hl.1 (m_X8_in l G x3 0 4 _ h) mw_X8_in ms_X8_in ml_X8_43 rfl ⟨rfl, rfl, Nat.le_of_ble_eq_true rfl, Nat.le_of_ble_eq_true rfl⟩ ⟨Nat.zero_le _, Nat.zero_le _⟩ trivial hS (fun _ h => h.elim) rfl (Nat.le_of_ble_eq_true rfl) dX8_would_22 (fun r5 u H locs h hu _ hq hS => ?_)
      have hM := hM.past hq (fun _ _ h => h)
      refine lv_if_ne (tgt := 31) hx hb dX8_would_25 (by decide) (fun c6 => ?_) (fun c6 => ?_)
      · replace h := h.1 c6
        refine lv_aload_n hx hb dX8_would_31 rfl (lv_at hl 0 rfl) ?_
        refine g_getR (a := aM) (k := 0) (o := 1) C hK hM fl_X8_7 rfl rfl dX8_would_32 ?_
        refine lv_aload_n hx hb dX8_would_35 rfl (lv_at hl 0 rfl) ?_
        refine g_getR (a := aM) (k := 0) (o := 4) C hK hM fl_X8_19 rfl rfl dX8_would_36 ?_
        refine g_sV C hK hl.1 (m_X8_copies l G aM ρ 1 rfl 4 rfl _ h) mw_X8_copies ms_X8_copies ml_X8_114 rfl ⟨rfl, rfl, Nat.le_of_ble_eq_true rfl, Nat.le_of_ble_eq_true rfl⟩ ⟨Nat.zero_le _, Nat.zero_le _⟩ hM hS (fun _ h => h) rfl (Nat.le_of_ble_eq_true rfl) dX8_would_39 (fun u H locs h hu _ hq hS => ?_)
        obtain ⟨ρ8, rfl⟩ : ∃ z, z = u := ⟨_, rfl⟩
        have hM := hu
        refine lv_iconst (v := 0) hx hb dX8_would_42 (by decide) ?_
        refine lv_istore (lv' := [(4, .int 0), (0, .ref (aM + 0)), (1, .int x1), (2, .int x2), (3, .int x3)]) hx hb dX8_would_43 hl (by decide) rfl (fun ls hl => ?_)
        exact ((K n)) ρ8 x1 x2 x3 0 _ _ _ hM hS (lv_sub hl [1, 2, 3, 4, 0] rfl) h
      · replace h := h.2 c6
        refine g_ldc C kc_X8_59 dX8_would_28 ?_
        exact g_iret (post := Q) (P' := fun u H => rg G LM aM u H) (r := (-1000001)) (u := ρ) C hr hK hS h hM dX8_would_30
theorem dX8_sum_0 : decode cX8_sum 0 = .ok (.iload_n 1, 1) := by decide +kernel
theorem dX8_sum_1 : decode cX8_sum 1 = .ok (.iconst 0, 1) := by decide +kernel
theorem dX8_sum_2 : decode cX8_sum 2 = .ok (.invokestatic 47, 3) := by decide +kernel
theorem dX8_sum_5 : decode cX8_sum 5 = .ok (.iload_n 1, 1) := by decide +kernel
theorem dX8_sum_6 : decode cX8_sum 6 = .ok (.iconst 1, 1) := by decide +kernel
theorem dX8_sum_7 : decode cX8_sum 7 = .ok (.invokestatic 47, 3) := by decide +kernel
theorem dX8_sum_10 : decode cX8_sum 10 = .ok (.iadd, 1) := by decide +kernel
theorem dX8_sum_11 : decode cX8_sum 11 = .ok (.iload_n 1, 1) := by decide +kernel
theorem dX8_sum_12 : decode cX8_sum 12 = .ok (.iconst 2, 1) := by decide +kernel
theorem dX8_sum_13 : decode cX8_sum 13 = .ok (.invokestatic 47, 3) := by decide +kernel
theorem dX8_sum_16 : decode cX8_sum 16 = .ok (.iadd, 1) := by decide +kernel
theorem dX8_sum_17 : decode cX8_sum 17 = .ok (.ireturn, 1) := by decide +kernel
def vc_X8_sum (Q : Int32 → Prop) (ρ : Mem) (x1 : Int32) : Prop :=
  vc_X8_amount (fun r1 => vc_X8_amount (fun r2 => vc_X8_amount (fun r3 => Q ((r1 + r2) + r3) ) x1 2) x1 1) x1 0
set_option maxHeartbeats 8000000 in
set_option maxRecDepth 100000 in
theorem m_X8_sum (l : Launch) (G : GG) (aM : Nat) (ρ : Mem) (x1 : Int32) (Q : Int32 → Prop) (h : vc_X8_sum Q ρ x1) : CtI l yX8_sum cX8_sum 2 (some .int) { frames := 1, cells := 0, slots := 0, locals := 21 } [.ref (aM + 0), .int x1] G (fun H => rg G LM aM ρ H) (fun r (_ : Unit) => Q r) (fun _ _ => True) (fun _ => False) := by
  unfold CtI
  refine met_start (y := yX8_sum) (maxL := 2) (av := [.ref (aM + 0), .int x1]) (G := G) (P := fun H => rg G LM aM ρ H) (by decide) rfl (Nat.le_of_ble_eq_true rfl) (fun p e s m below meth c ls C hr hP hK hl => ?_)
  obtain ⟨hx, hb, hml, hown, hts, hlocks⟩ := id C
  have hM : rg G LM aM ρ s.heap := hP
  have hS : va_S (fun _ => False) s.heap s.heap [] := va_S.rf
  have hl : lv_has ls 2 [(0, .ref (aM + 0)), (1, .int x1)] := hl
  unfold vc_X8_sum at h
  refine lv_iload_n hx hb dX8_sum_0 rfl (lv_at hl 1 rfl) ?_
  refine lv_iconst (v := 0) hx hb dX8_sum_1 (by decide) ?_
  refine g_sI C hK hl.1 (m_X8_amount l G x1 0 _ h) mw_X8_amount ms_X8_amount ml_X8_47 rfl ⟨rfl, rfl, Nat.le_of_ble_eq_true rfl, Nat.le_of_ble_eq_true rfl⟩ ⟨Nat.zero_le _, Nat.zero_le _⟩ trivial hS (fun _ h => h.elim) rfl (Nat.le_of_ble_eq_true rfl) dX8_sum_2 (fun r1 u H locs h hu _ hq hS => ?_)
  have hM := hM.past hq (fun _ _ h => h)
  refine lv_iload_n hx hb dX8_sum_5 rfl (lv_at hl 1 rfl) ?_
  refine lv_iconst (v := 1) hx hb dX8_sum_6 (by decide) ?_
  refine g_sI C hK hl.1 (m_X8_amount l G x1 1 _ h) mw_X8_amount ms_X8_amount ml_X8_47 rfl ⟨rfl, rfl, Nat.le_of_ble_eq_true rfl, Nat.le_of_ble_eq_true rfl⟩ ⟨Nat.zero_le _, Nat.zero_le _⟩ trivial hS (fun _ h => h.elim) rfl (Nat.le_of_ble_eq_true rfl) dX8_sum_7 (fun r2 u H locs h hu _ hq hS => ?_)
  have hM := hM.past hq (fun _ _ h => h)
  refine lv_iadd hx hb dX8_sum_10 ?_
  refine lv_iload_n hx hb dX8_sum_11 rfl (lv_at hl 1 rfl) ?_
  refine lv_iconst (v := 2) hx hb dX8_sum_12 (by decide) ?_
  refine g_sI C hK hl.1 (m_X8_amount l G x1 2 _ h) mw_X8_amount ms_X8_amount ml_X8_47 rfl ⟨rfl, rfl, Nat.le_of_ble_eq_true rfl, Nat.le_of_ble_eq_true rfl⟩ ⟨Nat.zero_le _, Nat.zero_le _⟩ trivial hS (fun _ h => h.elim) rfl (Nat.le_of_ble_eq_true rfl) dX8_sum_13 (fun r3 u H locs h hu _ hq hS => ?_)
  have hM := hM.past hq (fun _ _ h => h)
  refine lv_iadd hx hb dX8_sum_16 ?_
  exact g_iret (post := fun r (_ : Unit) => Q r) (P' := fun _ _ => True) (r := ((r1 + r2) + r3)) (u := ()) C hr hK hS h trivial dX8_sum_17
theorem dX8_best_0 : decode cX8_best 0 = .ok (.aload_n 0, 1) := by decide +kernel
theorem dX8_best_1 : decode cX8_best 1 = .ok (.iload_n 1, 1) := by decide +kernel
theorem dX8_best_2 : decode cX8_best 2 = .ok (.iload_n 2, 1) := by decide +kernel
theorem dX8_best_3 : decode cX8_best 3 = .ok (.invokevirtual 55, 3) := by decide +kernel
theorem dX8_best_6 : decode cX8_best 6 = .ok (.ifCond .eq 12, 3) := by decide +kernel
theorem dX8_best_9 : decode cX8_best 9 = .ok (.iload_n 3, 1) := by decide +kernel
theorem dX8_best_10 : decode cX8_best 10 = .ok (.iconst 0, 1) := by decide +kernel
theorem dX8_best_11 : decode cX8_best 11 = .ok (.iconst 1, 1) := by decide +kernel
theorem dX8_best_12 : decode cX8_best 12 = .ok (.invokestatic 43, 3) := by decide +kernel
theorem dX8_best_15 : decode cX8_best 15 = .ok (.ifCond .ne 6, 3) := by decide +kernel
theorem dX8_best_18 : decode cX8_best 18 = .ok (.ldc 59, 2) := by decide +kernel
theorem dX8_best_20 : decode cX8_best 20 = .ok (.ireturn, 1) := by decide +kernel
theorem dX8_best_21 : decode cX8_best 21 = .ok (.iconst 3, 1) := by decide +kernel
theorem dX8_best_22 : decode cX8_best 22 = .ok (.iload_n 1, 1) := by decide +kernel
theorem dX8_best_23 : decode cX8_best 23 = .ok (.imul, 1) := by decide +kernel
theorem dX8_best_24 : decode cX8_best 24 = .ok (.iload_n 2, 1) := by decide +kernel
theorem dX8_best_25 : decode cX8_best 25 = .ok (.iadd, 1) := by decide +kernel
theorem dX8_best_26 : decode cX8_best 26 = .ok (.istore 4, 2) := by decide +kernel
theorem dX8_best_28 : decode cX8_best 28 = .ok (.aload_n 0, 1) := by decide +kernel
theorem dX8_best_29 : decode cX8_best 29 = .ok (.iload 4, 2) := by decide +kernel
theorem dX8_best_31 : decode cX8_best 31 = .ok (.iconst 2, 1) := by decide +kernel
theorem dX8_best_32 : decode cX8_best 32 = .ok (.invokevirtual 60, 3) := by decide +kernel
theorem dX8_best_35 : decode cX8_best 35 = .ok (.ifCond .le 6, 3) := by decide +kernel
theorem dX8_best_38 : decode cX8_best 38 = .ok (.ldc 63, 2) := by decide +kernel
theorem dX8_best_40 : decode cX8_best 40 = .ok (.ireturn, 1) := by decide +kernel
theorem dX8_best_41 : decode cX8_best 41 = .ok (.ldc 113, 2) := by decide +kernel
theorem dX8_best_43 : decode cX8_best 43 = .ok (.istore 5, 2) := by decide +kernel
theorem dX8_best_45 : decode cX8_best 45 = .ok (.iconst 0, 1) := by decide +kernel
theorem dX8_best_46 : decode cX8_best 46 = .ok (.istore 6, 2) := by decide +kernel
theorem dX8_best_48 : decode cX8_best 48 = .ok (.iconst 0, 1) := by decide +kernel
theorem dX8_best_49 : decode cX8_best 49 = .ok (.istore 7, 2) := by decide +kernel
theorem dX8_best_51 : decode cX8_best 51 = .ok (.iload 7, 2) := by decide +kernel
theorem dX8_best_53 : decode cX8_best 53 = .ok (.aload_n 0, 1) := by decide +kernel
theorem dX8_best_54 : decode cX8_best 54 = .ok (.getfield 7, 3) := by decide +kernel
theorem dX8_best_57 : decode cX8_best 57 = .ok (.iconst 1, 1) := by decide +kernel
theorem dX8_best_58 : decode cX8_best 58 = .ok (.iaload, 1) := by decide +kernel
theorem dX8_best_59 : decode cX8_best 59 = .ok (.if_icmp .ge 65, 3) := by decide +kernel
theorem dX8_best_62 : decode cX8_best 62 = .ok (.aload_n 0, 1) := by decide +kernel
theorem dX8_best_63 : decode cX8_best 63 = .ok (.aload_n 0, 1) := by decide +kernel
theorem dX8_best_64 : decode cX8_best 64 = .ok (.iload 7, 2) := by decide +kernel
theorem dX8_best_66 : decode cX8_best 66 = .ok (.iconst 2, 1) := by decide +kernel
theorem dX8_best_67 : decode cX8_best 67 = .ok (.invokevirtual 64, 3) := by decide +kernel
theorem dX8_best_70 : decode cX8_best 70 = .ok (.invokevirtual 131, 3) := by decide +kernel
theorem dX8_best_73 : decode cX8_best 73 = .ok (.aload_n 0, 1) := by decide +kernel
theorem dX8_best_74 : decode cX8_best 74 = .ok (.aload_n 0, 1) := by decide +kernel
theorem dX8_best_75 : decode cX8_best 75 = .ok (.iload 7, 2) := by decide +kernel
theorem dX8_best_77 : decode cX8_best 77 = .ok (.iconst 1, 1) := by decide +kernel
theorem dX8_best_78 : decode cX8_best 78 = .ok (.invokevirtual 64, 3) := by decide +kernel
theorem dX8_best_81 : decode cX8_best 81 = .ok (.invokevirtual 131, 3) := by decide +kernel
theorem dX8_best_84 : decode cX8_best 84 = .ok (.isub, 1) := by decide +kernel
theorem dX8_best_85 : decode cX8_best 85 = .ok (.istore 8, 2) := by decide +kernel
theorem dX8_best_87 : decode cX8_best 87 = .ok (.aload_n 0, 1) := by decide +kernel
theorem dX8_best_88 : decode cX8_best 88 = .ok (.iload 4, 2) := by decide +kernel
theorem dX8_best_90 : decode cX8_best 90 = .ok (.iload 7, 2) := by decide +kernel
theorem dX8_best_92 : decode cX8_best 92 = .ok (.invokevirtual 85, 3) := by decide +kernel
theorem dX8_best_95 : decode cX8_best 95 = .ok (.ifCond .eq 23, 3) := by decide +kernel
theorem dX8_best_98 : decode cX8_best 98 = .ok (.iload 5, 2) := by decide +kernel
theorem dX8_best_100 : decode cX8_best 100 = .ok (.ifCond .lt 10, 3) := by decide +kernel
theorem dX8_best_103 : decode cX8_best 103 = .ok (.iload 8, 2) := by decide +kernel
theorem dX8_best_105 : decode cX8_best 105 = .ok (.iload 6, 2) := by decide +kernel
theorem dX8_best_107 : decode cX8_best 107 = .ok (.if_icmp .le 11, 3) := by decide +kernel
theorem dX8_best_110 : decode cX8_best 110 = .ok (.iload 7, 2) := by decide +kernel
theorem dX8_best_112 : decode cX8_best 112 = .ok (.istore 5, 2) := by decide +kernel
theorem dX8_best_114 : decode cX8_best 114 = .ok (.iload 8, 2) := by decide +kernel
theorem dX8_best_116 : decode cX8_best 116 = .ok (.istore 6, 2) := by decide +kernel
theorem dX8_best_118 : decode cX8_best 118 = .ok (.iinc 7 1, 3) := by decide +kernel
theorem dX8_best_121 : decode cX8_best 121 = .ok (.goto (-70), 3) := by decide +kernel
theorem dX8_best_124 : decode cX8_best 124 = .ok (.iload 5, 2) := by decide +kernel
theorem dX8_best_126 : decode cX8_best 126 = .ok (.ifCond .lt 7, 3) := by decide +kernel
theorem dX8_best_129 : decode cX8_best 129 = .ok (.iload_n 3, 1) := by decide +kernel
theorem dX8_best_130 : decode cX8_best 130 = .ok (.ifCond .ne 8, 3) := by decide +kernel
theorem dX8_best_133 : decode cX8_best 133 = .ok (.iload 5, 2) := by decide +kernel
theorem dX8_best_135 : decode cX8_best 135 = .ok (.goto 8, 3) := by decide +kernel
theorem dX8_best_138 : decode cX8_best 138 = .ok (.iload 6, 2) := by decide +kernel
theorem dX8_best_140 : decode cX8_best 140 = .ok (.bipush 100, 2) := by decide +kernel
theorem dX8_best_142 : decode cX8_best 142 = .ok (.iadd, 1) := by decide +kernel
theorem dX8_best_143 : decode cX8_best 143 = .ok (.ireturn, 1) := by decide +kernel
def vb_X8_best_51 (Q : Int32 → Prop) (ρ : Mem) (rec : Nat → Int32 → Int32 → Int32 → Int32 → Int32 → Prop) (w3 : Int32) (w4 : Int32) (w5 : Int32) (w6 : Int32) (w7 : Int32) : Prop :=
  ((((ρ 1 (1 : Int32).toNatClampNeg) ≤ w7) → (((w5 < 0) → (Q w5 )) ∧ ((¬ w5 < 0) → (((¬ w3 = 0) → (Q (w6 + 100) )) ∧ ((w3 = 0) → (Q w5 )))))) ∧ ((¬ (ρ 1 (1 : Int32).toNatClampNeg) ≤ w7) → (vc_X8_ofTask (fun r11 => vc_X8_sum (fun r12 => vc_X8_ofTask (fun r13 => vc_X8_sum (fun r14 => ∀ v15 : Int32, v15 = (r12 - r14) → (vc_X8_canPut (fun r16 => ((r16 = 0) → (∀ v18 : Int32, v18 = w7 + 1 → (rec 0 w3 w4 w5 w6 v18))) ∧ ((¬ r16 = 0) → (((w5 < 0) → (∀ v20 : Int32, v20 = w7 + 1 → (rec 0 w3 w4 w7 v15 v20))) ∧ ((¬ w5 < 0) → (((v15 ≤ w6) → (∀ v22 : Int32, v22 = w7 + 1 → (rec 0 w3 w4 w5 w6 v22))) ∧ ((¬ v15 ≤ w6) → (∀ v23 : Int32, v23 = w7 + 1 → (rec 0 w3 w4 w7 v15 v23)))))))) ρ w4 w7)) ρ r13) ρ w7 1) ρ r11) ρ w7 2)))
def vl_X8_best (Q : Int32 → Prop) (ρ : Mem) : Nat → Nat → Int32 → Int32 → Int32 → Int32 → Int32 → Prop
  | 0, _, _, _, _, _, _ => False
  | n + 1, 0, w3, w4, w5, w6, w7 => vb_X8_best_51 Q ρ (vl_X8_best Q ρ n) w3 w4 w5 w6 w7
  | _ + 1, _, _, _, _, _, _ => False
def vc_X8_best (Q : Int32 → Prop) (ρ : Mem) (x1 : Int32) (x2 : Int32) (x3 : Int32) : Prop :=
  ∃ n : Nat, vc_X8_isWorker (fun r1 => ((r1 = 0) → (Q (-1000001) )) ∧ ((¬ r1 = 0) → (vc_X8_in (fun r3 => ((¬ r3 = 0) → (∀ v5 : Int32, v5 = ((3 * x1) + x2) → (vc_X8_of (fun r6 => ((r6 ≤ 0) → (vl_X8_best Q ρ n 0 x3 v5 (-1000004) 0 0)) ∧ ((¬ r6 ≤ 0) → (Q (-1000002) ))) ρ v5 2))) ∧ ((r3 = 0) → (Q (-1000001) ))) x3 0 1))) ρ x1 x2
set_option maxHeartbeats 8000000 in
set_option maxRecDepth 100000 in
theorem m_X8_best (l : Launch) (G : GG) (aM : Nat) (ρ : Mem) (x1 : Int32) (x2 : Int32) (x3 : Int32) (Q : Int32 → Prop) (h : vc_X8_best Q ρ x1 x2 x3) : CtI l yX8_best cX8_best 9 (some .int) { frames := 3, cells := 0, slots := 0, locals := 67 } [.ref (aM + 0), .int x1, .int x2, .int x3] G (fun H => rg G LM aM ρ H) (fun r (_ : Unit) => Q r) (fun _ _ => True) (fun _ => False) := by
  unfold CtI
  refine met_start (y := yX8_best) (maxL := 9) (av := [.ref (aM + 0), .int x1, .int x2, .int x3]) (G := G) (P := fun H => rg G LM aM ρ H) (by decide) rfl (Nat.le_of_ble_eq_true rfl) (fun p e s m below meth c ls C hr hP hK hl => ?_)
  obtain ⟨hx, hb, hml, hown, hts, hlocks⟩ := id C
  have hM : rg G LM aM ρ s.heap := hP
  have hS : va_S (fun _ => False) s.heap s.heap [] := va_S.rf
  have hl : lv_has ls 9 [(0, .ref (aM + 0)), (1, .int x1), (2, .int x2), (3, .int x3)] := hl
  have K : ∀ n : Nat, (∀ (w3 : Int32) (w4 : Int32) (w5 : Int32) (w6 : Int32) (w7 : Int32) (H : Heap) (locs : List Loc) (ls : Array Slot), rg G LM aM ρ H → va_S (fun _ => False) s.heap H locs → lv_has ls 9 [(0, .ref (aM + 0)), (3, .int w3), (4, .int w4), (5, .int w5), (6, .int w6), (7, .int w7)] → vl_X8_best Q ρ n 0 w3 w4 w5 w6 w7 → W p l e { frames := 3, cells := 0, slots := 0, locals := 67 } s m [.ref (aM + 0), .int x1, .int x2, .int x3].toArray below meth c H locs 0 0 (MQ below (va_Qi (fun r (_ : Unit) => Q r) (fun u t => (fun _ _ => True) u t.heap ∧ KK G t) (fun _ => False)) [.ref (aM + 0), .int x1, .int x2, .int x3].toArray s 0 0 (fun _ => False)) (F0 m 51 ls [])) := by
    intro n
    induction n with
    | zero => exact fun _ _ _ _ _ _ _ _ _ _ _ h => h.elim
    | succ n ih =>
      · intro w3 w4 w5 w6 w7 H locs ls hM hS hl h
        replace h : vb_X8_best_51 Q ρ (vl_X8_best Q ρ n) w3 w4 w5 w6 w7 := h
        unfold vb_X8_best_51 at h
        refine lv_iload hx hb dX8_best_51 (lv_at hl 5 rfl) ?_
        refine lv_aload_n hx hb dX8_best_53 rfl (lv_at hl 0 rfl) ?_
        refine g_getR (a := aM) (k := 0) (o := 1) C hK hM fl_X8_7 rfl rfl dX8_best_54 ?_
        refine lv_iconst (v := 1) hx hb dX8_best_57 (by decide) ?_
        refine g_ald (a := aM) (k := 1) (n := 164) C hK hM rfl (vp_dec (by decide)) dX8_best_58 ?_
        refine lv_icmp_ge (tgt := 124) hx hb dX8_best_59 (by decide) (fun c8 => ?_) (fun c8 => ?_)
        · replace h := h.1 c8
          refine lv_iload hx hb dX8_best_124 (lv_at hl 3 rfl) ?_
          refine lv_if_lt (tgt := 133) hx hb dX8_best_126 (by decide) (fun c9 => ?_) (fun c9 => ?_)
          · replace h := h.1 c9
            refine lv_iload hx hb dX8_best_133 (lv_at hl 3 rfl) ?_
            refine lv_goto (tgt := 143) hx hb dX8_best_135 (by decide) ?_
            exact g_iret (post := fun r (_ : Unit) => Q r) (P' := fun _ _ => True) (r := w5) (u := ()) C hr hK hS h trivial dX8_best_143
          · replace h := h.2 c9
            refine lv_iload_n hx hb dX8_best_129 rfl (lv_at hl 1 rfl) ?_
            refine lv_if_ne (tgt := 138) hx hb dX8_best_130 (by decide) (fun c10 => ?_) (fun c10 => ?_)
            · replace h := h.1 c10
              refine lv_iload hx hb dX8_best_138 (lv_at hl 4 rfl) ?_
              refine lv_bipush (v := 100) hx hb dX8_best_140 (by decide) ?_
              refine lv_iadd hx hb dX8_best_142 ?_
              exact g_iret (post := fun r (_ : Unit) => Q r) (P' := fun _ _ => True) (r := (w6 + 100)) (u := ()) C hr hK hS h trivial dX8_best_143
            · replace h := h.2 c10
              refine lv_iload hx hb dX8_best_133 (lv_at hl 3 rfl) ?_
              refine lv_goto (tgt := 143) hx hb dX8_best_135 (by decide) ?_
              exact g_iret (post := fun r (_ : Unit) => Q r) (P' := fun _ _ => True) (r := w5) (u := ()) C hr hK hS h trivial dX8_best_143
        · replace h := h.2 c8
          refine lv_aload_n hx hb dX8_best_62 rfl (lv_at hl 0 rfl) ?_
          refine lv_aload_n hx hb dX8_best_63 rfl (lv_at hl 0 rfl) ?_
          refine lv_iload hx hb dX8_best_64 (lv_at hl 5 rfl) ?_
          refine lv_iconst (v := 2) hx hb dX8_best_66 (by decide) ?_
          refine g_vI C hK hl.1 (m_X8_ofTask l G aM ρ w7 2 _ h) mw_X8_ofTask mi_X8_ofTask ml_X8_64 rfl ⟨rfl, rfl, Nat.le_of_ble_eq_true rfl, Nat.le_of_ble_eq_true rfl⟩ ⟨Nat.zero_le _, Nat.zero_le _⟩ (g_recv (a := aM) (k := 0) hK hM rfl rfl) hM hS (fun _ h => h.elim) rfl (Nat.le_of_ble_eq_true rfl) dX8_best_67 (fun r11 u H locs h hu _ hq hS => ?_)
          have hM := hM.past hq (fun _ _ h => h)
          refine g_vI C hK hl.1 (m_X8_sum l G aM ρ r11 _ h) mw_X8_sum mi_X8_sum ml_X8_131 rfl ⟨rfl, rfl, Nat.le_of_ble_eq_true rfl, Nat.le_of_ble_eq_true rfl⟩ ⟨Nat.zero_le _, Nat.zero_le _⟩ (g_recv (a := aM) (k := 0) hK hM rfl rfl) hM hS (fun _ h => h.elim) rfl (Nat.le_of_ble_eq_true rfl) dX8_best_70 (fun r12 u H locs h hu _ hq hS => ?_)
          have hM := hM.past hq (fun _ _ h => h)
          refine lv_aload_n hx hb dX8_best_73 rfl (lv_at hl 0 rfl) ?_
          refine lv_aload_n hx hb dX8_best_74 rfl (lv_at hl 0 rfl) ?_
          refine lv_iload hx hb dX8_best_75 (lv_at hl 5 rfl) ?_
          refine lv_iconst (v := 1) hx hb dX8_best_77 (by decide) ?_
          refine g_vI C hK hl.1 (m_X8_ofTask l G aM ρ w7 1 _ h) mw_X8_ofTask mi_X8_ofTask ml_X8_64 rfl ⟨rfl, rfl, Nat.le_of_ble_eq_true rfl, Nat.le_of_ble_eq_true rfl⟩ ⟨Nat.zero_le _, Nat.zero_le _⟩ (g_recv (a := aM) (k := 0) hK hM rfl rfl) hM hS (fun _ h => h.elim) rfl (Nat.le_of_ble_eq_true rfl) dX8_best_78 (fun r13 u H locs h hu _ hq hS => ?_)
          have hM := hM.past hq (fun _ _ h => h)
          refine g_vI C hK hl.1 (m_X8_sum l G aM ρ r13 _ h) mw_X8_sum mi_X8_sum ml_X8_131 rfl ⟨rfl, rfl, Nat.le_of_ble_eq_true rfl, Nat.le_of_ble_eq_true rfl⟩ ⟨Nat.zero_le _, Nat.zero_le _⟩ (g_recv (a := aM) (k := 0) hK hM rfl rfl) hM hS (fun _ h => h.elim) rfl (Nat.le_of_ble_eq_true rfl) dX8_best_81 (fun r14 u H locs h hu _ hq hS => ?_)
          have hM := hM.past hq (fun _ _ h => h)
          refine lv_isub hx hb dX8_best_84 ?_
          refine lv_topi (fun v15 ev15 => ?_)
          specialize h v15 ev15
          refine lv_istore (lv' := [(8, .int v15), (0, .ref (aM + 0)), (3, .int w3), (4, .int w4), (5, .int w5), (6, .int w6), (7, .int w7)]) hx hb dX8_best_85 hl (by decide) rfl (fun ls hl => ?_)
          refine lv_aload_n hx hb dX8_best_87 rfl (lv_at hl 1 rfl) ?_
          refine lv_iload hx hb dX8_best_88 (lv_at hl 3 rfl) ?_
          refine lv_iload hx hb dX8_best_90 (lv_at hl 6 rfl) ?_
          refine g_vI C hK hl.1 (m_X8_canPut l G aM ρ w4 w7 _ h) mw_X8_canPut mi_X8_canPut ml_X8_85 rfl ⟨rfl, rfl, Nat.le_of_ble_eq_true rfl, Nat.le_of_ble_eq_true rfl⟩ ⟨Nat.zero_le _, Nat.zero_le _⟩ (g_recv (a := aM) (k := 0) hK hM rfl rfl) hM hS (fun _ h => h.elim) rfl (Nat.le_of_ble_eq_true rfl) dX8_best_92 (fun r16 u H locs h hu _ hq hS => ?_)
          have hM := hM.past hq (fun _ _ h => h)
          refine lv_if_eq (tgt := 118) hx hb dX8_best_95 (by decide) (fun c17 => ?_) (fun c17 => ?_)
          · replace h := h.1 c17
            obtain ⟨v18, ev18⟩ : ∃ y : Int32, y = w7 + 1 := ⟨_, rfl⟩
            specialize h v18 ev18
            refine lv_iinc (v := v18) (lv' := [(7, .int v18), (8, .int v15), (0, .ref (aM + 0)), (3, .int w3), (4, .int w4), (5, .int w5), (6, .int w6)]) hx hb dX8_best_118 hl (k := 6) rfl (by rw [ev18]; rfl) (by decide) rfl (fun ls hl => ?_)
            refine lv_goto (tgt := 51) hx hb dX8_best_121 (by decide) ?_
            exact (ih) w3 w4 w5 w6 v18 _ _ _ hM hS (lv_sub hl [2, 3, 4, 5, 6, 0] rfl) h
          · replace h := h.2 c17
            refine lv_iload hx hb dX8_best_98 (lv_at hl 4 rfl) ?_
            refine lv_if_lt (tgt := 110) hx hb dX8_best_100 (by decide) (fun c19 => ?_) (fun c19 => ?_)
            · replace h := h.1 c19
              refine lv_iload hx hb dX8_best_110 (lv_at hl 6 rfl) ?_
              refine lv_istore (lv' := [(5, .int w7), (8, .int v15), (0, .ref (aM + 0)), (3, .int w3), (4, .int w4), (6, .int w6), (7, .int w7)]) hx hb dX8_best_112 hl (by decide) rfl (fun ls hl => ?_)
              refine lv_iload hx hb dX8_best_114 (lv_at hl 1 rfl) ?_
              refine lv_istore (lv' := [(6, .int v15), (5, .int w7), (8, .int v15), (0, .ref (aM + 0)), (3, .int w3), (4, .int w4), (7, .int w7)]) hx hb dX8_best_116 hl (by decide) rfl (fun ls hl => ?_)
              obtain ⟨v20, ev20⟩ : ∃ y : Int32, y = w7 + 1 := ⟨_, rfl⟩
              specialize h v20 ev20
              refine lv_iinc (v := v20) (lv' := [(7, .int v20), (6, .int v15), (5, .int w7), (8, .int v15), (0, .ref (aM + 0)), (3, .int w3), (4, .int w4)]) hx hb dX8_best_118 hl (k := 6) rfl (by rw [ev20]; rfl) (by decide) rfl (fun ls hl => ?_)
              refine lv_goto (tgt := 51) hx hb dX8_best_121 (by decide) ?_
              exact (ih) w3 w4 w7 v15 v20 _ _ _ hM hS (lv_sub hl [4, 5, 6, 2, 1, 0] rfl) h
            · replace h := h.2 c19
              refine lv_iload hx hb dX8_best_103 (lv_at hl 0 rfl) ?_
              refine lv_iload hx hb dX8_best_105 (lv_at hl 5 rfl) ?_
              refine lv_icmp_le (tgt := 118) hx hb dX8_best_107 (by decide) (fun c21 => ?_) (fun c21 => ?_)
              · replace h := h.1 c21
                obtain ⟨v22, ev22⟩ : ∃ y : Int32, y = w7 + 1 := ⟨_, rfl⟩
                specialize h v22 ev22
                refine lv_iinc (v := v22) (lv' := [(7, .int v22), (8, .int v15), (0, .ref (aM + 0)), (3, .int w3), (4, .int w4), (5, .int w5), (6, .int w6)]) hx hb dX8_best_118 hl (k := 6) rfl (by rw [ev22]; rfl) (by decide) rfl (fun ls hl => ?_)
                refine lv_goto (tgt := 51) hx hb dX8_best_121 (by decide) ?_
                exact (ih) w3 w4 w5 w6 v22 _ _ _ hM hS (lv_sub hl [2, 3, 4, 5, 6, 0] rfl) h
              · replace h := h.2 c21
                refine lv_iload hx hb dX8_best_110 (lv_at hl 6 rfl) ?_
                refine lv_istore (lv' := [(5, .int w7), (8, .int v15), (0, .ref (aM + 0)), (3, .int w3), (4, .int w4), (6, .int w6), (7, .int w7)]) hx hb dX8_best_112 hl (by decide) rfl (fun ls hl => ?_)
                refine lv_iload hx hb dX8_best_114 (lv_at hl 1 rfl) ?_
                refine lv_istore (lv' := [(6, .int v15), (5, .int w7), (8, .int v15), (0, .ref (aM + 0)), (3, .int w3), (4, .int w4), (7, .int w7)]) hx hb dX8_best_116 hl (by decide) rfl (fun ls hl => ?_)
                obtain ⟨v23, ev23⟩ : ∃ y : Int32, y = w7 + 1 := ⟨_, rfl⟩
                specialize h v23 ev23
                refine lv_iinc (v := v23) (lv' := [(7, .int v23), (6, .int v15), (5, .int w7), (8, .int v15), (0, .ref (aM + 0)), (3, .int w3), (4, .int w4)]) hx hb dX8_best_118 hl (k := 6) rfl (by rw [ev23]; rfl) (by decide) rfl (fun ls hl => ?_)
                refine lv_goto (tgt := 51) hx hb dX8_best_121 (by decide) ?_
                exact (ih) w3 w4 w7 v15 v23 _ _ _ hM hS (lv_sub hl [4, 5, 6, 2, 1, 0] rfl) h
  unfold vc_X8_best at h
  obtain ⟨n, h⟩ := h
  refine lv_aload_n hx hb dX8_best_0 rfl (lv_at hl 0 rfl) ?_
  refine lv_iload_n hx hb dX8_best_1 rfl (lv_at hl 1 rfl) ?_
  refine lv_iload_n hx hb dX8_best_2 rfl (lv_at hl 2 rfl) ?_
  refine g_vI C hK hl.1 (m_X8_isWorker l G aM ρ x1 x2 _ h) mw_X8_isWorker mi_X8_isWorker ml_X8_55 rfl ⟨rfl, rfl, Nat.le_of_ble_eq_true rfl, Nat.le_of_ble_eq_true rfl⟩ ⟨Nat.zero_le _, Nat.zero_le _⟩ (g_recv (a := aM) (k := 0) hK hM rfl rfl) hM hS (fun _ h => h.elim) rfl (Nat.le_of_ble_eq_true rfl) dX8_best_3 (fun r1 u H locs h hu _ hq hS => ?_)
  have hM := hM.past hq (fun _ _ h => h)
  refine lv_if_eq (tgt := 18) hx hb dX8_best_6 (by decide) (fun c2 => ?_) (fun c2 => ?_)
  · replace h := h.1 c2
    refine g_ldc C kc_X8_59 dX8_best_18 ?_
    exact g_iret (post := fun r (_ : Unit) => Q r) (P' := fun _ _ => True) (r := (-1000001)) (u := ()) C hr hK hS h trivial dX8_best_20
  · replace h := h.2 c2
    refine lv_iload_n hx hb dX8_best_9 rfl (lv_at hl 3 rfl) ?_
    refine lv_iconst (v := 0) hx hb dX8_best_10 (by decide) ?_
    refine lv_iconst (v := 1) hx hb dX8_best_11 (by decide) ?_
    refine g_sI C hK hl.1 (m_X8_in l G x3 0 1 _ h) mw_X8_in ms_X8_in ml_X8_43 rfl ⟨rfl, rfl, Nat.le_of_ble_eq_true rfl, Nat.le_of_ble_eq_true rfl⟩ ⟨Nat.zero_le _, Nat.zero_le _⟩ trivial hS (fun _ h => h.elim) rfl (Nat.le_of_ble_eq_true rfl) dX8_best_12 (fun r3 u H locs h hu _ hq hS => ?_)
    have hM := hM.past hq (fun _ _ h => h)
    refine lv_if_ne (tgt := 21) hx hb dX8_best_15 (by decide) (fun c4 => ?_) (fun c4 => ?_)
    · replace h := h.1 c4
      refine lv_iconst (v := 3) hx hb dX8_best_21 (by decide) ?_
      refine lv_iload_n hx hb dX8_best_22 rfl (lv_at hl 1 rfl) ?_
      refine lv_imul hx hb dX8_best_23 ?_
      refine lv_iload_n hx hb dX8_best_24 rfl (lv_at hl 2 rfl) ?_
      refine lv_iadd hx hb dX8_best_25 ?_
      refine lv_topi (fun v5 ev5 => ?_)
      specialize h v5 ev5
      refine lv_istore (lv' := [(4, .int v5), (0, .ref (aM + 0)), (1, .int x1), (2, .int x2), (3, .int x3)]) hx hb dX8_best_26 hl (by decide) rfl (fun ls hl => ?_)
      refine lv_aload_n hx hb dX8_best_28 rfl (lv_at hl 1 rfl) ?_
      refine lv_iload hx hb dX8_best_29 (lv_at hl 0 rfl) ?_
      refine lv_iconst (v := 2) hx hb dX8_best_31 (by decide) ?_
      refine g_vI C hK hl.1 (m_X8_of l G aM ρ v5 2 _ h) mw_X8_of mi_X8_of ml_X8_60 rfl ⟨rfl, rfl, Nat.le_of_ble_eq_true rfl, Nat.le_of_ble_eq_true rfl⟩ ⟨Nat.zero_le _, Nat.zero_le _⟩ (g_recv (a := aM) (k := 0) hK hM rfl rfl) hM hS (fun _ h => h.elim) rfl (Nat.le_of_ble_eq_true rfl) dX8_best_32 (fun r6 u H locs h hu _ hq hS => ?_)
      have hM := hM.past hq (fun _ _ h => h)
      refine lv_if_le (tgt := 41) hx hb dX8_best_35 (by decide) (fun c7 => ?_) (fun c7 => ?_)
      · replace h := h.1 c7
        refine g_ldc C kc_X8_113 dX8_best_41 ?_
        refine lv_istore (lv' := [(5, .int (-1000004)), (4, .int v5), (0, .ref (aM + 0)), (1, .int x1), (2, .int x2), (3, .int x3)]) hx hb dX8_best_43 hl (by decide) rfl (fun ls hl => ?_)
        refine lv_iconst (v := 0) hx hb dX8_best_45 (by decide) ?_
        refine lv_istore (lv' := [(6, .int 0), (5, .int (-1000004)), (4, .int v5), (0, .ref (aM + 0)), (1, .int x1), (2, .int x2), (3, .int x3)]) hx hb dX8_best_46 hl (by decide) rfl (fun ls hl => ?_)
        refine lv_iconst (v := 0) hx hb dX8_best_48 (by decide) ?_
        refine lv_istore (lv' := [(7, .int 0), (6, .int 0), (5, .int (-1000004)), (4, .int v5), (0, .ref (aM + 0)), (1, .int x1), (2, .int x2), (3, .int x3)]) hx hb dX8_best_49 hl (by decide) rfl (fun ls hl => ?_)
        exact ((K n)) x3 v5 (-1000004) 0 0 _ _ _ hM hS (lv_sub hl [4, 7, 3, 2, 1, 0] rfl) h
      · replace h := h.2 c7
        refine g_ldc C kc_X8_63 dX8_best_38 ?_
        exact g_iret (post := fun r (_ : Unit) => Q r) (P' := fun _ _ => True) (r := (-1000002)) (u := ()) C hr hK hS h trivial dX8_best_40
    · replace h := h.2 c4
      refine g_ldc C kc_X8_59 dX8_best_18 ?_
      exact g_iret (post := fun r (_ : Unit) => Q r) (P' := fun _ _ => True) (r := (-1000001)) (u := ()) C hr hK hS h trivial dX8_best_20
theorem dX8_earns_0 : decode cX8_earns 0 = .ok (.aload_n 0, 1) := by decide +kernel
theorem dX8_earns_1 : decode cX8_earns 1 = .ok (.iload_n 1, 1) := by decide +kernel
theorem dX8_earns_2 : decode cX8_earns 2 = .ok (.invokevirtual 39, 3) := by decide +kernel
theorem dX8_earns_5 : decode cX8_earns 5 = .ok (.ifCond .eq 19, 3) := by decide +kernel
theorem dX8_earns_8 : decode cX8_earns 8 = .ok (.aload_n 0, 1) := by decide +kernel
theorem dX8_earns_9 : decode cX8_earns 9 = .ok (.iload_n 2, 1) := by decide +kernel
theorem dX8_earns_10 : decode cX8_earns 10 = .ok (.invokevirtual 104, 3) := by decide +kernel
theorem dX8_earns_13 : decode cX8_earns 13 = .ok (.ifCond .eq 11, 3) := by decide +kernel
theorem dX8_earns_16 : decode cX8_earns 16 = .ok (.aload_n 0, 1) := by decide +kernel
theorem dX8_earns_17 : decode cX8_earns 17 = .ok (.iload_n 3, 1) := by decide +kernel
theorem dX8_earns_18 : decode cX8_earns 18 = .ok (.invokevirtual 82, 3) := by decide +kernel
theorem dX8_earns_21 : decode cX8_earns 21 = .ok (.ifCond .ne 6, 3) := by decide +kernel
theorem dX8_earns_24 : decode cX8_earns 24 = .ok (.ldc 59, 2) := by decide +kernel
theorem dX8_earns_26 : decode cX8_earns 26 = .ok (.ireturn, 1) := by decide +kernel
theorem dX8_earns_27 : decode cX8_earns 27 = .ok (.aload_n 0, 1) := by decide +kernel
theorem dX8_earns_28 : decode cX8_earns 28 = .ok (.getfield 7, 3) := by decide +kernel
theorem dX8_earns_31 : decode cX8_earns 31 = .ok (.sipush 152, 3) := by decide +kernel
theorem dX8_earns_34 : decode cX8_earns 34 = .ok (.iconst 2, 1) := by decide +kernel
theorem dX8_earns_35 : decode cX8_earns 35 = .ok (.iload_n 2, 1) := by decide +kernel
theorem dX8_earns_36 : decode cX8_earns 36 = .ok (.imul, 1) := by decide +kernel
theorem dX8_earns_37 : decode cX8_earns 37 = .ok (.iadd, 1) := by decide +kernel
theorem dX8_earns_38 : decode cX8_earns 38 = .ok (.iaload, 1) := by decide +kernel
theorem dX8_earns_39 : decode cX8_earns 39 = .ok (.istore 4, 2) := by decide +kernel
theorem dX8_earns_41 : decode cX8_earns 41 = .ok (.aload_n 0, 1) := by decide +kernel
theorem dX8_earns_42 : decode cX8_earns 42 = .ok (.getfield 7, 3) := by decide +kernel
theorem dX8_earns_45 : decode cX8_earns 45 = .ok (.aload_n 0, 1) := by decide +kernel
theorem dX8_earns_46 : decode cX8_earns 46 = .ok (.getfield 19, 3) := by decide +kernel
theorem dX8_earns_49 : decode cX8_earns 49 = .ok (.invokestatic 114, 3) := by decide +kernel
theorem dX8_earns_52 : decode cX8_earns 52 = .ok (.iconst 0, 1) := by decide +kernel
theorem dX8_earns_53 : decode cX8_earns 53 = .ok (.istore 5, 2) := by decide +kernel
theorem dX8_earns_55 : decode cX8_earns 55 = .ok (.iload 5, 2) := by decide +kernel
theorem dX8_earns_57 : decode cX8_earns 57 = .ok (.sipush 600, 3) := by decide +kernel
theorem dX8_earns_60 : decode cX8_earns 60 = .ok (.if_icmp .gt 61, 3) := by decide +kernel
theorem dX8_earns_63 : decode cX8_earns 63 = .ok (.aload_n 0, 1) := by decide +kernel
theorem dX8_earns_64 : decode cX8_earns 64 = .ok (.iload_n 1, 1) := by decide +kernel
theorem dX8_earns_65 : decode cX8_earns 65 = .ok (.iload 4, 2) := by decide +kernel
theorem dX8_earns_67 : decode cX8_earns 67 = .ok (.invokevirtual 75, 3) := by decide +kernel
theorem dX8_earns_70 : decode cX8_earns 70 = .ok (.ifCond .ne 51, 3) := by decide +kernel
theorem dX8_earns_73 : decode cX8_earns 73 = .ok (.iconst 3, 1) := by decide +kernel
theorem dX8_earns_74 : decode cX8_earns 74 = .ok (.iload_n 1, 1) := by decide +kernel
theorem dX8_earns_75 : decode cX8_earns 75 = .ok (.imul, 1) := by decide +kernel
theorem dX8_earns_76 : decode cX8_earns 76 = .ok (.istore 6, 2) := by decide +kernel
theorem dX8_earns_78 : decode cX8_earns 78 = .ok (.iload 6, 2) := by decide +kernel
theorem dX8_earns_80 : decode cX8_earns 80 = .ok (.iconst 3, 1) := by decide +kernel
theorem dX8_earns_81 : decode cX8_earns 81 = .ok (.iload_n 1, 1) := by decide +kernel
theorem dX8_earns_82 : decode cX8_earns 82 = .ok (.imul, 1) := by decide +kernel
theorem dX8_earns_83 : decode cX8_earns 83 = .ok (.iconst 3, 1) := by decide +kernel
theorem dX8_earns_84 : decode cX8_earns 84 = .ok (.iadd, 1) := by decide +kernel
theorem dX8_earns_85 : decode cX8_earns 85 = .ok (.if_icmp .ge 26, 3) := by decide +kernel
theorem dX8_earns_88 : decode cX8_earns 88 = .ok (.aload_n 0, 1) := by decide +kernel
theorem dX8_earns_89 : decode cX8_earns 89 = .ok (.iload 6, 2) := by decide +kernel
theorem dX8_earns_91 : decode cX8_earns 91 = .ok (.iload_n 3, 1) := by decide +kernel
theorem dX8_earns_92 : decode cX8_earns 92 = .ok (.invokevirtual 85, 3) := by decide +kernel
theorem dX8_earns_95 : decode cX8_earns 95 = .ok (.ifCond .eq 10, 3) := by decide +kernel
theorem dX8_earns_98 : decode cX8_earns 98 = .ok (.aload_n 0, 1) := by decide +kernel
theorem dX8_earns_99 : decode cX8_earns 99 = .ok (.iload 6, 2) := by decide +kernel
theorem dX8_earns_101 : decode cX8_earns 101 = .ok (.iload_n 3, 1) := by decide +kernel
theorem dX8_earns_102 : decode cX8_earns 102 = .ok (.invokevirtual 88, 3) := by decide +kernel
theorem dX8_earns_105 : decode cX8_earns 105 = .ok (.iinc 6 1, 3) := by decide +kernel
theorem dX8_earns_108 : decode cX8_earns 108 = .ok (.goto (-30), 3) := by decide +kernel
theorem dX8_earns_111 : decode cX8_earns 111 = .ok (.aload_n 0, 1) := by decide +kernel
theorem dX8_earns_112 : decode cX8_earns 112 = .ok (.invokevirtual 107, 3) := by decide +kernel
theorem dX8_earns_115 : decode cX8_earns 115 = .ok (.iinc 5 1, 3) := by decide +kernel
theorem dX8_earns_118 : decode cX8_earns 118 = .ok (.goto (-63), 3) := by decide +kernel
theorem dX8_earns_121 : decode cX8_earns 121 = .ok (.aload_n 0, 1) := by decide +kernel
theorem dX8_earns_122 : decode cX8_earns 122 = .ok (.getfield 19, 3) := by decide +kernel
theorem dX8_earns_125 : decode cX8_earns 125 = .ok (.aload_n 0, 1) := by decide +kernel
theorem dX8_earns_126 : decode cX8_earns 126 = .ok (.getfield 7, 3) := by decide +kernel
theorem dX8_earns_129 : decode cX8_earns 129 = .ok (.invokestatic 114, 3) := by decide +kernel
theorem dX8_earns_132 : decode cX8_earns 132 = .ok (.iload 5, 2) := by decide +kernel
theorem dX8_earns_134 : decode cX8_earns 134 = .ok (.sipush 600, 3) := by decide +kernel
theorem dX8_earns_137 : decode cX8_earns 137 = .ok (.if_icmp .le 8, 3) := by decide +kernel
theorem dX8_earns_140 : decode cX8_earns 140 = .ok (.ldc 113, 2) := by decide +kernel
theorem dX8_earns_142 : decode cX8_earns 142 = .ok (.goto 5, 3) := by decide +kernel
theorem dX8_earns_145 : decode cX8_earns 145 = .ok (.iload 5, 2) := by decide +kernel
theorem dX8_earns_147 : decode cX8_earns 147 = .ok (.ireturn, 1) := by decide +kernel
def vb_X8_earns_55 (Q : Int32 → Mem → Prop) (rec : Nat → Mem → Int32 → Int32 → Int32 → Int32 → Int32 → Prop) (ρ : Mem) (w1 : Int32) (w3 : Int32) (w4 : Int32) (w5 : Int32) : Prop :=
  ((600 < w5) → (vc_X8_copies (fun ρ13 => ((w5 ≤ 600) → (Q w5 ρ13)) ∧ ((¬ w5 ≤ 600) → (Q (-1000004) ρ13))) ρ 4 1)) ∧ ((¬ 600 < w5) → (vc_X8_has (fun r15 => ((¬ r15 = 0) → (vc_X8_copies (fun ρ18 => ((w5 ≤ 600) → (Q w5 ρ18)) ∧ ((¬ w5 ≤ 600) → (Q (-1000004) ρ18))) ρ 4 1)) ∧ ((r15 = 0) → (∀ v20 : Int32, v20 = (3 * w1) → (rec 1 ρ w1 w3 w4 w5 v20)))) ρ w1 w4))
def vb_X8_earns_78 (Q : Int32 → Mem → Prop) (rec : Nat → Mem → Int32 → Int32 → Int32 → Int32 → Int32 → Prop) (ρ : Mem) (w1 : Int32) (w3 : Int32) (w4 : Int32) (w5 : Int32) (w6 : Int32) : Prop :=
  ((((3 * w1) + 3) ≤ w6) → (vc_X8_goes (fun ρ23 => ∀ v24 : Int32, v24 = w5 + 1 → (rec 0 ρ23 w1 w3 w4 v24 0)) ρ)) ∧ ((¬ ((3 * w1) + 3) ≤ w6) → (vc_X8_canPut (fun r25 => ((r25 = 0) → (∀ v27 : Int32, v27 = w6 + 1 → (rec 1 ρ w1 w3 w4 w5 v27))) ∧ ((¬ r25 = 0) → (vc_X8_puts (fun ρ29 => ∀ v30 : Int32, v30 = w6 + 1 → (rec 1 ρ29 w1 w3 w4 w5 v30)) ρ w6 w3))) ρ w6 w3))
def vl_X8_earns (Q : Int32 → Mem → Prop) : Nat → Nat → Mem → Int32 → Int32 → Int32 → Int32 → Int32 → Prop
  | 0, _, _, _, _, _, _, _ => False
  | n + 1, 0, ρ, w1, w3, w4, w5, _ => vb_X8_earns_55 Q (vl_X8_earns Q n) ρ w1 w3 w4 w5
  | n + 1, 1, ρ, w1, w3, w4, w5, w6 => vb_X8_earns_78 Q (vl_X8_earns Q n) ρ w1 w3 w4 w5 w6
  | _ + 1, _, _, _, _, _, _, _ => False
def vc_X8_earns (Q : Int32 → Mem → Prop) (ρ : Mem) (x1 : Int32) (x2 : Int32) (x3 : Int32) : Prop :=
  ∃ n : Nat, vc_X8_isPlayer (fun r1 => ((r1 = 0) → (Q (-1000001) ρ)) ∧ ((¬ r1 = 0) → (vc_X8_isContract (fun r3 => ((r3 = 0) → (Q (-1000001) ρ)) ∧ ((¬ r3 = 0) → (vc_X8_isTask (fun r5 => ((¬ r5 = 0) → (vp_in (152 + (2 * x2)) 164 ∧ (∀ v8 : Int32, v8 = (ρ 1 (152 + (2 * x2)).toNatClampNeg) → (vc_X8_copies (fun ρ10 => vl_X8_earns Q n 0 ρ10 x1 x3 v8 0 0) ρ 1 4)))) ∧ ((r5 = 0) → (Q (-1000001) ρ))) ρ x3))) ρ x2))) ρ x1
set_option maxHeartbeats 8000000 in
set_option maxRecDepth 100000 in
theorem m_X8_earns (l : Launch) (G : GG) (aM : Nat) (ρ : Mem) (x1 : Int32) (x2 : Int32) (x3 : Int32) (Q : Int32 → Mem → Prop) (h : vc_X8_earns Q ρ x1 x2 x3) : CtI l yX8_earns cX8_earns 7 (some .int) { frames := 4, cells := 0, slots := 0, locals := 90 } [.ref (aM + 0), .int x1, .int x2, .int x3] G (fun H => rg G LM aM ρ H) (Q) (fun u H => rg G LM aM u H) (RA aM 8) := by
  unfold CtI
  refine met_start (y := yX8_earns) (maxL := 7) (av := [.ref (aM + 0), .int x1, .int x2, .int x3]) (G := G) (P := fun H => rg G LM aM ρ H) (by decide) rfl (Nat.le_of_ble_eq_true rfl) (fun p e s m below meth c ls C hr hP hK hl => ?_)
  obtain ⟨hx, hb, hml, hown, hts, hlocks⟩ := id C
  have hM : rg G LM aM ρ s.heap := hP
  have hS : va_S (RA aM 8) s.heap s.heap [] := va_S.rf
  have hl : lv_has ls 7 [(0, .ref (aM + 0)), (1, .int x1), (2, .int x2), (3, .int x3)] := hl
  have K : ∀ n : Nat, (∀ (ρ : Mem) (w1 : Int32) (w3 : Int32) (w4 : Int32) (w5 : Int32) (H : Heap) (locs : List Loc) (ls : Array Slot), rg G LM aM ρ H → va_S (RA aM 8) s.heap H locs → lv_has ls 7 [(0, .ref (aM + 0)), (1, .int w1), (3, .int w3), (4, .int w4), (5, .int w5)] → vl_X8_earns Q n 0 ρ w1 w3 w4 w5 0 → W p l e { frames := 4, cells := 0, slots := 0, locals := 90 } s m [.ref (aM + 0), .int x1, .int x2, .int x3].toArray below meth c H locs 0 0 (MQ below (va_Qi (Q) (fun u t => (fun u H => rg G LM aM u H) u t.heap ∧ KK G t) (RA aM 8)) [.ref (aM + 0), .int x1, .int x2, .int x3].toArray s 0 0 (RA aM 8)) (F0 m 55 ls [])) ∧ (∀ (ρ : Mem) (w1 : Int32) (w3 : Int32) (w4 : Int32) (w5 : Int32) (w6 : Int32) (H : Heap) (locs : List Loc) (ls : Array Slot), rg G LM aM ρ H → va_S (RA aM 8) s.heap H locs → lv_has ls 7 [(0, .ref (aM + 0)), (1, .int w1), (3, .int w3), (4, .int w4), (5, .int w5), (6, .int w6)] → vl_X8_earns Q n 1 ρ w1 w3 w4 w5 w6 → W p l e { frames := 4, cells := 0, slots := 0, locals := 90 } s m [.ref (aM + 0), .int x1, .int x2, .int x3].toArray below meth c H locs 0 0 (MQ below (va_Qi (Q) (fun u t => (fun u H => rg G LM aM u H) u t.heap ∧ KK G t) (RA aM 8)) [.ref (aM + 0), .int x1, .int x2, .int x3].toArray s 0 0 (RA aM 8)) (F0 m 78 ls [])) := by
    intro n
    induction n with
    | zero => exact ⟨fun _ _ _ _ _ _ _ _ _ _ _ h => h.elim, fun _ _ _ _ _ _ _ _ _ _ _ _ h => h.elim⟩
    | succ n ih =>
      refine ⟨?_, ?_⟩
      · intro ρ w1 w3 w4 w5 H locs ls hM hS hl h
        replace h : vb_X8_earns_55 Q (vl_X8_earns Q n) ρ w1 w3 w4 w5 := h
        unfold vb_X8_earns_55 at h
        refine lv_iload hx hb dX8_earns_55 (lv_at hl 4 rfl) ?_
        refine lv_sipush (v := 600) hx hb dX8_earns_57 (by decide) ?_
        refine lv_icmp_gt (tgt := 121) hx hb dX8_earns_60 (by decide) (fun c11 => ?_) (fun c11 => ?_)
        · replace h := h.1 c11
          refine lv_aload_n hx hb dX8_earns_121 rfl (lv_at hl 0 rfl) ?_
          refine g_getR (a := aM) (k := 0) (o := 4) C hK hM fl_X8_19 rfl rfl dX8_earns_122 ?_
          refine lv_aload_n hx hb dX8_earns_125 rfl (lv_at hl 0 rfl) ?_
          refine g_getR (a := aM) (k := 0) (o := 1) C hK hM fl_X8_7 rfl rfl dX8_earns_126 ?_
          refine g_sV C hK hl.1 (m_X8_copies l G aM ρ 4 rfl 1 rfl _ h) mw_X8_copies ms_X8_copies ml_X8_114 rfl ⟨rfl, rfl, Nat.le_of_ble_eq_true rfl, Nat.le_of_ble_eq_true rfl⟩ ⟨Nat.zero_le _, Nat.zero_le _⟩ hM hS (fun _ h => h) rfl (Nat.le_of_ble_eq_true rfl) dX8_earns_129 (fun u H locs h hu _ hq hS => ?_)
          obtain ⟨ρ13, rfl⟩ : ∃ z, z = u := ⟨_, rfl⟩
          have hM := hu
          refine lv_iload hx hb dX8_earns_132 (lv_at hl 4 rfl) ?_
          refine lv_sipush (v := 600) hx hb dX8_earns_134 (by decide) ?_
          refine lv_icmp_le (tgt := 145) hx hb dX8_earns_137 (by decide) (fun c14 => ?_) (fun c14 => ?_)
          · replace h := h.1 c14
            refine lv_iload hx hb dX8_earns_145 (lv_at hl 4 rfl) ?_
            exact g_iret (post := Q) (P' := fun u H => rg G LM aM u H) (r := w5) (u := ρ13) C hr hK hS h hM dX8_earns_147
          · replace h := h.2 c14
            refine g_ldc C kc_X8_113 dX8_earns_140 ?_
            refine lv_goto (tgt := 147) hx hb dX8_earns_142 (by decide) ?_
            exact g_iret (post := Q) (P' := fun u H => rg G LM aM u H) (r := (-1000004)) (u := ρ13) C hr hK hS h hM dX8_earns_147
        · replace h := h.2 c11
          refine lv_aload_n hx hb dX8_earns_63 rfl (lv_at hl 0 rfl) ?_
          refine lv_iload_n hx hb dX8_earns_64 rfl (lv_at hl 1 rfl) ?_
          refine lv_iload hx hb dX8_earns_65 (lv_at hl 3 rfl) ?_
          refine g_vI C hK hl.1 (m_X8_has l G aM ρ w1 w4 _ h) mw_X8_has mi_X8_has ml_X8_75 rfl ⟨rfl, rfl, Nat.le_of_ble_eq_true rfl, Nat.le_of_ble_eq_true rfl⟩ ⟨Nat.zero_le _, Nat.zero_le _⟩ (g_recv (a := aM) (k := 0) hK hM rfl rfl) hM hS (fun _ h => h.elim) rfl (Nat.le_of_ble_eq_true rfl) dX8_earns_67 (fun r15 u H locs h hu _ hq hS => ?_)
          have hM := hM.past hq (fun _ _ h => h)
          refine lv_if_ne (tgt := 121) hx hb dX8_earns_70 (by decide) (fun c16 => ?_) (fun c16 => ?_)
          · replace h := h.1 c16
            refine lv_aload_n hx hb dX8_earns_121 rfl (lv_at hl 0 rfl) ?_
            refine g_getR (a := aM) (k := 0) (o := 4) C hK hM fl_X8_19 rfl rfl dX8_earns_122 ?_
            refine lv_aload_n hx hb dX8_earns_125 rfl (lv_at hl 0 rfl) ?_
            refine g_getR (a := aM) (k := 0) (o := 1) C hK hM fl_X8_7 rfl rfl dX8_earns_126 ?_
            refine g_sV C hK hl.1 (m_X8_copies l G aM ρ 4 rfl 1 rfl _ h) mw_X8_copies ms_X8_copies ml_X8_114 rfl ⟨rfl, rfl, Nat.le_of_ble_eq_true rfl, Nat.le_of_ble_eq_true rfl⟩ ⟨Nat.zero_le _, Nat.zero_le _⟩ hM hS (fun _ h => h) rfl (Nat.le_of_ble_eq_true rfl) dX8_earns_129 (fun u H locs h hu _ hq hS => ?_)
            obtain ⟨ρ18, rfl⟩ : ∃ z, z = u := ⟨_, rfl⟩
            have hM := hu
            refine lv_iload hx hb dX8_earns_132 (lv_at hl 4 rfl) ?_
            refine lv_sipush (v := 600) hx hb dX8_earns_134 (by decide) ?_
            refine lv_icmp_le (tgt := 145) hx hb dX8_earns_137 (by decide) (fun c19 => ?_) (fun c19 => ?_)
            · replace h := h.1 c19
              refine lv_iload hx hb dX8_earns_145 (lv_at hl 4 rfl) ?_
              exact g_iret (post := Q) (P' := fun u H => rg G LM aM u H) (r := w5) (u := ρ18) C hr hK hS h hM dX8_earns_147
            · replace h := h.2 c19
              refine g_ldc C kc_X8_113 dX8_earns_140 ?_
              refine lv_goto (tgt := 147) hx hb dX8_earns_142 (by decide) ?_
              exact g_iret (post := Q) (P' := fun u H => rg G LM aM u H) (r := (-1000004)) (u := ρ18) C hr hK hS h hM dX8_earns_147
          · replace h := h.2 c16
            refine lv_iconst (v := 3) hx hb dX8_earns_73 (by decide) ?_
            refine lv_iload_n hx hb dX8_earns_74 rfl (lv_at hl 1 rfl) ?_
            refine lv_imul hx hb dX8_earns_75 ?_
            refine lv_topi (fun v20 ev20 => ?_)
            specialize h v20 ev20
            refine lv_istore (lv' := [(6, .int v20), (0, .ref (aM + 0)), (1, .int w1), (3, .int w3), (4, .int w4), (5, .int w5)]) hx hb dX8_earns_76 hl (by decide) rfl (fun ls hl => ?_)
            exact (ih.2) ρ w1 w3 w4 w5 v20 _ _ _ hM hS (lv_sub hl [1, 2, 3, 4, 5, 0] rfl) h
      · intro ρ w1 w3 w4 w5 w6 H locs ls hM hS hl h
        replace h : vb_X8_earns_78 Q (vl_X8_earns Q n) ρ w1 w3 w4 w5 w6 := h
        unfold vb_X8_earns_78 at h
        refine lv_iload hx hb dX8_earns_78 (lv_at hl 5 rfl) ?_
        refine lv_iconst (v := 3) hx hb dX8_earns_80 (by decide) ?_
        refine lv_iload_n hx hb dX8_earns_81 rfl (lv_at hl 1 rfl) ?_
        refine lv_imul hx hb dX8_earns_82 ?_
        refine lv_iconst (v := 3) hx hb dX8_earns_83 (by decide) ?_
        refine lv_iadd hx hb dX8_earns_84 ?_
        refine lv_icmp_ge (tgt := 111) hx hb dX8_earns_85 (by decide) (fun c21 => ?_) (fun c21 => ?_)
        · replace h := h.1 c21
          refine lv_aload_n hx hb dX8_earns_111 rfl (lv_at hl 0 rfl) ?_
          refine g_vV C hK hl.1 (m_X8_goes l G aM ρ _ h) mw_X8_goes mi_X8_goes ml_X8_107 rfl ⟨rfl, rfl, Nat.le_of_ble_eq_true rfl, Nat.le_of_ble_eq_true rfl⟩ ⟨Nat.zero_le _, Nat.zero_le _⟩ (g_recv (a := aM) (k := 0) hK hM rfl rfl) hM hS (fun _ h => h) rfl (Nat.le_of_ble_eq_true rfl) dX8_earns_112 (fun u H locs h hu _ hq hS => ?_)
          obtain ⟨ρ23, rfl⟩ : ∃ z, z = u := ⟨_, rfl⟩
          have hM := hu
          obtain ⟨v24, ev24⟩ : ∃ y : Int32, y = w5 + 1 := ⟨_, rfl⟩
          specialize h v24 ev24
          refine lv_iinc (v := v24) (lv' := [(5, .int v24), (0, .ref (aM + 0)), (1, .int w1), (3, .int w3), (4, .int w4), (6, .int w6)]) hx hb dX8_earns_115 hl (k := 4) rfl (by rw [ev24]; rfl) (by decide) rfl (fun ls hl => ?_)
          refine lv_goto (tgt := 55) hx hb dX8_earns_118 (by decide) ?_
          exact (ih.1) ρ23 w1 w3 w4 v24 _ _ _ hM hS (lv_sub hl [1, 2, 3, 4, 0] rfl) h
        · replace h := h.2 c21
          refine lv_aload_n hx hb dX8_earns_88 rfl (lv_at hl 0 rfl) ?_
          refine lv_iload hx hb dX8_earns_89 (lv_at hl 5 rfl) ?_
          refine lv_iload_n hx hb dX8_earns_91 rfl (lv_at hl 2 rfl) ?_
          refine g_vI C hK hl.1 (m_X8_canPut l G aM ρ w6 w3 _ h) mw_X8_canPut mi_X8_canPut ml_X8_85 rfl ⟨rfl, rfl, Nat.le_of_ble_eq_true rfl, Nat.le_of_ble_eq_true rfl⟩ ⟨Nat.zero_le _, Nat.zero_le _⟩ (g_recv (a := aM) (k := 0) hK hM rfl rfl) hM hS (fun _ h => h.elim) rfl (Nat.le_of_ble_eq_true rfl) dX8_earns_92 (fun r25 u H locs h hu _ hq hS => ?_)
          have hM := hM.past hq (fun _ _ h => h)
          refine lv_if_eq (tgt := 105) hx hb dX8_earns_95 (by decide) (fun c26 => ?_) (fun c26 => ?_)
          · replace h := h.1 c26
            obtain ⟨v27, ev27⟩ : ∃ y : Int32, y = w6 + 1 := ⟨_, rfl⟩
            specialize h v27 ev27
            refine lv_iinc (v := v27) (lv' := [(6, .int v27), (0, .ref (aM + 0)), (1, .int w1), (3, .int w3), (4, .int w4), (5, .int w5)]) hx hb dX8_earns_105 hl (k := 5) rfl (by rw [ev27]; rfl) (by decide) rfl (fun ls hl => ?_)
            refine lv_goto (tgt := 78) hx hb dX8_earns_108 (by decide) ?_
            exact (ih.2) ρ w1 w3 w4 w5 v27 _ _ _ hM hS (lv_sub hl [1, 2, 3, 4, 5, 0] rfl) h
          · replace h := h.2 c26
            refine lv_aload_n hx hb dX8_earns_98 rfl (lv_at hl 0 rfl) ?_
            refine lv_iload hx hb dX8_earns_99 (lv_at hl 5 rfl) ?_
            refine lv_iload_n hx hb dX8_earns_101 rfl (lv_at hl 2 rfl) ?_
            refine g_vV C hK hl.1 (m_X8_puts l G aM ρ w6 w3 _ h) mw_X8_puts mi_X8_puts ml_X8_88 rfl ⟨rfl, rfl, Nat.le_of_ble_eq_true rfl, Nat.le_of_ble_eq_true rfl⟩ ⟨Nat.zero_le _, Nat.zero_le _⟩ (g_recv (a := aM) (k := 0) hK hM rfl rfl) hM hS (fun _ h => h) rfl (Nat.le_of_ble_eq_true rfl) dX8_earns_102 (fun u H locs h hu _ hq hS => ?_)
            obtain ⟨ρ29, rfl⟩ : ∃ z, z = u := ⟨_, rfl⟩
            have hM := hu
            obtain ⟨v30, ev30⟩ : ∃ y : Int32, y = w6 + 1 := ⟨_, rfl⟩
            specialize h v30 ev30
            refine lv_iinc (v := v30) (lv' := [(6, .int v30), (0, .ref (aM + 0)), (1, .int w1), (3, .int w3), (4, .int w4), (5, .int w5)]) hx hb dX8_earns_105 hl (k := 5) rfl (by rw [ev30]; rfl) (by decide) rfl (fun ls hl => ?_)
            refine lv_goto (tgt := 78) hx hb dX8_earns_108 (by decide) ?_
            exact (ih.2) ρ29 w1 w3 w4 w5 v30 _ _ _ hM hS (lv_sub hl [1, 2, 3, 4, 5, 0] rfl) h
  unfold vc_X8_earns at h
  obtain ⟨n, h⟩ := h
  refine lv_aload_n hx hb dX8_earns_0 rfl (lv_at hl 0 rfl) ?_
  refine lv_iload_n hx hb dX8_earns_1 rfl (lv_at hl 1 rfl) ?_
  refine g_vI C hK hl.1 (m_X8_isPlayer l G aM ρ x1 _ h) mw_X8_isPlayer mi_X8_isPlayer ml_X8_39 rfl ⟨rfl, rfl, Nat.le_of_ble_eq_true rfl, Nat.le_of_ble_eq_true rfl⟩ ⟨Nat.zero_le _, Nat.zero_le _⟩ (g_recv (a := aM) (k := 0) hK hM rfl rfl) hM hS (fun _ h => h.elim) rfl (Nat.le_of_ble_eq_true rfl) dX8_earns_2 (fun r1 u H locs h hu _ hq hS => ?_)
  have hM := hM.past hq (fun _ _ h => h)
  refine lv_if_eq (tgt := 24) hx hb dX8_earns_5 (by decide) (fun c2 => ?_) (fun c2 => ?_)
  · replace h := h.1 c2
    refine g_ldc C kc_X8_59 dX8_earns_24 ?_
    exact g_iret (post := Q) (P' := fun u H => rg G LM aM u H) (r := (-1000001)) (u := ρ) C hr hK hS h hM dX8_earns_26
  · replace h := h.2 c2
    refine lv_aload_n hx hb dX8_earns_8 rfl (lv_at hl 0 rfl) ?_
    refine lv_iload_n hx hb dX8_earns_9 rfl (lv_at hl 2 rfl) ?_
    refine g_vI C hK hl.1 (m_X8_isContract l G aM ρ x2 _ h) mw_X8_isContract mi_X8_isContract ml_X8_104 rfl ⟨rfl, rfl, Nat.le_of_ble_eq_true rfl, Nat.le_of_ble_eq_true rfl⟩ ⟨Nat.zero_le _, Nat.zero_le _⟩ (g_recv (a := aM) (k := 0) hK hM rfl rfl) hM hS (fun _ h => h.elim) rfl (Nat.le_of_ble_eq_true rfl) dX8_earns_10 (fun r3 u H locs h hu _ hq hS => ?_)
    have hM := hM.past hq (fun _ _ h => h)
    refine lv_if_eq (tgt := 24) hx hb dX8_earns_13 (by decide) (fun c4 => ?_) (fun c4 => ?_)
    · replace h := h.1 c4
      refine g_ldc C kc_X8_59 dX8_earns_24 ?_
      exact g_iret (post := Q) (P' := fun u H => rg G LM aM u H) (r := (-1000001)) (u := ρ) C hr hK hS h hM dX8_earns_26
    · replace h := h.2 c4
      refine lv_aload_n hx hb dX8_earns_16 rfl (lv_at hl 0 rfl) ?_
      refine lv_iload_n hx hb dX8_earns_17 rfl (lv_at hl 3 rfl) ?_
      refine g_vI C hK hl.1 (m_X8_isTask l G aM ρ x3 _ h) mw_X8_isTask mi_X8_isTask ml_X8_82 rfl ⟨rfl, rfl, Nat.le_of_ble_eq_true rfl, Nat.le_of_ble_eq_true rfl⟩ ⟨Nat.zero_le _, Nat.zero_le _⟩ (g_recv (a := aM) (k := 0) hK hM rfl rfl) hM hS (fun _ h => h.elim) rfl (Nat.le_of_ble_eq_true rfl) dX8_earns_18 (fun r5 u H locs h hu _ hq hS => ?_)
      have hM := hM.past hq (fun _ _ h => h)
      refine lv_if_ne (tgt := 27) hx hb dX8_earns_21 (by decide) (fun c6 => ?_) (fun c6 => ?_)
      · replace h := h.1 c6
        refine lv_aload_n hx hb dX8_earns_27 rfl (lv_at hl 0 rfl) ?_
        refine g_getR (a := aM) (k := 0) (o := 1) C hK hM fl_X8_7 rfl rfl dX8_earns_28 ?_
        refine lv_sipush (v := 152) hx hb dX8_earns_31 (by decide) ?_
        refine lv_iconst (v := 2) hx hb dX8_earns_34 (by decide) ?_
        refine lv_iload_n hx hb dX8_earns_35 rfl (lv_at hl 2 rfl) ?_
        refine lv_imul hx hb dX8_earns_36 ?_
        refine lv_iadd hx hb dX8_earns_37 ?_
        obtain ⟨b7, h⟩ := h
        refine g_ald (a := aM) (k := 1) (n := 164) C hK hM rfl b7 dX8_earns_38 ?_
        refine lv_topi (fun v8 ev8 => ?_)
        specialize h v8 ev8
        refine lv_istore (lv' := [(4, .int v8), (0, .ref (aM + 0)), (1, .int x1), (2, .int x2), (3, .int x3)]) hx hb dX8_earns_39 hl (by decide) rfl (fun ls hl => ?_)
        refine lv_aload_n hx hb dX8_earns_41 rfl (lv_at hl 1 rfl) ?_
        refine g_getR (a := aM) (k := 0) (o := 1) C hK hM fl_X8_7 rfl rfl dX8_earns_42 ?_
        refine lv_aload_n hx hb dX8_earns_45 rfl (lv_at hl 1 rfl) ?_
        refine g_getR (a := aM) (k := 0) (o := 4) C hK hM fl_X8_19 rfl rfl dX8_earns_46 ?_
        refine g_sV C hK hl.1 (m_X8_copies l G aM ρ 1 rfl 4 rfl _ h) mw_X8_copies ms_X8_copies ml_X8_114 rfl ⟨rfl, rfl, Nat.le_of_ble_eq_true rfl, Nat.le_of_ble_eq_true rfl⟩ ⟨Nat.zero_le _, Nat.zero_le _⟩ hM hS (fun _ h => h) rfl (Nat.le_of_ble_eq_true rfl) dX8_earns_49 (fun u H locs h hu _ hq hS => ?_)
        obtain ⟨ρ10, rfl⟩ : ∃ z, z = u := ⟨_, rfl⟩
        have hM := hu
        refine lv_iconst (v := 0) hx hb dX8_earns_52 (by decide) ?_
        refine lv_istore (lv' := [(5, .int 0), (4, .int v8), (0, .ref (aM + 0)), (1, .int x1), (2, .int x2), (3, .int x3)]) hx hb dX8_earns_53 hl (by decide) rfl (fun ls hl => ?_)
        exact ((K n).1) ρ10 x1 x3 v8 0 _ _ _ hM hS (lv_sub hl [2, 3, 5, 1, 0] rfl) h
      · replace h := h.2 c6
        refine g_ldc C kc_X8_59 dX8_earns_24 ?_
        exact g_iret (post := Q) (P' := fun u H => rg G LM aM u H) (r := (-1000001)) (u := ρ) C hr hK hS h hM dX8_earns_26
