theorem dX8_numbersOf_0 : decode cX8_numbersOf 0 = .ok (.iload_n 0, 1) := by decide +kernel
theorem dX8_numbersOf_1 : decode cX8_numbersOf 1 = .ok (.bipush 116, 2) := by decide +kernel
theorem dX8_numbersOf_3 : decode cX8_numbersOf 3 = .ok (.if_icmp .ne 7, 3) := by decide +kernel
theorem dX8_numbersOf_6 : decode cX8_numbersOf 6 = .ok (.iconst 4, 1) := by decide +kernel
theorem dX8_numbersOf_7 : decode cX8_numbersOf 7 = .ok (.goto 46, 3) := by decide +kernel
theorem dX8_numbersOf_10 : decode cX8_numbersOf 10 = .ok (.iload_n 0, 1) := by decide +kernel
theorem dX8_numbersOf_11 : decode cX8_numbersOf 11 = .ok (.bipush 119, 2) := by decide +kernel
theorem dX8_numbersOf_13 : decode cX8_numbersOf 13 = .ok (.if_icmp .ne 7, 3) := by decide +kernel
theorem dX8_numbersOf_16 : decode cX8_numbersOf 16 = .ok (.iconst 3, 1) := by decide +kernel
theorem dX8_numbersOf_17 : decode cX8_numbersOf 17 = .ok (.goto 36, 3) := by decide +kernel
theorem dX8_numbersOf_20 : decode cX8_numbersOf 20 = .ok (.iload_n 0, 1) := by decide +kernel
theorem dX8_numbersOf_21 : decode cX8_numbersOf 21 = .ok (.bipush 104, 2) := by decide +kernel
theorem dX8_numbersOf_23 : decode cX8_numbersOf 23 = .ok (.if_icmp .eq 15, 3) := by decide +kernel
theorem dX8_numbersOf_26 : decode cX8_numbersOf 26 = .ok (.iload_n 0, 1) := by decide +kernel
theorem dX8_numbersOf_27 : decode cX8_numbersOf 27 = .ok (.bipush 99, 2) := by decide +kernel
theorem dX8_numbersOf_29 : decode cX8_numbersOf 29 = .ok (.if_icmp .eq 9, 3) := by decide +kernel
theorem dX8_numbersOf_32 : decode cX8_numbersOf 32 = .ok (.iload_n 0, 1) := by decide +kernel
theorem dX8_numbersOf_33 : decode cX8_numbersOf 33 = .ok (.bipush 98, 2) := by decide +kernel
theorem dX8_numbersOf_35 : decode cX8_numbersOf 35 = .ok (.if_icmp .ne 7, 3) := by decide +kernel
theorem dX8_numbersOf_38 : decode cX8_numbersOf 38 = .ok (.iconst 2, 1) := by decide +kernel
theorem dX8_numbersOf_39 : decode cX8_numbersOf 39 = .ok (.goto 14, 3) := by decide +kernel
theorem dX8_numbersOf_42 : decode cX8_numbersOf 42 = .ok (.iload_n 0, 1) := by decide +kernel
theorem dX8_numbersOf_43 : decode cX8_numbersOf 43 = .ok (.bipush 115, 2) := by decide +kernel
theorem dX8_numbersOf_45 : decode cX8_numbersOf 45 = .ok (.if_icmp .ne 7, 3) := by decide +kernel
theorem dX8_numbersOf_48 : decode cX8_numbersOf 48 = .ok (.iconst 1, 1) := by decide +kernel
theorem dX8_numbersOf_49 : decode cX8_numbersOf 49 = .ok (.goto 4, 3) := by decide +kernel
theorem dX8_numbersOf_52 : decode cX8_numbersOf 52 = .ok (.iconst 0, 1) := by decide +kernel
theorem dX8_numbersOf_53 : decode cX8_numbersOf 53 = .ok (.ireturn, 1) := by decide +kernel
def vc_X8_numbersOf (Q : Int32 → Prop) (x0 : Int32) : Prop :=
  ((¬ x0 = 116) → (((¬ x0 = 119) → (((x0 = 104) → (Q 2 )) ∧ ((¬ x0 = 104) → (((x0 = 99) → (Q 2 )) ∧ ((¬ x0 = 99) → (((¬ x0 = 98) → (((¬ x0 = 115) → (Q 0 )) ∧ ((x0 = 115) → (Q 1 )))) ∧ ((x0 = 98) → (Q 2 )))))))) ∧ ((x0 = 119) → (Q 3 )))) ∧ ((x0 = 116) → (Q 4 ))
set_option maxHeartbeats 8000000 in
set_option maxRecDepth 100000 in
theorem m_X8_numbersOf (l : Launch) (G : GG) (x0 : Int32) (Q : Int32 → Prop) (h : vc_X8_numbersOf Q x0) : CtI l yX8_numbersOf cX8_numbersOf 1 (some .int) { frames := 0, cells := 0, slots := 0, locals := 0 } [.int x0] G (fun H => True) (fun r (_ : Unit) => Q r) (fun _ _ => True) (fun _ => False) := by
  unfold CtI
  refine met_start (y := yX8_numbersOf) (maxL := 1) (av := [.int x0]) (G := G) (P := fun H => True) (by decide) rfl (Nat.le_of_ble_eq_true rfl) (fun p e s m below meth c ls C hr hP hK hl => ?_)
  obtain ⟨hx, hb, hml, hown, hts, hlocks⟩ := id C
  have hS : va_S (fun _ => False) s.heap s.heap [] := va_S.rf
  have hl : lv_has ls 1 [(0, .int x0)] := hl
  unfold vc_X8_numbersOf at h
  refine lv_iload_n hx hb dX8_numbersOf_0 rfl (lv_at hl 0 rfl) ?_
  refine lv_bipush (v := 116) hx hb dX8_numbersOf_1 (by decide) ?_
  refine lv_icmp_ne (tgt := 10) hx hb dX8_numbersOf_3 (by decide) (fun c1 => ?_) (fun c1 => ?_)
  · replace h := h.1 c1
    refine lv_iload_n hx hb dX8_numbersOf_10 rfl (lv_at hl 0 rfl) ?_
    refine lv_bipush (v := 119) hx hb dX8_numbersOf_11 (by decide) ?_
    refine lv_icmp_ne (tgt := 20) hx hb dX8_numbersOf_13 (by decide) (fun c2 => ?_) (fun c2 => ?_)
    · replace h := h.1 c2
      refine lv_iload_n hx hb dX8_numbersOf_20 rfl (lv_at hl 0 rfl) ?_
      refine lv_bipush (v := 104) hx hb dX8_numbersOf_21 (by decide) ?_
      refine lv_icmp_eq (tgt := 38) hx hb dX8_numbersOf_23 (by decide) (fun c3 => ?_) (fun c3 => ?_)
      · replace h := h.1 c3
        refine lv_iconst (v := 2) hx hb dX8_numbersOf_38 (by decide) ?_
        refine lv_goto (tgt := 53) hx hb dX8_numbersOf_39 (by decide) ?_
        exact g_iret (post := fun r (_ : Unit) => Q r) (P' := fun _ _ => True) (r := 2) (u := ()) C hr hK hS h trivial dX8_numbersOf_53
      · replace h := h.2 c3
        refine lv_iload_n hx hb dX8_numbersOf_26 rfl (lv_at hl 0 rfl) ?_
        refine lv_bipush (v := 99) hx hb dX8_numbersOf_27 (by decide) ?_
        refine lv_icmp_eq (tgt := 38) hx hb dX8_numbersOf_29 (by decide) (fun c4 => ?_) (fun c4 => ?_)
        · replace h := h.1 c4
          refine lv_iconst (v := 2) hx hb dX8_numbersOf_38 (by decide) ?_
          refine lv_goto (tgt := 53) hx hb dX8_numbersOf_39 (by decide) ?_
          exact g_iret (post := fun r (_ : Unit) => Q r) (P' := fun _ _ => True) (r := 2) (u := ()) C hr hK hS h trivial dX8_numbersOf_53
        · replace h := h.2 c4
          refine lv_iload_n hx hb dX8_numbersOf_32 rfl (lv_at hl 0 rfl) ?_
          refine lv_bipush (v := 98) hx hb dX8_numbersOf_33 (by decide) ?_
          refine lv_icmp_ne (tgt := 42) hx hb dX8_numbersOf_35 (by decide) (fun c5 => ?_) (fun c5 => ?_)
          · replace h := h.1 c5
            refine lv_iload_n hx hb dX8_numbersOf_42 rfl (lv_at hl 0 rfl) ?_
            refine lv_bipush (v := 115) hx hb dX8_numbersOf_43 (by decide) ?_
            refine lv_icmp_ne (tgt := 52) hx hb dX8_numbersOf_45 (by decide) (fun c6 => ?_) (fun c6 => ?_)
            · replace h := h.1 c6
              refine lv_iconst (v := 0) hx hb dX8_numbersOf_52 (by decide) ?_
              exact g_iret (post := fun r (_ : Unit) => Q r) (P' := fun _ _ => True) (r := 0) (u := ()) C hr hK hS h trivial dX8_numbersOf_53
            · replace h := h.2 c6
              refine lv_iconst (v := 1) hx hb dX8_numbersOf_48 (by decide) ?_
              refine lv_goto (tgt := 53) hx hb dX8_numbersOf_49 (by decide) ?_
              exact g_iret (post := fun r (_ : Unit) => Q r) (P' := fun _ _ => True) (r := 1) (u := ()) C hr hK hS h trivial dX8_numbersOf_53
          · replace h := h.2 c5
            refine lv_iconst (v := 2) hx hb dX8_numbersOf_38 (by decide) ?_
            refine lv_goto (tgt := 53) hx hb dX8_numbersOf_39 (by decide) ?_
            exact g_iret (post := fun r (_ : Unit) => Q r) (P' := fun _ _ => True) (r := 2) (u := ()) C hr hK hS h trivial dX8_numbersOf_53
    · replace h := h.2 c2
      refine lv_iconst (v := 3) hx hb dX8_numbersOf_16 (by decide) ?_
      refine lv_goto (tgt := 53) hx hb dX8_numbersOf_17 (by decide) ?_
      exact g_iret (post := fun r (_ : Unit) => Q r) (P' := fun _ _ => True) (r := 3) (u := ()) C hr hK hS h trivial dX8_numbersOf_53
  · replace h := h.2 c1
    refine lv_iconst (v := 4) hx hb dX8_numbersOf_6 (by decide) ?_
    refine lv_goto (tgt := 53) hx hb dX8_numbersOf_7 (by decide) ?_
    exact g_iret (post := fun r (_ : Unit) => Q r) (P' := fun _ _ => True) (r := 4) (u := ()) C hr hK hS h trivial dX8_numbersOf_53
theorem dX8_reads_0 : decode cX8_reads 0 = .ok (.aload_n 0, 1) := by decide +kernel
theorem dX8_reads_1 : decode cX8_reads 1 = .ok (.aload_n 0, 1) := by decide +kernel
theorem dX8_reads_2 : decode cX8_reads 2 = .ok (.bipush 33, 2) := by decide +kernel
theorem dX8_reads_4 : decode cX8_reads 4 = .ok (.bipush 126, 2) := by decide +kernel
theorem dX8_reads_6 : decode cX8_reads 6 = .ok (.invokevirtual 152, 3) := by decide +kernel
theorem dX8_reads_9 : decode cX8_reads 9 = .ok (.ifCond .eq 15, 3) := by decide +kernel
theorem dX8_reads_12 : decode cX8_reads 12 = .ok (.aload_n 0, 1) := by decide +kernel
theorem dX8_reads_13 : decode cX8_reads 13 = .ok (.getfield 22, 3) := by decide +kernel
theorem dX8_reads_16 : decode cX8_reads 16 = .ok (.aload_n 0, 1) := by decide +kernel
theorem dX8_reads_17 : decode cX8_reads 17 = .ok (.getfield 149, 3) := by decide +kernel
theorem dX8_reads_20 : decode cX8_reads 20 = .ok (.iaload, 1) := by decide +kernel
theorem dX8_reads_21 : decode cX8_reads 21 = .ok (.goto 4, 3) := by decide +kernel
theorem dX8_reads_24 : decode cX8_reads 24 = .ok (.iconst 0, 1) := by decide +kernel
theorem dX8_reads_25 : decode cX8_reads 25 = .ok (.putfield 155, 3) := by decide +kernel
theorem dX8_reads_28 : decode cX8_reads 28 = .ok (.aload_n 0, 1) := by decide +kernel
theorem dX8_reads_29 : decode cX8_reads 29 = .ok (.getfield 155, 3) := by decide +kernel
theorem dX8_reads_32 : decode cX8_reads 32 = .ok (.invokestatic 158, 3) := by decide +kernel
theorem dX8_reads_35 : decode cX8_reads 35 = .ok (.istore_n 1, 1) := by decide +kernel
theorem dX8_reads_36 : decode cX8_reads 36 = .ok (.iload_n 1, 1) := by decide +kernel
theorem dX8_reads_37 : decode cX8_reads 37 = .ok (.ifCond .ne 5, 3) := by decide +kernel
theorem dX8_reads_40 : decode cX8_reads 40 = .ok (.iconst 0, 1) := by decide +kernel
theorem dX8_reads_41 : decode cX8_reads 41 = .ok (.ireturn, 1) := by decide +kernel
theorem dX8_reads_42 : decode cX8_reads 42 = .ok (.aload_n 0, 1) := by decide +kernel
theorem dX8_reads_43 : decode cX8_reads 43 = .ok (.dup, 1) := by decide +kernel
theorem dX8_reads_44 : decode cX8_reads 44 = .ok (.getfield 149, 3) := by decide +kernel
theorem dX8_reads_47 : decode cX8_reads 47 = .ok (.iconst 1, 1) := by decide +kernel
theorem dX8_reads_48 : decode cX8_reads 48 = .ok (.iadd, 1) := by decide +kernel
theorem dX8_reads_49 : decode cX8_reads 49 = .ok (.putfield 149, 3) := by decide +kernel
theorem dX8_reads_52 : decode cX8_reads 52 = .ok (.aload_n 0, 1) := by decide +kernel
theorem dX8_reads_53 : decode cX8_reads 53 = .ok (.iconst 0, 1) := by decide +kernel
theorem dX8_reads_54 : decode cX8_reads 54 = .ok (.invokevirtual 161, 3) := by decide +kernel
theorem dX8_reads_57 : decode cX8_reads 57 = .ok (.istore_n 2, 1) := by decide +kernel
theorem dX8_reads_58 : decode cX8_reads 58 = .ok (.iconst 1, 1) := by decide +kernel
theorem dX8_reads_59 : decode cX8_reads 59 = .ok (.istore_n 3, 1) := by decide +kernel
theorem dX8_reads_60 : decode cX8_reads 60 = .ok (.iload_n 3, 1) := by decide +kernel
theorem dX8_reads_61 : decode cX8_reads 61 = .ok (.iload_n 1, 1) := by decide +kernel
theorem dX8_reads_62 : decode cX8_reads 62 = .ok (.if_icmp .ge 36, 3) := by decide +kernel
theorem dX8_reads_65 : decode cX8_reads 65 = .ok (.iload_n 2, 1) := by decide +kernel
theorem dX8_reads_66 : decode cX8_reads 66 = .ok (.ifCond .eq 32, 3) := by decide +kernel
theorem dX8_reads_69 : decode cX8_reads 69 = .ok (.aload_n 0, 1) := by decide +kernel
theorem dX8_reads_70 : decode cX8_reads 70 = .ok (.bipush 44, 2) := by decide +kernel
theorem dX8_reads_72 : decode cX8_reads 72 = .ok (.invokevirtual 164, 3) := by decide +kernel
theorem dX8_reads_75 : decode cX8_reads 75 = .ok (.ifCond .eq 15, 3) := by decide +kernel
theorem dX8_reads_78 : decode cX8_reads 78 = .ok (.aload_n 0, 1) := by decide +kernel
theorem dX8_reads_79 : decode cX8_reads 79 = .ok (.iload_n 3, 1) := by decide +kernel
theorem dX8_reads_80 : decode cX8_reads 80 = .ok (.invokevirtual 161, 3) := by decide +kernel
theorem dX8_reads_83 : decode cX8_reads 83 = .ok (.ifCond .eq 7, 3) := by decide +kernel
theorem dX8_reads_86 : decode cX8_reads 86 = .ok (.iconst 1, 1) := by decide +kernel
theorem dX8_reads_87 : decode cX8_reads 87 = .ok (.goto 4, 3) := by decide +kernel
theorem dX8_reads_90 : decode cX8_reads 90 = .ok (.iconst 0, 1) := by decide +kernel
theorem dX8_reads_91 : decode cX8_reads 91 = .ok (.istore_n 2, 1) := by decide +kernel
theorem dX8_reads_92 : decode cX8_reads 92 = .ok (.iinc 3 1, 3) := by decide +kernel
theorem dX8_reads_95 : decode cX8_reads 95 = .ok (.goto (-35), 3) := by decide +kernel
theorem dX8_reads_98 : decode cX8_reads 98 = .ok (.iload_n 2, 1) := by decide +kernel
theorem dX8_reads_99 : decode cX8_reads 99 = .ok (.ifCond .eq 16, 3) := by decide +kernel
theorem dX8_reads_102 : decode cX8_reads 102 = .ok (.aload_n 0, 1) := by decide +kernel
theorem dX8_reads_103 : decode cX8_reads 103 = .ok (.bipush 59, 2) := by decide +kernel
theorem dX8_reads_105 : decode cX8_reads 105 = .ok (.invokevirtual 164, 3) := by decide +kernel
theorem dX8_reads_108 : decode cX8_reads 108 = .ok (.ifCond .eq 7, 3) := by decide +kernel
theorem dX8_reads_111 : decode cX8_reads 111 = .ok (.iconst 1, 1) := by decide +kernel
theorem dX8_reads_112 : decode cX8_reads 112 = .ok (.goto 4, 3) := by decide +kernel
theorem dX8_reads_115 : decode cX8_reads 115 = .ok (.iconst 0, 1) := by decide +kernel
theorem dX8_reads_116 : decode cX8_reads 116 = .ok (.ireturn, 1) := by decide +kernel
def vb_X8_reads_25 (Q : Int32 → Mem → Prop) (rec : Nat → Mem → Int32 → Int32 → Int32 → Prop) (ρ : Mem) (z1 : Int32) : Prop :=
  ∀ ρ4 : Mem, ρ4 = up ρ 0 15 z1 → (vc_X8_numbersOf (fun r5 => ((¬ r5 = 0) → (∀ ρ7 : Mem, ρ7 = up ρ4 0 10 ((ρ4 0 10) + 1) → (vc_X8_number (fun r8 ρ9 => rec 1 ρ9 r5 r8 1) ρ7 0))) ∧ ((r5 = 0) → (Q 0 ρ4))) (ρ4 0 15))
def vb_X8_reads_60 (Q : Int32 → Mem → Prop) (rec : Nat → Mem → Int32 → Int32 → Int32 → Prop) (ρ : Mem) (w1 : Int32) (w2 : Int32) (w3 : Int32) : Prop :=
  ((w1 ≤ w3) → (((w2 = 0) → (Q 0 ρ)) ∧ ((¬ w2 = 0) → (vc_X8_sign (fun r12 ρ13 => ((r12 = 0) → (Q 0 ρ13)) ∧ ((¬ r12 = 0) → (Q 1 ρ13))) ρ 59)))) ∧ ((¬ w1 ≤ w3) → (((w2 = 0) → (((w2 = 0) → (Q 0 ρ)) ∧ ((¬ w2 = 0) → (vc_X8_sign (fun r17 ρ18 => ((r17 = 0) → (Q 0 ρ18)) ∧ ((¬ r17 = 0) → (Q 1 ρ18))) ρ 59)))) ∧ ((¬ w2 = 0) → (vc_X8_sign (fun r20 ρ21 => ((r20 = 0) → (∀ v23 : Int32, v23 = w3 + 1 → (rec 1 ρ21 w1 0 v23))) ∧ ((¬ r20 = 0) → (vc_X8_number (fun r24 ρ25 => ((r24 = 0) → (∀ v27 : Int32, v27 = w3 + 1 → (rec 1 ρ25 w1 0 v27))) ∧ ((¬ r24 = 0) → (∀ v28 : Int32, v28 = w3 + 1 → (rec 1 ρ25 w1 1 v28)))) ρ21 w3))) ρ 44))))
def vl_X8_reads (Q : Int32 → Mem → Prop) : Nat → Nat → Mem → Int32 → Int32 → Int32 → Prop
  | 0, _, _, _, _, _ => False
  | n + 1, 0, ρ, z1, _, _ => vb_X8_reads_25 Q (vl_X8_reads Q n) ρ z1
  | n + 1, 1, ρ, w1, w2, w3 => vb_X8_reads_60 Q (vl_X8_reads Q n) ρ w1 w2 w3
  | _ + 1, _, _, _, _, _ => False
def vc_X8_reads (Q : Int32 → Mem → Prop) (ρ : Mem) : Prop :=
  ∃ n : Nat, vc_X8_isAt (fun r1 => ((r1 = 0) → (vl_X8_reads Q n 0 ρ 0 0 0)) ∧ ((¬ r1 = 0) → (vp_in (ρ 0 10) 60 ∧ (vl_X8_reads Q n 0 ρ (ρ 5 (ρ 0 10).toNatClampNeg) 0 0)))) ρ 33 126
set_option maxHeartbeats 8000000 in
set_option maxRecDepth 100000 in
theorem m_X8_reads (l : Launch) (G : GG) (aM : Nat) (ρ : Mem) (Q : Int32 → Mem → Prop) (h : vc_X8_reads Q ρ) : CtI l yX8_reads cX8_reads 4 (some .boolean) { frames := 3, cells := 0, slots := 0, locals := 66 } [.ref (aM + 0)] G (fun H => rg G LM aM ρ H) (Q) (fun u H => rg G LM aM u H) (RA aM 8) := by
  unfold CtI
  refine met_start (y := yX8_reads) (maxL := 4) (av := [.ref (aM + 0)]) (G := G) (P := fun H => rg G LM aM ρ H) (by decide) rfl (Nat.le_of_ble_eq_true rfl) (fun p e s m below meth c ls C hr hP hK hl => ?_)
  obtain ⟨hx, hb, hml, hown, hts, hlocks⟩ := id C
  have hM : rg G LM aM ρ s.heap := hP
  have hS : va_S (RA aM 8) s.heap s.heap [] := va_S.rf
  have hl : lv_has ls 4 [(0, .ref (aM + 0))] := hl
  have K : ∀ n : Nat, (∀ (ρ : Mem) (z1 : Int32) (H : Heap) (locs : List Loc) (ls : Array Slot), rg G LM aM ρ H → va_S (RA aM 8) s.heap H locs → lv_has ls 4 [(0, .ref (aM + 0))] → vl_X8_reads Q n 0 ρ z1 0 0 → W p l e { frames := 3, cells := 0, slots := 0, locals := 66 } s m [.ref (aM + 0)].toArray below meth c H locs 0 0 (MQ below (va_Qi (Q) (fun u t => (fun u H => rg G LM aM u H) u t.heap ∧ KK G t) (RA aM 8)) [.ref (aM + 0)].toArray s 0 0 (RA aM 8)) (F0 m 25 ls [.int z1, .ref (aM + 0)])) ∧ (∀ (ρ : Mem) (w1 : Int32) (w2 : Int32) (w3 : Int32) (H : Heap) (locs : List Loc) (ls : Array Slot), rg G LM aM ρ H → va_S (RA aM 8) s.heap H locs → lv_has ls 4 [(0, .ref (aM + 0)), (1, .int w1), (2, .int w2), (3, .int w3)] → vl_X8_reads Q n 1 ρ w1 w2 w3 → W p l e { frames := 3, cells := 0, slots := 0, locals := 66 } s m [.ref (aM + 0)].toArray below meth c H locs 0 0 (MQ below (va_Qi (Q) (fun u t => (fun u H => rg G LM aM u H) u t.heap ∧ KK G t) (RA aM 8)) [.ref (aM + 0)].toArray s 0 0 (RA aM 8)) (F0 m 60 ls [])) := by
    intro n
    induction n with
    | zero => exact ⟨fun _ _ _ _ _ _ _ _ h => h.elim, fun _ _ _ _ _ _ _ _ _ _ h => h.elim⟩
    | succ n ih =>
      refine ⟨?_, ?_⟩
      · intro ρ z1 H locs ls hM hS hl h
        replace h : vb_X8_reads_25 Q (vl_X8_reads Q n) ρ z1 := h
        unfold vb_X8_reads_25 at h
        refine g_put (a := aM) (k := 0) C hK hM hS fl_X8_155 fp_X8_15 rfl rfl (by rfl) (by rfl) (RA_in (by decide)) dX8_reads_25 (fun ρ4 H locs eρ4 hM hS hq => ?_)
        specialize h ρ4 eρ4
        refine lv_aload_n hx hb dX8_reads_28 rfl (lv_at hl 0 rfl) ?_
        refine g_getI (a := aM) (k := 0) C hK hM fl_X8_155 rfl rfl dX8_reads_29 ?_
        refine g_sI C hK hl.1 (m_X8_numbersOf l G (ρ4 0 15) _ h) mw_X8_numbersOf ms_X8_numbersOf ml_X8_158 rfl ⟨rfl, rfl, Nat.le_of_ble_eq_true rfl, Nat.le_of_ble_eq_true rfl⟩ ⟨Nat.zero_le _, Nat.zero_le _⟩ trivial hS (fun _ h => h.elim) rfl (Nat.le_of_ble_eq_true rfl) dX8_reads_32 (fun r5 u H locs h hu _ hq hS => ?_)
        have hM := hM.past hq (fun _ _ h => h)
        refine lv_istore_n (lv' := [(1, .int r5), (0, .ref (aM + 0))]) hx hb dX8_reads_35 rfl hl (by decide) rfl (fun ls hl => ?_)
        refine lv_iload_n hx hb dX8_reads_36 rfl (lv_at hl 0 rfl) ?_
        refine lv_if_ne (tgt := 42) hx hb dX8_reads_37 (by decide) (fun c6 => ?_) (fun c6 => ?_)
        · replace h := h.1 c6
          refine lv_aload_n hx hb dX8_reads_42 rfl (lv_at hl 1 rfl) ?_
          refine lv_dup hx hb dX8_reads_43 rfl ?_
          refine g_getI (a := aM) (k := 0) C hK hM fl_X8_149 rfl rfl dX8_reads_44 ?_
          refine lv_iconst (v := 1) hx hb dX8_reads_47 (by decide) ?_
          refine lv_iadd hx hb dX8_reads_48 ?_
          refine g_put (a := aM) (k := 0) C hK hM hS fl_X8_149 fp_X8_10 rfl rfl (by rfl) (by rfl) (RA_in (by decide)) dX8_reads_49 (fun ρ7 H locs eρ7 hM hS hq => ?_)
          specialize h ρ7 eρ7
          refine lv_aload_n hx hb dX8_reads_52 rfl (lv_at hl 1 rfl) ?_
          refine lv_iconst (v := 0) hx hb dX8_reads_53 (by decide) ?_
          refine g_vI C hK hl.1 (m_X8_number l G aM ρ7 0 _ h) mw_X8_number mi_X8_number ml_X8_161 rfl ⟨rfl, rfl, Nat.le_of_ble_eq_true rfl, Nat.le_of_ble_eq_true rfl⟩ ⟨Nat.zero_le _, Nat.zero_le _⟩ (g_recv (a := aM) (k := 0) hK hM rfl rfl) hM hS (fun _ h => h) rfl (Nat.le_of_ble_eq_true rfl) dX8_reads_54 (fun r8 u H locs h hu _ hq hS => ?_)
          obtain ⟨ρ9, rfl⟩ : ∃ z, z = u := ⟨_, rfl⟩
          have hM := hu
          refine lv_istore_n (lv' := [(2, .int r8), (1, .int r5), (0, .ref (aM + 0))]) hx hb dX8_reads_57 rfl hl (by decide) rfl (fun ls hl => ?_)
          refine lv_iconst (v := 1) hx hb dX8_reads_58 (by decide) ?_
          refine lv_istore_n (lv' := [(3, .int 1), (2, .int r8), (1, .int r5), (0, .ref (aM + 0))]) hx hb dX8_reads_59 rfl hl (by decide) rfl (fun ls hl => ?_)
          exact (ih.2) ρ9 r5 r8 1 _ _ _ hM hS (lv_sub hl [3, 2, 1, 0] rfl) h
        · replace h := h.2 c6
          refine lv_iconst (v := 0) hx hb dX8_reads_40 (by decide) ?_
          exact g_zret (post := Q) (P' := fun u H => rg G LM aM u H) (r := 0) (u := ρ4) C hr hK hS (by rfl) h hM dX8_reads_41
      · intro ρ w1 w2 w3 H locs ls hM hS hl h
        replace h : vb_X8_reads_60 Q (vl_X8_reads Q n) ρ w1 w2 w3 := h
        unfold vb_X8_reads_60 at h
        refine lv_iload_n hx hb dX8_reads_60 rfl (lv_at hl 3 rfl) ?_
        refine lv_iload_n hx hb dX8_reads_61 rfl (lv_at hl 1 rfl) ?_
        refine lv_icmp_ge (tgt := 98) hx hb dX8_reads_62 (by decide) (fun c10 => ?_) (fun c10 => ?_)
        · replace h := h.1 c10
          refine lv_iload_n hx hb dX8_reads_98 rfl (lv_at hl 2 rfl) ?_
          refine lv_if_eq (tgt := 115) hx hb dX8_reads_99 (by decide) (fun c11 => ?_) (fun c11 => ?_)
          · replace h := h.1 c11
            refine lv_iconst (v := 0) hx hb dX8_reads_115 (by decide) ?_
            exact g_zret (post := Q) (P' := fun u H => rg G LM aM u H) (r := 0) (u := ρ) C hr hK hS (by rfl) h hM dX8_reads_116
          · replace h := h.2 c11
            refine lv_aload_n hx hb dX8_reads_102 rfl (lv_at hl 0 rfl) ?_
            refine lv_bipush (v := 59) hx hb dX8_reads_103 (by decide) ?_
            refine g_vI C hK hl.1 (m_X8_sign l G aM ρ 59 _ h) mw_X8_sign mi_X8_sign ml_X8_164 rfl ⟨rfl, rfl, Nat.le_of_ble_eq_true rfl, Nat.le_of_ble_eq_true rfl⟩ ⟨Nat.zero_le _, Nat.zero_le _⟩ (g_recv (a := aM) (k := 0) hK hM rfl rfl) hM hS (fun _ h => h) rfl (Nat.le_of_ble_eq_true rfl) dX8_reads_105 (fun r12 u H locs h hu _ hq hS => ?_)
            obtain ⟨ρ13, rfl⟩ : ∃ z, z = u := ⟨_, rfl⟩
            have hM := hu
            refine lv_if_eq (tgt := 115) hx hb dX8_reads_108 (by decide) (fun c14 => ?_) (fun c14 => ?_)
            · replace h := h.1 c14
              refine lv_iconst (v := 0) hx hb dX8_reads_115 (by decide) ?_
              exact g_zret (post := Q) (P' := fun u H => rg G LM aM u H) (r := 0) (u := ρ13) C hr hK hS (by rfl) h hM dX8_reads_116
            · replace h := h.2 c14
              refine lv_iconst (v := 1) hx hb dX8_reads_111 (by decide) ?_
              refine lv_goto (tgt := 116) hx hb dX8_reads_112 (by decide) ?_
              exact g_zret (post := Q) (P' := fun u H => rg G LM aM u H) (r := 1) (u := ρ13) C hr hK hS (by rfl) h hM dX8_reads_116
        · replace h := h.2 c10
          refine lv_iload_n hx hb dX8_reads_65 rfl (lv_at hl 2 rfl) ?_
          refine lv_if_eq (tgt := 98) hx hb dX8_reads_66 (by decide) (fun c15 => ?_) (fun c15 => ?_)
          · replace h := h.1 c15
            refine lv_iload_n hx hb dX8_reads_98 rfl (lv_at hl 2 rfl) ?_
            refine lv_if_eq (tgt := 115) hx hb dX8_reads_99 (by decide) (fun c16 => ?_) (fun c16 => ?_)
            · replace h := h.1 c16
              refine lv_iconst (v := 0) hx hb dX8_reads_115 (by decide) ?_
              exact g_zret (post := Q) (P' := fun u H => rg G LM aM u H) (r := 0) (u := ρ) C hr hK hS (by rfl) h hM dX8_reads_116
            · replace h := h.2 c16
              refine lv_aload_n hx hb dX8_reads_102 rfl (lv_at hl 0 rfl) ?_
              refine lv_bipush (v := 59) hx hb dX8_reads_103 (by decide) ?_
              refine g_vI C hK hl.1 (m_X8_sign l G aM ρ 59 _ h) mw_X8_sign mi_X8_sign ml_X8_164 rfl ⟨rfl, rfl, Nat.le_of_ble_eq_true rfl, Nat.le_of_ble_eq_true rfl⟩ ⟨Nat.zero_le _, Nat.zero_le _⟩ (g_recv (a := aM) (k := 0) hK hM rfl rfl) hM hS (fun _ h => h) rfl (Nat.le_of_ble_eq_true rfl) dX8_reads_105 (fun r17 u H locs h hu _ hq hS => ?_)
              obtain ⟨ρ18, rfl⟩ : ∃ z, z = u := ⟨_, rfl⟩
              have hM := hu
              refine lv_if_eq (tgt := 115) hx hb dX8_reads_108 (by decide) (fun c19 => ?_) (fun c19 => ?_)
              · replace h := h.1 c19
                refine lv_iconst (v := 0) hx hb dX8_reads_115 (by decide) ?_
                exact g_zret (post := Q) (P' := fun u H => rg G LM aM u H) (r := 0) (u := ρ18) C hr hK hS (by rfl) h hM dX8_reads_116
              · replace h := h.2 c19
                refine lv_iconst (v := 1) hx hb dX8_reads_111 (by decide) ?_
                refine lv_goto (tgt := 116) hx hb dX8_reads_112 (by decide) ?_
                exact g_zret (post := Q) (P' := fun u H => rg G LM aM u H) (r := 1) (u := ρ18) C hr hK hS (by rfl) h hM dX8_reads_116
          · replace h := h.2 c15
            refine lv_aload_n hx hb dX8_reads_69 rfl (lv_at hl 0 rfl) ?_
            refine lv_bipush (v := 44) hx hb dX8_reads_70 (by decide) ?_
            refine g_vI C hK hl.1 (m_X8_sign l G aM ρ 44 _ h) mw_X8_sign mi_X8_sign ml_X8_164 rfl ⟨rfl, rfl, Nat.le_of_ble_eq_true rfl, Nat.le_of_ble_eq_true rfl⟩ ⟨Nat.zero_le _, Nat.zero_le _⟩ (g_recv (a := aM) (k := 0) hK hM rfl rfl) hM hS (fun _ h => h) rfl (Nat.le_of_ble_eq_true rfl) dX8_reads_72 (fun r20 u H locs h hu _ hq hS => ?_)
            obtain ⟨ρ21, rfl⟩ : ∃ z, z = u := ⟨_, rfl⟩
            have hM := hu
            refine lv_if_eq (tgt := 90) hx hb dX8_reads_75 (by decide) (fun c22 => ?_) (fun c22 => ?_)
            · replace h := h.1 c22
              refine lv_iconst (v := 0) hx hb dX8_reads_90 (by decide) ?_
              refine lv_istore_n (lv' := [(2, .int 0), (0, .ref (aM + 0)), (1, .int w1), (3, .int w3)]) hx hb dX8_reads_91 rfl hl (by decide) rfl (fun ls hl => ?_)
              obtain ⟨v23, ev23⟩ : ∃ y : Int32, y = w3 + 1 := ⟨_, rfl⟩
              specialize h v23 ev23
              refine lv_iinc (v := v23) (lv' := [(3, .int v23), (2, .int 0), (0, .ref (aM + 0)), (1, .int w1)]) hx hb dX8_reads_92 hl (k := 3) rfl (by rw [ev23]; rfl) (by decide) rfl (fun ls hl => ?_)
              refine lv_goto (tgt := 60) hx hb dX8_reads_95 (by decide) ?_
              exact (ih.2) ρ21 w1 0 v23 _ _ _ hM hS (lv_sub hl [2, 3, 1, 0] rfl) h
            · replace h := h.2 c22
              refine lv_aload_n hx hb dX8_reads_78 rfl (lv_at hl 0 rfl) ?_
              refine lv_iload_n hx hb dX8_reads_79 rfl (lv_at hl 3 rfl) ?_
              refine g_vI C hK hl.1 (m_X8_number l G aM ρ21 w3 _ h) mw_X8_number mi_X8_number ml_X8_161 rfl ⟨rfl, rfl, Nat.le_of_ble_eq_true rfl, Nat.le_of_ble_eq_true rfl⟩ ⟨Nat.zero_le _, Nat.zero_le _⟩ (g_recv (a := aM) (k := 0) hK hM rfl rfl) hM hS (fun _ h => h) rfl (Nat.le_of_ble_eq_true rfl) dX8_reads_80 (fun r24 u H locs h hu _ hq hS => ?_)
              obtain ⟨ρ25, rfl⟩ : ∃ z, z = u := ⟨_, rfl⟩
              have hM := hu
              refine lv_if_eq (tgt := 90) hx hb dX8_reads_83 (by decide) (fun c26 => ?_) (fun c26 => ?_)
              · replace h := h.1 c26
                refine lv_iconst (v := 0) hx hb dX8_reads_90 (by decide) ?_
                refine lv_istore_n (lv' := [(2, .int 0), (0, .ref (aM + 0)), (1, .int w1), (3, .int w3)]) hx hb dX8_reads_91 rfl hl (by decide) rfl (fun ls hl => ?_)
                obtain ⟨v27, ev27⟩ : ∃ y : Int32, y = w3 + 1 := ⟨_, rfl⟩
                specialize h v27 ev27
                refine lv_iinc (v := v27) (lv' := [(3, .int v27), (2, .int 0), (0, .ref (aM + 0)), (1, .int w1)]) hx hb dX8_reads_92 hl (k := 3) rfl (by rw [ev27]; rfl) (by decide) rfl (fun ls hl => ?_)
                refine lv_goto (tgt := 60) hx hb dX8_reads_95 (by decide) ?_
                exact (ih.2) ρ25 w1 0 v27 _ _ _ hM hS (lv_sub hl [2, 3, 1, 0] rfl) h
              · replace h := h.2 c26
                refine lv_iconst (v := 1) hx hb dX8_reads_86 (by decide) ?_
                refine lv_goto (tgt := 91) hx hb dX8_reads_87 (by decide) ?_
                refine lv_istore_n (lv' := [(2, .int 1), (0, .ref (aM + 0)), (1, .int w1), (3, .int w3)]) hx hb dX8_reads_91 rfl hl (by decide) rfl (fun ls hl => ?_)
                obtain ⟨v28, ev28⟩ : ∃ y : Int32, y = w3 + 1 := ⟨_, rfl⟩
                specialize h v28 ev28
                refine lv_iinc (v := v28) (lv' := [(3, .int v28), (2, .int 1), (0, .ref (aM + 0)), (1, .int w1)]) hx hb dX8_reads_92 hl (k := 3) rfl (by rw [ev28]; rfl) (by decide) rfl (fun ls hl => ?_)
                refine lv_goto (tgt := 60) hx hb dX8_reads_95 (by decide) ?_
                exact (ih.2) ρ25 w1 1 v28 _ _ _ hM hS (lv_sub hl [2, 3, 1, 0] rfl) h
  unfold vc_X8_reads at h
  obtain ⟨n, h⟩ := h
  refine lv_aload_n hx hb dX8_reads_0 rfl (lv_at hl 0 rfl) ?_
  refine lv_aload_n hx hb dX8_reads_1 rfl (lv_at hl 0 rfl) ?_
  refine lv_bipush (v := 33) hx hb dX8_reads_2 (by decide) ?_
  refine lv_bipush (v := 126) hx hb dX8_reads_4 (by decide) ?_
  refine g_vI C hK hl.1 (m_X8_isAt l G aM ρ 33 126 _ h) mw_X8_isAt mi_X8_isAt ml_X8_152 rfl ⟨rfl, rfl, Nat.le_of_ble_eq_true rfl, Nat.le_of_ble_eq_true rfl⟩ ⟨Nat.zero_le _, Nat.zero_le _⟩ (g_recv (a := aM) (k := 0) hK hM rfl rfl) hM hS (fun _ h => h.elim) rfl (Nat.le_of_ble_eq_true rfl) dX8_reads_6 (fun r1 u H locs h hu _ hq hS => ?_)
  have hM := hM.past hq (fun _ _ h => h)
  refine lv_if_eq (tgt := 24) hx hb dX8_reads_9 (by decide) (fun c2 => ?_) (fun c2 => ?_)
  · replace h := h.1 c2
    refine lv_iconst (v := 0) hx hb dX8_reads_24 (by decide) ?_
    exact ((K n).1) ρ 0 _ _ _ hM hS (lv_sub hl [0] rfl) h
  · replace h := h.2 c2
    refine lv_aload_n hx hb dX8_reads_12 rfl (lv_at hl 0 rfl) ?_
    refine g_getR (a := aM) (k := 0) (o := 5) C hK hM fl_X8_22 rfl rfl dX8_reads_13 ?_
    refine lv_aload_n hx hb dX8_reads_16 rfl (lv_at hl 0 rfl) ?_
    refine g_getI (a := aM) (k := 0) C hK hM fl_X8_149 rfl rfl dX8_reads_17 ?_
    obtain ⟨b3, h⟩ := h
    refine g_ald (a := aM) (k := 5) (n := 60) C hK hM rfl b3 dX8_reads_20 ?_
    refine lv_goto (tgt := 25) hx hb dX8_reads_21 (by decide) ?_
    exact ((K n).1) ρ (ρ 5 (ρ 0 10).toNatClampNeg) _ _ _ hM hS (lv_sub hl [0] rfl) h
theorem dX8_calls_0 : decode cX8_calls 0 = .ok (.aload_n 0, 1) := by decide +kernel
theorem dX8_calls_1 : decode cX8_calls 1 = .ok (.getfield 155, 3) := by decide +kernel
theorem dX8_calls_4 : decode cX8_calls 4 = .ok (.lookupswitch 155 #[(98, 138), (99, 121), (104, 104), (116, 52), (119, 81)], 52) := by decide +kernel
theorem dX8_calls_56 : decode cX8_calls 56 = .ok (.aload_n 0, 1) := by decide +kernel
theorem dX8_calls_57 : decode cX8_calls 57 = .ok (.aload_n 0, 1) := by decide +kernel
theorem dX8_calls_58 : decode cX8_calls 58 = .ok (.getfield 28, 3) := by decide +kernel
theorem dX8_calls_61 : decode cX8_calls 61 = .ok (.iconst 0, 1) := by decide +kernel
theorem dX8_calls_62 : decode cX8_calls 62 = .ok (.iaload, 1) := by decide +kernel
theorem dX8_calls_63 : decode cX8_calls 63 = .ok (.aload_n 0, 1) := by decide +kernel
theorem dX8_calls_64 : decode cX8_calls 64 = .ok (.getfield 28, 3) := by decide +kernel
theorem dX8_calls_67 : decode cX8_calls 67 = .ok (.iconst 1, 1) := by decide +kernel
theorem dX8_calls_68 : decode cX8_calls 68 = .ok (.iaload, 1) := by decide +kernel
theorem dX8_calls_69 : decode cX8_calls 69 = .ok (.aload_n 0, 1) := by decide +kernel
theorem dX8_calls_70 : decode cX8_calls 70 = .ok (.getfield 28, 3) := by decide +kernel
theorem dX8_calls_73 : decode cX8_calls 73 = .ok (.iconst 2, 1) := by decide +kernel
theorem dX8_calls_74 : decode cX8_calls 74 = .ok (.iaload, 1) := by decide +kernel
theorem dX8_calls_75 : decode cX8_calls 75 = .ok (.aload_n 0, 1) := by decide +kernel
theorem dX8_calls_76 : decode cX8_calls 76 = .ok (.getfield 28, 3) := by decide +kernel
theorem dX8_calls_79 : decode cX8_calls 79 = .ok (.iconst 3, 1) := by decide +kernel
theorem dX8_calls_80 : decode cX8_calls 80 = .ok (.iaload, 1) := by decide +kernel
theorem dX8_calls_81 : decode cX8_calls 81 = .ok (.invokevirtual 167, 3) := by decide +kernel
theorem dX8_calls_84 : decode cX8_calls 84 = .ok (.ireturn, 1) := by decide +kernel
theorem dX8_calls_85 : decode cX8_calls 85 = .ok (.aload_n 0, 1) := by decide +kernel
theorem dX8_calls_86 : decode cX8_calls 86 = .ok (.aload_n 0, 1) := by decide +kernel
theorem dX8_calls_87 : decode cX8_calls 87 = .ok (.getfield 28, 3) := by decide +kernel
theorem dX8_calls_90 : decode cX8_calls 90 = .ok (.iconst 0, 1) := by decide +kernel
theorem dX8_calls_91 : decode cX8_calls 91 = .ok (.iaload, 1) := by decide +kernel
theorem dX8_calls_92 : decode cX8_calls 92 = .ok (.aload_n 0, 1) := by decide +kernel
theorem dX8_calls_93 : decode cX8_calls 93 = .ok (.getfield 28, 3) := by decide +kernel
theorem dX8_calls_96 : decode cX8_calls 96 = .ok (.iconst 1, 1) := by decide +kernel
theorem dX8_calls_97 : decode cX8_calls 97 = .ok (.iaload, 1) := by decide +kernel
theorem dX8_calls_98 : decode cX8_calls 98 = .ok (.aload_n 0, 1) := by decide +kernel
theorem dX8_calls_99 : decode cX8_calls 99 = .ok (.getfield 28, 3) := by decide +kernel
theorem dX8_calls_102 : decode cX8_calls 102 = .ok (.iconst 2, 1) := by decide +kernel
theorem dX8_calls_103 : decode cX8_calls 103 = .ok (.iaload, 1) := by decide +kernel
theorem dX8_calls_104 : decode cX8_calls 104 = .ok (.invokevirtual 171, 3) := by decide +kernel
theorem dX8_calls_107 : decode cX8_calls 107 = .ok (.ireturn, 1) := by decide +kernel
theorem dX8_calls_108 : decode cX8_calls 108 = .ok (.aload_n 0, 1) := by decide +kernel
theorem dX8_calls_109 : decode cX8_calls 109 = .ok (.aload_n 0, 1) := by decide +kernel
theorem dX8_calls_110 : decode cX8_calls 110 = .ok (.getfield 28, 3) := by decide +kernel
theorem dX8_calls_113 : decode cX8_calls 113 = .ok (.iconst 0, 1) := by decide +kernel
theorem dX8_calls_114 : decode cX8_calls 114 = .ok (.iaload, 1) := by decide +kernel
theorem dX8_calls_115 : decode cX8_calls 115 = .ok (.aload_n 0, 1) := by decide +kernel
theorem dX8_calls_116 : decode cX8_calls 116 = .ok (.getfield 28, 3) := by decide +kernel
theorem dX8_calls_119 : decode cX8_calls 119 = .ok (.iconst 1, 1) := by decide +kernel
theorem dX8_calls_120 : decode cX8_calls 120 = .ok (.iaload, 1) := by decide +kernel
theorem dX8_calls_121 : decode cX8_calls 121 = .ok (.invokevirtual 175, 3) := by decide +kernel
theorem dX8_calls_124 : decode cX8_calls 124 = .ok (.ireturn, 1) := by decide +kernel
theorem dX8_calls_125 : decode cX8_calls 125 = .ok (.aload_n 0, 1) := by decide +kernel
theorem dX8_calls_126 : decode cX8_calls 126 = .ok (.aload_n 0, 1) := by decide +kernel
theorem dX8_calls_127 : decode cX8_calls 127 = .ok (.getfield 28, 3) := by decide +kernel
theorem dX8_calls_130 : decode cX8_calls 130 = .ok (.iconst 0, 1) := by decide +kernel
theorem dX8_calls_131 : decode cX8_calls 131 = .ok (.iaload, 1) := by decide +kernel
theorem dX8_calls_132 : decode cX8_calls 132 = .ok (.aload_n 0, 1) := by decide +kernel
theorem dX8_calls_133 : decode cX8_calls 133 = .ok (.getfield 28, 3) := by decide +kernel
theorem dX8_calls_136 : decode cX8_calls 136 = .ok (.iconst 1, 1) := by decide +kernel
theorem dX8_calls_137 : decode cX8_calls 137 = .ok (.iaload, 1) := by decide +kernel
theorem dX8_calls_138 : decode cX8_calls 138 = .ok (.invokevirtual 178, 3) := by decide +kernel
theorem dX8_calls_141 : decode cX8_calls 141 = .ok (.ireturn, 1) := by decide +kernel
theorem dX8_calls_142 : decode cX8_calls 142 = .ok (.aload_n 0, 1) := by decide +kernel
theorem dX8_calls_143 : decode cX8_calls 143 = .ok (.aload_n 0, 1) := by decide +kernel
theorem dX8_calls_144 : decode cX8_calls 144 = .ok (.getfield 28, 3) := by decide +kernel
theorem dX8_calls_147 : decode cX8_calls 147 = .ok (.iconst 0, 1) := by decide +kernel
theorem dX8_calls_148 : decode cX8_calls 148 = .ok (.iaload, 1) := by decide +kernel
theorem dX8_calls_149 : decode cX8_calls 149 = .ok (.aload_n 0, 1) := by decide +kernel
theorem dX8_calls_150 : decode cX8_calls 150 = .ok (.getfield 28, 3) := by decide +kernel
theorem dX8_calls_153 : decode cX8_calls 153 = .ok (.iconst 1, 1) := by decide +kernel
theorem dX8_calls_154 : decode cX8_calls 154 = .ok (.iaload, 1) := by decide +kernel
theorem dX8_calls_155 : decode cX8_calls 155 = .ok (.invokevirtual 181, 3) := by decide +kernel
theorem dX8_calls_158 : decode cX8_calls 158 = .ok (.ireturn, 1) := by decide +kernel
theorem dX8_calls_159 : decode cX8_calls 159 = .ok (.aload_n 0, 1) := by decide +kernel
theorem dX8_calls_160 : decode cX8_calls 160 = .ok (.aload_n 0, 1) := by decide +kernel
theorem dX8_calls_161 : decode cX8_calls 161 = .ok (.getfield 28, 3) := by decide +kernel
theorem dX8_calls_164 : decode cX8_calls 164 = .ok (.iconst 0, 1) := by decide +kernel
theorem dX8_calls_165 : decode cX8_calls 165 = .ok (.iaload, 1) := by decide +kernel
theorem dX8_calls_166 : decode cX8_calls 166 = .ok (.invokevirtual 184, 3) := by decide +kernel
theorem dX8_calls_169 : decode cX8_calls 169 = .ok (.ireturn, 1) := by decide +kernel
def vc_X8_calls (Q : Int32 → Mem → Prop) (ρ : Mem) : Prop :=
  (((ρ 0 15) = 98) → (((vc_X8_buy (fun r2 ρ3 => Q r2 ρ3) ρ (ρ 7 (0 : Int32).toNatClampNeg) (ρ 7 (1 : Int32).toNatClampNeg))))) ∧ ((¬ (ρ 0 15) = 98) → ((((ρ 0 15) = 99) → (((vc_X8_contract (fun r5 ρ6 => Q r5 ρ6) ρ (ρ 7 (0 : Int32).toNatClampNeg) (ρ 7 (1 : Int32).toNatClampNeg))))) ∧ ((¬ (ρ 0 15) = 99) → ((((ρ 0 15) = 104) → (((vc_X8_home (fun r8 ρ9 => Q r8 ρ9) ρ (ρ 7 (0 : Int32).toNatClampNeg) (ρ 7 (1 : Int32).toNatClampNeg))))) ∧ ((¬ (ρ 0 15) = 104) → ((((ρ 0 15) = 116) → (((((vc_X8_task (fun r11 ρ12 => Q r11 ρ12) ρ (ρ 7 (0 : Int32).toNatClampNeg) (ρ 7 (1 : Int32).toNatClampNeg) (ρ 7 (2 : Int32).toNatClampNeg) (ρ 7 (3 : Int32).toNatClampNeg))))))) ∧ ((¬ (ρ 0 15) = 116) → ((((ρ 0 15) = 119) → ((((vc_X8_put (fun r14 ρ15 => Q r14 ρ15) ρ (ρ 7 (0 : Int32).toNatClampNeg) (ρ 7 (1 : Int32).toNatClampNeg) (ρ 7 (2 : Int32).toNatClampNeg)))))) ∧ ((¬ (ρ 0 15) = 119) → ((vc_X8_pass (fun r16 ρ17 => Q r16 ρ17) ρ (ρ 7 (0 : Int32).toNatClampNeg))))))))))))
set_option maxHeartbeats 8000000 in
set_option maxRecDepth 100000 in
theorem m_X8_calls (l : Launch) (G : GG) (aM : Nat) (ρ : Mem) (Q : Int32 → Mem → Prop) (h : vc_X8_calls Q ρ) : CtI l yX8_calls cX8_calls 1 (some .int) { frames := 5, cells := 0, slots := 0, locals := 113 } [.ref (aM + 0)] G (fun H => rg G LM aM ρ H) (Q) (fun u H => rg G LM aM u H) (RA aM 8) := by
  unfold CtI
  refine met_start (y := yX8_calls) (maxL := 1) (av := [.ref (aM + 0)]) (G := G) (P := fun H => rg G LM aM ρ H) (by decide) rfl (Nat.le_of_ble_eq_true rfl) (fun p e s m below meth c ls C hr hP hK hl => ?_)
  obtain ⟨hx, hb, hml, hown, hts, hlocks⟩ := id C
  have hM : rg G LM aM ρ s.heap := hP
  have hS : va_S (RA aM 8) s.heap s.heap [] := va_S.rf
  have hl : lv_has ls 1 [(0, .ref (aM + 0))] := hl
  unfold vc_X8_calls at h
  refine lv_aload_n hx hb dX8_calls_0 rfl (lv_at hl 0 rfl) ?_
  refine g_getI (a := aM) (k := 0) C hK hM fl_X8_155 rfl rfl dX8_calls_1 ?_
  by_cases c1 : (ρ 0 15) = 98
  · replace h := h.1 c1
    refine lv_lookup (off := 138) (tgt := 142) hx hb dX8_calls_4 (by decide) (by rw [c1]; rfl) (by decide) ?_
    refine lv_aload_n hx hb dX8_calls_142 rfl (lv_at hl 0 rfl) ?_
    refine lv_aload_n hx hb dX8_calls_143 rfl (lv_at hl 0 rfl) ?_
    refine g_getR (a := aM) (k := 0) (o := 7) C hK hM fl_X8_28 rfl rfl dX8_calls_144 ?_
    refine lv_iconst (v := 0) hx hb dX8_calls_147 (by decide) ?_
    refine g_ald (a := aM) (k := 7) (n := 4) C hK hM rfl (vp_dec (by decide)) dX8_calls_148 ?_
    refine lv_aload_n hx hb dX8_calls_149 rfl (lv_at hl 0 rfl) ?_
    refine g_getR (a := aM) (k := 0) (o := 7) C hK hM fl_X8_28 rfl rfl dX8_calls_150 ?_
    refine lv_iconst (v := 1) hx hb dX8_calls_153 (by decide) ?_
    refine g_ald (a := aM) (k := 7) (n := 4) C hK hM rfl (vp_dec (by decide)) dX8_calls_154 ?_
    refine g_vI C hK hl.1 (m_X8_buy l G aM ρ (ρ 7 (0 : Int32).toNatClampNeg) (ρ 7 (1 : Int32).toNatClampNeg) _ h) mw_X8_buy mi_X8_buy ml_X8_181 rfl ⟨rfl, rfl, Nat.le_of_ble_eq_true rfl, Nat.le_of_ble_eq_true rfl⟩ ⟨Nat.zero_le _, Nat.zero_le _⟩ (g_recv (a := aM) (k := 0) hK hM rfl rfl) hM hS (fun _ h => h) rfl (Nat.le_of_ble_eq_true rfl) dX8_calls_155 (fun r2 u H locs h hu _ hq hS => ?_)
    obtain ⟨ρ3, rfl⟩ : ∃ z, z = u := ⟨_, rfl⟩
    have hM := hu
    exact g_iret (post := Q) (P' := fun u H => rg G LM aM u H) (r := r2) (u := ρ3) C hr hK hS h hM dX8_calls_158
  · replace h := h.2 c1
    by_cases c4 : (ρ 0 15) = 99
    · replace h := h.1 c4
      refine lv_lookup (off := 121) (tgt := 125) hx hb dX8_calls_4 (by decide) (by rw [c4]; rfl) (by decide) ?_
      refine lv_aload_n hx hb dX8_calls_125 rfl (lv_at hl 0 rfl) ?_
      refine lv_aload_n hx hb dX8_calls_126 rfl (lv_at hl 0 rfl) ?_
      refine g_getR (a := aM) (k := 0) (o := 7) C hK hM fl_X8_28 rfl rfl dX8_calls_127 ?_
      refine lv_iconst (v := 0) hx hb dX8_calls_130 (by decide) ?_
      refine g_ald (a := aM) (k := 7) (n := 4) C hK hM rfl (vp_dec (by decide)) dX8_calls_131 ?_
      refine lv_aload_n hx hb dX8_calls_132 rfl (lv_at hl 0 rfl) ?_
      refine g_getR (a := aM) (k := 0) (o := 7) C hK hM fl_X8_28 rfl rfl dX8_calls_133 ?_
      refine lv_iconst (v := 1) hx hb dX8_calls_136 (by decide) ?_
      refine g_ald (a := aM) (k := 7) (n := 4) C hK hM rfl (vp_dec (by decide)) dX8_calls_137 ?_
      refine g_vI C hK hl.1 (m_X8_contract l G aM ρ (ρ 7 (0 : Int32).toNatClampNeg) (ρ 7 (1 : Int32).toNatClampNeg) _ h) mw_X8_contract mi_X8_contract ml_X8_178 rfl ⟨rfl, rfl, Nat.le_of_ble_eq_true rfl, Nat.le_of_ble_eq_true rfl⟩ ⟨Nat.zero_le _, Nat.zero_le _⟩ (g_recv (a := aM) (k := 0) hK hM rfl rfl) hM hS (fun _ h => h) rfl (Nat.le_of_ble_eq_true rfl) dX8_calls_138 (fun r5 u H locs h hu _ hq hS => ?_)
      obtain ⟨ρ6, rfl⟩ : ∃ z, z = u := ⟨_, rfl⟩
      have hM := hu
      exact g_iret (post := Q) (P' := fun u H => rg G LM aM u H) (r := r5) (u := ρ6) C hr hK hS h hM dX8_calls_141
    · replace h := h.2 c4
      by_cases c7 : (ρ 0 15) = 104
      · replace h := h.1 c7
        refine lv_lookup (off := 104) (tgt := 108) hx hb dX8_calls_4 (by decide) (by rw [c7]; rfl) (by decide) ?_
        refine lv_aload_n hx hb dX8_calls_108 rfl (lv_at hl 0 rfl) ?_
        refine lv_aload_n hx hb dX8_calls_109 rfl (lv_at hl 0 rfl) ?_
        refine g_getR (a := aM) (k := 0) (o := 7) C hK hM fl_X8_28 rfl rfl dX8_calls_110 ?_
        refine lv_iconst (v := 0) hx hb dX8_calls_113 (by decide) ?_
        refine g_ald (a := aM) (k := 7) (n := 4) C hK hM rfl (vp_dec (by decide)) dX8_calls_114 ?_
        refine lv_aload_n hx hb dX8_calls_115 rfl (lv_at hl 0 rfl) ?_
        refine g_getR (a := aM) (k := 0) (o := 7) C hK hM fl_X8_28 rfl rfl dX8_calls_116 ?_
        refine lv_iconst (v := 1) hx hb dX8_calls_119 (by decide) ?_
        refine g_ald (a := aM) (k := 7) (n := 4) C hK hM rfl (vp_dec (by decide)) dX8_calls_120 ?_
        refine g_vI C hK hl.1 (m_X8_home l G aM ρ (ρ 7 (0 : Int32).toNatClampNeg) (ρ 7 (1 : Int32).toNatClampNeg) _ h) mw_X8_home mi_X8_home ml_X8_175 rfl ⟨rfl, rfl, Nat.le_of_ble_eq_true rfl, Nat.le_of_ble_eq_true rfl⟩ ⟨Nat.zero_le _, Nat.zero_le _⟩ (g_recv (a := aM) (k := 0) hK hM rfl rfl) hM hS (fun _ h => h) rfl (Nat.le_of_ble_eq_true rfl) dX8_calls_121 (fun r8 u H locs h hu _ hq hS => ?_)
        obtain ⟨ρ9, rfl⟩ : ∃ z, z = u := ⟨_, rfl⟩
        have hM := hu
        exact g_iret (post := Q) (P' := fun u H => rg G LM aM u H) (r := r8) (u := ρ9) C hr hK hS h hM dX8_calls_124
      · replace h := h.2 c7
        by_cases c10 : (ρ 0 15) = 116
        · replace h := h.1 c10
          refine lv_lookup (off := 52) (tgt := 56) hx hb dX8_calls_4 (by decide) (by rw [c10]; rfl) (by decide) ?_
          refine lv_aload_n hx hb dX8_calls_56 rfl (lv_at hl 0 rfl) ?_
          refine lv_aload_n hx hb dX8_calls_57 rfl (lv_at hl 0 rfl) ?_
          refine g_getR (a := aM) (k := 0) (o := 7) C hK hM fl_X8_28 rfl rfl dX8_calls_58 ?_
          refine lv_iconst (v := 0) hx hb dX8_calls_61 (by decide) ?_
          refine g_ald (a := aM) (k := 7) (n := 4) C hK hM rfl (vp_dec (by decide)) dX8_calls_62 ?_
          refine lv_aload_n hx hb dX8_calls_63 rfl (lv_at hl 0 rfl) ?_
          refine g_getR (a := aM) (k := 0) (o := 7) C hK hM fl_X8_28 rfl rfl dX8_calls_64 ?_
          refine lv_iconst (v := 1) hx hb dX8_calls_67 (by decide) ?_
          refine g_ald (a := aM) (k := 7) (n := 4) C hK hM rfl (vp_dec (by decide)) dX8_calls_68 ?_
          refine lv_aload_n hx hb dX8_calls_69 rfl (lv_at hl 0 rfl) ?_
          refine g_getR (a := aM) (k := 0) (o := 7) C hK hM fl_X8_28 rfl rfl dX8_calls_70 ?_
          refine lv_iconst (v := 2) hx hb dX8_calls_73 (by decide) ?_
          refine g_ald (a := aM) (k := 7) (n := 4) C hK hM rfl (vp_dec (by decide)) dX8_calls_74 ?_
          refine lv_aload_n hx hb dX8_calls_75 rfl (lv_at hl 0 rfl) ?_
          refine g_getR (a := aM) (k := 0) (o := 7) C hK hM fl_X8_28 rfl rfl dX8_calls_76 ?_
          refine lv_iconst (v := 3) hx hb dX8_calls_79 (by decide) ?_
          refine g_ald (a := aM) (k := 7) (n := 4) C hK hM rfl (vp_dec (by decide)) dX8_calls_80 ?_
          refine g_vI C hK hl.1 (m_X8_task l G aM ρ (ρ 7 (0 : Int32).toNatClampNeg) (ρ 7 (1 : Int32).toNatClampNeg) (ρ 7 (2 : Int32).toNatClampNeg) (ρ 7 (3 : Int32).toNatClampNeg) _ h) mw_X8_task mi_X8_task ml_X8_167 rfl ⟨rfl, rfl, Nat.le_of_ble_eq_true rfl, Nat.le_of_ble_eq_true rfl⟩ ⟨Nat.zero_le _, Nat.zero_le _⟩ (g_recv (a := aM) (k := 0) hK hM rfl rfl) hM hS (fun _ h => h) rfl (Nat.le_of_ble_eq_true rfl) dX8_calls_81 (fun r11 u H locs h hu _ hq hS => ?_)
          obtain ⟨ρ12, rfl⟩ : ∃ z, z = u := ⟨_, rfl⟩
          have hM := hu
          exact g_iret (post := Q) (P' := fun u H => rg G LM aM u H) (r := r11) (u := ρ12) C hr hK hS h hM dX8_calls_84
        · replace h := h.2 c10
          by_cases c13 : (ρ 0 15) = 119
          · replace h := h.1 c13
            refine lv_lookup (off := 81) (tgt := 85) hx hb dX8_calls_4 (by decide) (by rw [c13]; rfl) (by decide) ?_
            refine lv_aload_n hx hb dX8_calls_85 rfl (lv_at hl 0 rfl) ?_
            refine lv_aload_n hx hb dX8_calls_86 rfl (lv_at hl 0 rfl) ?_
            refine g_getR (a := aM) (k := 0) (o := 7) C hK hM fl_X8_28 rfl rfl dX8_calls_87 ?_
            refine lv_iconst (v := 0) hx hb dX8_calls_90 (by decide) ?_
            refine g_ald (a := aM) (k := 7) (n := 4) C hK hM rfl (vp_dec (by decide)) dX8_calls_91 ?_
            refine lv_aload_n hx hb dX8_calls_92 rfl (lv_at hl 0 rfl) ?_
            refine g_getR (a := aM) (k := 0) (o := 7) C hK hM fl_X8_28 rfl rfl dX8_calls_93 ?_
            refine lv_iconst (v := 1) hx hb dX8_calls_96 (by decide) ?_
            refine g_ald (a := aM) (k := 7) (n := 4) C hK hM rfl (vp_dec (by decide)) dX8_calls_97 ?_
            refine lv_aload_n hx hb dX8_calls_98 rfl (lv_at hl 0 rfl) ?_
            refine g_getR (a := aM) (k := 0) (o := 7) C hK hM fl_X8_28 rfl rfl dX8_calls_99 ?_
            refine lv_iconst (v := 2) hx hb dX8_calls_102 (by decide) ?_
            refine g_ald (a := aM) (k := 7) (n := 4) C hK hM rfl (vp_dec (by decide)) dX8_calls_103 ?_
            refine g_vI C hK hl.1 (m_X8_put l G aM ρ (ρ 7 (0 : Int32).toNatClampNeg) (ρ 7 (1 : Int32).toNatClampNeg) (ρ 7 (2 : Int32).toNatClampNeg) _ h) mw_X8_put mi_X8_put ml_X8_171 rfl ⟨rfl, rfl, Nat.le_of_ble_eq_true rfl, Nat.le_of_ble_eq_true rfl⟩ ⟨Nat.zero_le _, Nat.zero_le _⟩ (g_recv (a := aM) (k := 0) hK hM rfl rfl) hM hS (fun _ h => h) rfl (Nat.le_of_ble_eq_true rfl) dX8_calls_104 (fun r14 u H locs h hu _ hq hS => ?_)
            obtain ⟨ρ15, rfl⟩ : ∃ z, z = u := ⟨_, rfl⟩
            have hM := hu
            exact g_iret (post := Q) (P' := fun u H => rg G LM aM u H) (r := r14) (u := ρ15) C hr hK hS h hM dX8_calls_107
          · replace h := h.2 c13
            refine lv_lookup (off := 155) (tgt := 159) hx hb dX8_calls_4 (by decide) (by simp only [List.toList_toArray]; rw [lv_osw c1 (by rfl), lv_osw c4 (by rfl), lv_osw c7 (by rfl), lv_osw c10 (by rfl), lv_osw c13 (by rfl)]; rfl) (by decide) ?_
            refine lv_aload_n hx hb dX8_calls_159 rfl (lv_at hl 0 rfl) ?_
            refine lv_aload_n hx hb dX8_calls_160 rfl (lv_at hl 0 rfl) ?_
            refine g_getR (a := aM) (k := 0) (o := 7) C hK hM fl_X8_28 rfl rfl dX8_calls_161 ?_
            refine lv_iconst (v := 0) hx hb dX8_calls_164 (by decide) ?_
            refine g_ald (a := aM) (k := 7) (n := 4) C hK hM rfl (vp_dec (by decide)) dX8_calls_165 ?_
            refine g_vI C hK hl.1 (m_X8_pass l G aM ρ (ρ 7 (0 : Int32).toNatClampNeg) _ h) mw_X8_pass mi_X8_pass ml_X8_184 rfl ⟨rfl, rfl, Nat.le_of_ble_eq_true rfl, Nat.le_of_ble_eq_true rfl⟩ ⟨Nat.zero_le _, Nat.zero_le _⟩ (g_recv (a := aM) (k := 0) hK hM rfl rfl) hM hS (fun _ h => h) rfl (Nat.le_of_ble_eq_true rfl) dX8_calls_166 (fun r16 u H locs h hu _ hq hS => ?_)
            obtain ⟨ρ17, rfl⟩ : ∃ z, z = u := ⟨_, rfl⟩
            have hM := hu
            exact g_iret (post := Q) (P' := fun u H => rg G LM aM u H) (r := r16) (u := ρ17) C hr hK hS h hM dX8_calls_169
theorem dX8_plays_0 : decode cX8_plays 0 = .ok (.aload_n 0, 1) := by decide +kernel
theorem dX8_plays_1 : decode cX8_plays 1 = .ok (.iconst 1, 1) := by decide +kernel
theorem dX8_plays_2 : decode cX8_plays 2 = .ok (.putfield 35, 3) := by decide +kernel
theorem dX8_plays_5 : decode cX8_plays 5 = .ok (.aload_n 0, 1) := by decide +kernel
theorem dX8_plays_6 : decode cX8_plays 6 = .ok (.iconst 0, 1) := by decide +kernel
theorem dX8_plays_7 : decode cX8_plays 7 = .ok (.putfield 149, 3) := by decide +kernel
theorem dX8_plays_10 : decode cX8_plays 10 = .ok (.aload_n 0, 1) := by decide +kernel
theorem dX8_plays_11 : decode cX8_plays 11 = .ok (.iconst 0, 1) := by decide +kernel
theorem dX8_plays_12 : decode cX8_plays 12 = .ok (.putfield 187, 3) := by decide +kernel
theorem dX8_plays_15 : decode cX8_plays 15 = .ok (.aload_n 0, 1) := by decide +kernel
theorem dX8_plays_16 : decode cX8_plays 16 = .ok (.iconst 0, 1) := by decide +kernel
theorem dX8_plays_17 : decode cX8_plays 17 = .ok (.putfield 190, 3) := by decide +kernel
theorem dX8_plays_20 : decode cX8_plays 20 = .ok (.iconst 1, 1) := by decide +kernel
theorem dX8_plays_21 : decode cX8_plays 21 = .ok (.istore_n 1, 1) := by decide +kernel
theorem dX8_plays_22 : decode cX8_plays 22 = .ok (.aload_n 0, 1) := by decide +kernel
theorem dX8_plays_23 : decode cX8_plays 23 = .ok (.getfield 149, 3) := by decide +kernel
theorem dX8_plays_26 : decode cX8_plays 26 = .ok (.aload_n 0, 1) := by decide +kernel
theorem dX8_plays_27 : decode cX8_plays 27 = .ok (.getfield 146, 3) := by decide +kernel
theorem dX8_plays_30 : decode cX8_plays 30 = .ok (.if_icmp .ge 94, 3) := by decide +kernel
theorem dX8_plays_33 : decode cX8_plays 33 = .ok (.iload_n 1, 1) := by decide +kernel
theorem dX8_plays_34 : decode cX8_plays 34 = .ok (.ifCond .eq 90, 3) := by decide +kernel
theorem dX8_plays_37 : decode cX8_plays 37 = .ok (.aload_n 0, 1) := by decide +kernel
theorem dX8_plays_38 : decode cX8_plays 38 = .ok (.aload_n 0, 1) := by decide +kernel
theorem dX8_plays_39 : decode cX8_plays 39 = .ok (.getfield 149, 3) := by decide +kernel
theorem dX8_plays_42 : decode cX8_plays 42 = .ok (.putfield 187, 3) := by decide +kernel
theorem dX8_plays_45 : decode cX8_plays 45 = .ok (.aload_n 0, 1) := by decide +kernel
theorem dX8_plays_46 : decode cX8_plays 46 = .ok (.invokevirtual 193, 3) := by decide +kernel
theorem dX8_plays_49 : decode cX8_plays 49 = .ok (.istore_n 2, 1) := by decide +kernel
theorem dX8_plays_50 : decode cX8_plays 50 = .ok (.iload_n 2, 1) := by decide +kernel
theorem dX8_plays_51 : decode cX8_plays 51 = .ok (.ifCond .eq 10, 3) := by decide +kernel
theorem dX8_plays_54 : decode cX8_plays 54 = .ok (.aload_n 0, 1) := by decide +kernel
theorem dX8_plays_55 : decode cX8_plays 55 = .ok (.invokevirtual 196, 3) := by decide +kernel
theorem dX8_plays_58 : decode cX8_plays 58 = .ok (.goto 4, 3) := by decide +kernel
theorem dX8_plays_61 : decode cX8_plays 61 = .ok (.iconst 0, 1) := by decide +kernel
theorem dX8_plays_62 : decode cX8_plays 62 = .ok (.istore_n 3, 1) := by decide +kernel
theorem dX8_plays_63 : decode cX8_plays 63 = .ok (.iload_n 2, 1) := by decide +kernel
theorem dX8_plays_64 : decode cX8_plays 64 = .ok (.ifCond .eq 11, 3) := by decide +kernel
theorem dX8_plays_67 : decode cX8_plays 67 = .ok (.iload_n 3, 1) := by decide +kernel
theorem dX8_plays_68 : decode cX8_plays 68 = .ok (.ifCond .lt 7, 3) := by decide +kernel
theorem dX8_plays_71 : decode cX8_plays 71 = .ok (.iconst 1, 1) := by decide +kernel
theorem dX8_plays_72 : decode cX8_plays 72 = .ok (.goto 4, 3) := by decide +kernel
theorem dX8_plays_75 : decode cX8_plays 75 = .ok (.iconst 0, 1) := by decide +kernel
theorem dX8_plays_76 : decode cX8_plays 76 = .ok (.istore_n 1, 1) := by decide +kernel
theorem dX8_plays_77 : decode cX8_plays 77 = .ok (.aload_n 0, 1) := by decide +kernel
theorem dX8_plays_78 : decode cX8_plays 78 = .ok (.iload_n 2, 1) := by decide +kernel
theorem dX8_plays_79 : decode cX8_plays 79 = .ok (.ifCond .eq 7, 3) := by decide +kernel
theorem dX8_plays_82 : decode cX8_plays 82 = .ok (.iconst 2, 1) := by decide +kernel
theorem dX8_plays_83 : decode cX8_plays 83 = .ok (.goto 4, 3) := by decide +kernel
theorem dX8_plays_86 : decode cX8_plays 86 = .ok (.iconst 1, 1) := by decide +kernel
theorem dX8_plays_87 : decode cX8_plays 87 = .ok (.putfield 199, 3) := by decide +kernel
theorem dX8_plays_90 : decode cX8_plays 90 = .ok (.aload_n 0, 1) := by decide +kernel
theorem dX8_plays_91 : decode cX8_plays 91 = .ok (.iload_n 2, 1) := by decide +kernel
theorem dX8_plays_92 : decode cX8_plays 92 = .ok (.ifCond .eq 7, 3) := by decide +kernel
theorem dX8_plays_95 : decode cX8_plays 95 = .ok (.iload_n 3, 1) := by decide +kernel
theorem dX8_plays_96 : decode cX8_plays 96 = .ok (.goto 12, 3) := by decide +kernel
theorem dX8_plays_99 : decode cX8_plays 99 = .ok (.aload_n 0, 1) := by decide +kernel
theorem dX8_plays_100 : decode cX8_plays 100 = .ok (.getfield 149, 3) := by decide +kernel
theorem dX8_plays_103 : decode cX8_plays 103 = .ok (.aload_n 0, 1) := by decide +kernel
theorem dX8_plays_104 : decode cX8_plays 104 = .ok (.getfield 187, 3) := by decide +kernel
theorem dX8_plays_107 : decode cX8_plays 107 = .ok (.isub, 1) := by decide +kernel
theorem dX8_plays_108 : decode cX8_plays 108 = .ok (.putfield 202, 3) := by decide +kernel
theorem dX8_plays_111 : decode cX8_plays 111 = .ok (.aload_n 0, 1) := by decide +kernel
theorem dX8_plays_112 : decode cX8_plays 112 = .ok (.dup, 1) := by decide +kernel
theorem dX8_plays_113 : decode cX8_plays 113 = .ok (.getfield 190, 3) := by decide +kernel
theorem dX8_plays_116 : decode cX8_plays 116 = .ok (.iconst 1, 1) := by decide +kernel
theorem dX8_plays_117 : decode cX8_plays 117 = .ok (.iadd, 1) := by decide +kernel
theorem dX8_plays_118 : decode cX8_plays 118 = .ok (.putfield 190, 3) := by decide +kernel
theorem dX8_plays_121 : decode cX8_plays 121 = .ok (.goto (-99), 3) := by decide +kernel
theorem dX8_plays_124 : decode cX8_plays 124 = .ok (.aload_n 0, 1) := by decide +kernel
theorem dX8_plays_125 : decode cX8_plays 125 = .ok (.iconst 0, 1) := by decide +kernel
theorem dX8_plays_126 : decode cX8_plays 126 = .ok (.putfield 35, 3) := by decide +kernel
theorem dX8_plays_129 : decode cX8_plays 129 = .ok (.iload_n 1, 1) := by decide +kernel
theorem dX8_plays_130 : decode cX8_plays 130 = .ok (.ireturn, 1) := by decide +kernel
def vb_X8_plays_22 (Q : Int32 → Mem → Prop) (rec : Nat → Mem → Int32 → Int32 → Int32 → Int32 → Prop) (ρ : Mem) (w1 : Int32) : Prop :=
  (((ρ 0 7) ≤ (ρ 0 10)) → (∀ ρ6 : Mem, ρ6 = up ρ 0 5 0 → (narrow .boolean (.int w1) = .int w1 ∧ Q w1 ρ6))) ∧ ((¬ (ρ 0 7) ≤ (ρ 0 10)) → (((w1 = 0) → (∀ ρ8 : Mem, ρ8 = up ρ 0 5 0 → (narrow .boolean (.int w1) = .int w1 ∧ Q w1 ρ8))) ∧ ((¬ w1 = 0) → (∀ ρ9 : Mem, ρ9 = up ρ 0 11 (ρ 0 10) → (vc_X8_reads (fun r10 ρ11 => ((r10 = 0) → (rec 1 ρ11 r10 0 0 0)) ∧ ((¬ r10 = 0) → (vc_X8_calls (fun r13 ρ14 => rec 1 ρ14 r10 r13 0 0) ρ11))) ρ9)))))
def vb_X8_plays_62 (Q : Int32 → Mem → Prop) (rec : Nat → Mem → Int32 → Int32 → Int32 → Int32 → Prop) (ρ : Mem) (w2 : Int32) (z0 : Int32) : Prop :=
  ((w2 = 0) → (((w2 = 0) → (rec 2 ρ 0 w2 z0 1)) ∧ ((¬ w2 = 0) → (rec 2 ρ 0 w2 z0 2)))) ∧ ((¬ w2 = 0) → (((z0 < 0) → (((w2 = 0) → (rec 2 ρ 0 w2 z0 1)) ∧ ((¬ w2 = 0) → (rec 2 ρ 0 w2 z0 2)))) ∧ ((¬ z0 < 0) → (((w2 = 0) → (rec 2 ρ 1 w2 z0 1)) ∧ ((¬ w2 = 0) → (rec 2 ρ 1 w2 z0 2))))))
def vb_X8_plays_87 (Q : Int32 → Mem → Prop) (rec : Nat → Mem → Int32 → Int32 → Int32 → Int32 → Prop) (ρ : Mem) (w1 : Int32) (w2 : Int32) (w3 : Int32) (z1 : Int32) : Prop :=
  ∀ ρ20 : Mem, ρ20 = up ρ 0 12 z1 → (((w2 = 0) → (∀ ρ22 : Mem, ρ22 = up ρ20 0 13 ((ρ20 0 10) - (ρ20 0 11)) → (∀ ρ23 : Mem, ρ23 = up ρ22 0 14 ((ρ22 0 14) + 1) → (rec 0 ρ23 w1 0 0 0)))) ∧ ((¬ w2 = 0) → (∀ ρ24 : Mem, ρ24 = up ρ20 0 13 w3 → (∀ ρ25 : Mem, ρ25 = up ρ24 0 14 ((ρ24 0 14) + 1) → (rec 0 ρ25 w1 0 0 0)))))
def vl_X8_plays (Q : Int32 → Mem → Prop) : Nat → Nat → Mem → Int32 → Int32 → Int32 → Int32 → Prop
  | 0, _, _, _, _, _, _ => False
  | n + 1, 0, ρ, w1, _, _, _ => vb_X8_plays_22 Q (vl_X8_plays Q n) ρ w1
  | n + 1, 1, ρ, w2, z0, _, _ => vb_X8_plays_62 Q (vl_X8_plays Q n) ρ w2 z0
  | n + 1, 2, ρ, w1, w2, w3, z1 => vb_X8_plays_87 Q (vl_X8_plays Q n) ρ w1 w2 w3 z1
  | _ + 1, _, _, _, _, _, _ => False
def vc_X8_plays (Q : Int32 → Mem → Prop) (ρ : Mem) : Prop :=
  ∃ n : Nat, ∀ ρ1 : Mem, ρ1 = up ρ 0 5 1 → (∀ ρ2 : Mem, ρ2 = up ρ1 0 10 0 → (∀ ρ3 : Mem, ρ3 = up ρ2 0 11 0 → (∀ ρ4 : Mem, ρ4 = up ρ3 0 14 0 → (vl_X8_plays Q n 0 ρ4 1 0 0 0))))
set_option maxHeartbeats 8000000 in
set_option maxRecDepth 100000 in
theorem m_X8_plays (l : Launch) (G : GG) (aM : Nat) (ρ : Mem) (Q : Int32 → Mem → Prop) (h : vc_X8_plays Q ρ) : CtI l yX8_plays cX8_plays 4 (some .boolean) { frames := 6, cells := 0, slots := 0, locals := 133 } [.ref (aM + 0)] G (fun H => rg G LM aM ρ H) (Q) (fun u H => rg G LM aM u H) (RA aM 8) := by
  unfold CtI
  refine met_start (y := yX8_plays) (maxL := 4) (av := [.ref (aM + 0)]) (G := G) (P := fun H => rg G LM aM ρ H) (by decide) rfl (Nat.le_of_ble_eq_true rfl) (fun p e s m below meth c ls C hr hP hK hl => ?_)
  obtain ⟨hx, hb, hml, hown, hts, hlocks⟩ := id C
  have hM : rg G LM aM ρ s.heap := hP
  have hS : va_S (RA aM 8) s.heap s.heap [] := va_S.rf
  have hl : lv_has ls 4 [(0, .ref (aM + 0))] := hl
  have K : ∀ n : Nat, (∀ (ρ : Mem) (w1 : Int32) (H : Heap) (locs : List Loc) (ls : Array Slot), rg G LM aM ρ H → va_S (RA aM 8) s.heap H locs → lv_has ls 4 [(0, .ref (aM + 0)), (1, .int w1)] → vl_X8_plays Q n 0 ρ w1 0 0 0 → W p l e { frames := 6, cells := 0, slots := 0, locals := 133 } s m [.ref (aM + 0)].toArray below meth c H locs 0 0 (MQ below (va_Qi (Q) (fun u t => (fun u H => rg G LM aM u H) u t.heap ∧ KK G t) (RA aM 8)) [.ref (aM + 0)].toArray s 0 0 (RA aM 8)) (F0 m 22 ls [])) ∧ (∀ (ρ : Mem) (w2 : Int32) (z0 : Int32) (H : Heap) (locs : List Loc) (ls : Array Slot), rg G LM aM ρ H → va_S (RA aM 8) s.heap H locs → lv_has ls 4 [(0, .ref (aM + 0)), (2, .int w2)] → vl_X8_plays Q n 1 ρ w2 z0 0 0 → W p l e { frames := 6, cells := 0, slots := 0, locals := 133 } s m [.ref (aM + 0)].toArray below meth c H locs 0 0 (MQ below (va_Qi (Q) (fun u t => (fun u H => rg G LM aM u H) u t.heap ∧ KK G t) (RA aM 8)) [.ref (aM + 0)].toArray s 0 0 (RA aM 8)) (F0 m 62 ls [.int z0])) ∧ (∀ (ρ : Mem) (w1 : Int32) (w2 : Int32) (w3 : Int32) (z1 : Int32) (H : Heap) (locs : List Loc) (ls : Array Slot), rg G LM aM ρ H → va_S (RA aM 8) s.heap H locs → lv_has ls 4 [(0, .ref (aM + 0)), (1, .int w1), (2, .int w2), (3, .int w3)] → vl_X8_plays Q n 2 ρ w1 w2 w3 z1 → W p l e { frames := 6, cells := 0, slots := 0, locals := 133 } s m [.ref (aM + 0)].toArray below meth c H locs 0 0 (MQ below (va_Qi (Q) (fun u t => (fun u H => rg G LM aM u H) u t.heap ∧ KK G t) (RA aM 8)) [.ref (aM + 0)].toArray s 0 0 (RA aM 8)) (F0 m 87 ls [.int z1, .ref (aM + 0)])) := by
    intro n
    induction n with
    | zero => exact ⟨fun _ _ _ _ _ _ _ _ h => h.elim, fun _ _ _ _ _ _ _ _ _ h => h.elim, fun _ _ _ _ _ _ _ _ _ _ _ h => h.elim⟩
    | succ n ih =>
      refine ⟨?_, ?_, ?_⟩
      · intro ρ w1 H locs ls hM hS hl h
        replace h : vb_X8_plays_22 Q (vl_X8_plays Q n) ρ w1 := h
        unfold vb_X8_plays_22 at h
        refine lv_aload_n hx hb dX8_plays_22 rfl (lv_at hl 0 rfl) ?_
        refine g_getI (a := aM) (k := 0) C hK hM fl_X8_149 rfl rfl dX8_plays_23 ?_
        refine lv_aload_n hx hb dX8_plays_26 rfl (lv_at hl 0 rfl) ?_
        refine g_getI (a := aM) (k := 0) C hK hM fl_X8_146 rfl rfl dX8_plays_27 ?_
        refine lv_icmp_ge (tgt := 124) hx hb dX8_plays_30 (by decide) (fun c5 => ?_) (fun c5 => ?_)
        · replace h := h.1 c5
          refine lv_aload_n hx hb dX8_plays_124 rfl (lv_at hl 0 rfl) ?_
          refine lv_iconst (v := 0) hx hb dX8_plays_125 (by decide) ?_
          refine g_put (a := aM) (k := 0) C hK hM hS fl_X8_35 fp_X8_5 rfl rfl (by rfl) (by rfl) (RA_in (by decide)) dX8_plays_126 (fun ρ6 H locs eρ6 hM hS hq => ?_)
          specialize h ρ6 eρ6
          refine lv_iload_n hx hb dX8_plays_129 rfl (lv_at hl 1 rfl) ?_
          exact g_zret (post := Q) (P' := fun u H => rg G LM aM u H) (r := w1) (u := ρ6) C hr hK hS h.1 h.2 hM dX8_plays_130
        · replace h := h.2 c5
          refine lv_iload_n hx hb dX8_plays_33 rfl (lv_at hl 1 rfl) ?_
          refine lv_if_eq (tgt := 124) hx hb dX8_plays_34 (by decide) (fun c7 => ?_) (fun c7 => ?_)
          · replace h := h.1 c7
            refine lv_aload_n hx hb dX8_plays_124 rfl (lv_at hl 0 rfl) ?_
            refine lv_iconst (v := 0) hx hb dX8_plays_125 (by decide) ?_
            refine g_put (a := aM) (k := 0) C hK hM hS fl_X8_35 fp_X8_5 rfl rfl (by rfl) (by rfl) (RA_in (by decide)) dX8_plays_126 (fun ρ8 H locs eρ8 hM hS hq => ?_)
            specialize h ρ8 eρ8
            refine lv_iload_n hx hb dX8_plays_129 rfl (lv_at hl 1 rfl) ?_
            exact g_zret (post := Q) (P' := fun u H => rg G LM aM u H) (r := w1) (u := ρ8) C hr hK hS h.1 h.2 hM dX8_plays_130
          · replace h := h.2 c7
            refine lv_aload_n hx hb dX8_plays_37 rfl (lv_at hl 0 rfl) ?_
            refine lv_aload_n hx hb dX8_plays_38 rfl (lv_at hl 0 rfl) ?_
            refine g_getI (a := aM) (k := 0) C hK hM fl_X8_149 rfl rfl dX8_plays_39 ?_
            refine g_put (a := aM) (k := 0) C hK hM hS fl_X8_187 fp_X8_11 rfl rfl (by rfl) (by rfl) (RA_in (by decide)) dX8_plays_42 (fun ρ9 H locs eρ9 hM hS hq => ?_)
            specialize h ρ9 eρ9
            refine lv_aload_n hx hb dX8_plays_45 rfl (lv_at hl 0 rfl) ?_
            refine g_vI C hK hl.1 (m_X8_reads l G aM ρ9 _ h) mw_X8_reads mi_X8_reads ml_X8_193 rfl ⟨rfl, rfl, Nat.le_of_ble_eq_true rfl, Nat.le_of_ble_eq_true rfl⟩ ⟨Nat.zero_le _, Nat.zero_le _⟩ (g_recv (a := aM) (k := 0) hK hM rfl rfl) hM hS (fun _ h => h) rfl (Nat.le_of_ble_eq_true rfl) dX8_plays_46 (fun r10 u H locs h hu _ hq hS => ?_)
            obtain ⟨ρ11, rfl⟩ : ∃ z, z = u := ⟨_, rfl⟩
            have hM := hu
            refine lv_istore_n (lv' := [(2, .int r10), (0, .ref (aM + 0)), (1, .int w1)]) hx hb dX8_plays_49 rfl hl (by decide) rfl (fun ls hl => ?_)
            refine lv_iload_n hx hb dX8_plays_50 rfl (lv_at hl 0 rfl) ?_
            refine lv_if_eq (tgt := 61) hx hb dX8_plays_51 (by decide) (fun c12 => ?_) (fun c12 => ?_)
            · replace h := h.1 c12
              refine lv_iconst (v := 0) hx hb dX8_plays_61 (by decide) ?_
              exact (ih.2.1) ρ11 r10 0 _ _ _ hM hS (lv_sub hl [1, 0] rfl) h
            · replace h := h.2 c12
              refine lv_aload_n hx hb dX8_plays_54 rfl (lv_at hl 1 rfl) ?_
              refine g_vI C hK hl.1 (m_X8_calls l G aM ρ11 _ h) mw_X8_calls mi_X8_calls ml_X8_196 rfl ⟨rfl, rfl, Nat.le_of_ble_eq_true rfl, Nat.le_of_ble_eq_true rfl⟩ ⟨Nat.zero_le _, Nat.zero_le _⟩ (g_recv (a := aM) (k := 0) hK hM rfl rfl) hM hS (fun _ h => h) rfl (Nat.le_of_ble_eq_true rfl) dX8_plays_55 (fun r13 u H locs h hu _ hq hS => ?_)
              obtain ⟨ρ14, rfl⟩ : ∃ z, z = u := ⟨_, rfl⟩
              have hM := hu
              refine lv_goto (tgt := 62) hx hb dX8_plays_58 (by decide) ?_
              exact (ih.2.1) ρ14 r10 r13 _ _ _ hM hS (lv_sub hl [1, 0] rfl) h
      · intro ρ w2 z0 H locs ls hM hS hl h
        replace h : vb_X8_plays_62 Q (vl_X8_plays Q n) ρ w2 z0 := h
        unfold vb_X8_plays_62 at h
        refine lv_istore_n (lv' := [(3, .int z0), (0, .ref (aM + 0)), (2, .int w2)]) hx hb dX8_plays_62 rfl hl (by decide) rfl (fun ls hl => ?_)
        refine lv_iload_n hx hb dX8_plays_63 rfl (lv_at hl 2 rfl) ?_
        refine lv_if_eq (tgt := 75) hx hb dX8_plays_64 (by decide) (fun c15 => ?_) (fun c15 => ?_)
        · replace h := h.1 c15
          refine lv_iconst (v := 0) hx hb dX8_plays_75 (by decide) ?_
          refine lv_istore_n (lv' := [(1, .int 0), (3, .int z0), (0, .ref (aM + 0)), (2, .int w2)]) hx hb dX8_plays_76 rfl hl (by decide) rfl (fun ls hl => ?_)
          refine lv_aload_n hx hb dX8_plays_77 rfl (lv_at hl 2 rfl) ?_
          refine lv_iload_n hx hb dX8_plays_78 rfl (lv_at hl 3 rfl) ?_
          refine lv_if_eq (tgt := 86) hx hb dX8_plays_79 (by decide) (fun c16 => ?_) (fun c16 => ?_)
          · replace h := h.1 c16
            refine lv_iconst (v := 1) hx hb dX8_plays_86 (by decide) ?_
            exact (ih.2.2) ρ 0 w2 z0 1 _ _ _ hM hS (lv_sub hl [2, 0, 3, 1] rfl) h
          · replace h := h.2 c16
            refine lv_iconst (v := 2) hx hb dX8_plays_82 (by decide) ?_
            refine lv_goto (tgt := 87) hx hb dX8_plays_83 (by decide) ?_
            exact (ih.2.2) ρ 0 w2 z0 2 _ _ _ hM hS (lv_sub hl [2, 0, 3, 1] rfl) h
        · replace h := h.2 c15
          refine lv_iload_n hx hb dX8_plays_67 rfl (lv_at hl 0 rfl) ?_
          refine lv_if_lt (tgt := 75) hx hb dX8_plays_68 (by decide) (fun c17 => ?_) (fun c17 => ?_)
          · replace h := h.1 c17
            refine lv_iconst (v := 0) hx hb dX8_plays_75 (by decide) ?_
            refine lv_istore_n (lv' := [(1, .int 0), (3, .int z0), (0, .ref (aM + 0)), (2, .int w2)]) hx hb dX8_plays_76 rfl hl (by decide) rfl (fun ls hl => ?_)
            refine lv_aload_n hx hb dX8_plays_77 rfl (lv_at hl 2 rfl) ?_
            refine lv_iload_n hx hb dX8_plays_78 rfl (lv_at hl 3 rfl) ?_
            refine lv_if_eq (tgt := 86) hx hb dX8_plays_79 (by decide) (fun c18 => ?_) (fun c18 => ?_)
            · replace h := h.1 c18
              refine lv_iconst (v := 1) hx hb dX8_plays_86 (by decide) ?_
              exact (ih.2.2) ρ 0 w2 z0 1 _ _ _ hM hS (lv_sub hl [2, 0, 3, 1] rfl) h
            · replace h := h.2 c18
              refine lv_iconst (v := 2) hx hb dX8_plays_82 (by decide) ?_
              refine lv_goto (tgt := 87) hx hb dX8_plays_83 (by decide) ?_
              exact (ih.2.2) ρ 0 w2 z0 2 _ _ _ hM hS (lv_sub hl [2, 0, 3, 1] rfl) h
          · replace h := h.2 c17
            refine lv_iconst (v := 1) hx hb dX8_plays_71 (by decide) ?_
            refine lv_goto (tgt := 76) hx hb dX8_plays_72 (by decide) ?_
            refine lv_istore_n (lv' := [(1, .int 1), (3, .int z0), (0, .ref (aM + 0)), (2, .int w2)]) hx hb dX8_plays_76 rfl hl (by decide) rfl (fun ls hl => ?_)
            refine lv_aload_n hx hb dX8_plays_77 rfl (lv_at hl 2 rfl) ?_
            refine lv_iload_n hx hb dX8_plays_78 rfl (lv_at hl 3 rfl) ?_
            refine lv_if_eq (tgt := 86) hx hb dX8_plays_79 (by decide) (fun c19 => ?_) (fun c19 => ?_)
            · replace h := h.1 c19
              refine lv_iconst (v := 1) hx hb dX8_plays_86 (by decide) ?_
              exact (ih.2.2) ρ 1 w2 z0 1 _ _ _ hM hS (lv_sub hl [2, 0, 3, 1] rfl) h
            · replace h := h.2 c19
              refine lv_iconst (v := 2) hx hb dX8_plays_82 (by decide) ?_
              refine lv_goto (tgt := 87) hx hb dX8_plays_83 (by decide) ?_
              exact (ih.2.2) ρ 1 w2 z0 2 _ _ _ hM hS (lv_sub hl [2, 0, 3, 1] rfl) h
      · intro ρ w1 w2 w3 z1 H locs ls hM hS hl h
        replace h : vb_X8_plays_87 Q (vl_X8_plays Q n) ρ w1 w2 w3 z1 := h
        unfold vb_X8_plays_87 at h
        refine g_put (a := aM) (k := 0) C hK hM hS fl_X8_199 fp_X8_12 rfl rfl (by rfl) (by rfl) (RA_in (by decide)) dX8_plays_87 (fun ρ20 H locs eρ20 hM hS hq => ?_)
        specialize h ρ20 eρ20
        refine lv_aload_n hx hb dX8_plays_90 rfl (lv_at hl 0 rfl) ?_
        refine lv_iload_n hx hb dX8_plays_91 rfl (lv_at hl 2 rfl) ?_
        refine lv_if_eq (tgt := 99) hx hb dX8_plays_92 (by decide) (fun c21 => ?_) (fun c21 => ?_)
        · replace h := h.1 c21
          refine lv_aload_n hx hb dX8_plays_99 rfl (lv_at hl 0 rfl) ?_
          refine g_getI (a := aM) (k := 0) C hK hM fl_X8_149 rfl rfl dX8_plays_100 ?_
          refine lv_aload_n hx hb dX8_plays_103 rfl (lv_at hl 0 rfl) ?_
          refine g_getI (a := aM) (k := 0) C hK hM fl_X8_187 rfl rfl dX8_plays_104 ?_
          refine lv_isub hx hb dX8_plays_107 ?_
          refine g_put (a := aM) (k := 0) C hK hM hS fl_X8_202 fp_X8_13 rfl rfl (by rfl) (by rfl) (RA_in (by decide)) dX8_plays_108 (fun ρ22 H locs eρ22 hM hS hq => ?_)
          specialize h ρ22 eρ22
          refine lv_aload_n hx hb dX8_plays_111 rfl (lv_at hl 0 rfl) ?_
          refine lv_dup hx hb dX8_plays_112 rfl ?_
          refine g_getI (a := aM) (k := 0) C hK hM fl_X8_190 rfl rfl dX8_plays_113 ?_
          refine lv_iconst (v := 1) hx hb dX8_plays_116 (by decide) ?_
          refine lv_iadd hx hb dX8_plays_117 ?_
          refine g_put (a := aM) (k := 0) C hK hM hS fl_X8_190 fp_X8_14 rfl rfl (by rfl) (by rfl) (RA_in (by decide)) dX8_plays_118 (fun ρ23 H locs eρ23 hM hS hq => ?_)
          specialize h ρ23 eρ23
          refine lv_goto (tgt := 22) hx hb dX8_plays_121 (by decide) ?_
          exact (ih.1) ρ23 w1 _ _ _ hM hS (lv_sub hl [0, 1] rfl) h
        · replace h := h.2 c21
          refine lv_iload_n hx hb dX8_plays_95 rfl (lv_at hl 3 rfl) ?_
          refine lv_goto (tgt := 108) hx hb dX8_plays_96 (by decide) ?_
          refine g_put (a := aM) (k := 0) C hK hM hS fl_X8_202 fp_X8_13 rfl rfl (by rfl) (by rfl) (RA_in (by decide)) dX8_plays_108 (fun ρ24 H locs eρ24 hM hS hq => ?_)
          specialize h ρ24 eρ24
          refine lv_aload_n hx hb dX8_plays_111 rfl (lv_at hl 0 rfl) ?_
          refine lv_dup hx hb dX8_plays_112 rfl ?_
          refine g_getI (a := aM) (k := 0) C hK hM fl_X8_190 rfl rfl dX8_plays_113 ?_
          refine lv_iconst (v := 1) hx hb dX8_plays_116 (by decide) ?_
          refine lv_iadd hx hb dX8_plays_117 ?_
          refine g_put (a := aM) (k := 0) C hK hM hS fl_X8_190 fp_X8_14 rfl rfl (by rfl) (by rfl) (RA_in (by decide)) dX8_plays_118 (fun ρ25 H locs eρ25 hM hS hq => ?_)
          specialize h ρ25 eρ25
          refine lv_goto (tgt := 22) hx hb dX8_plays_121 (by decide) ?_
          exact (ih.1) ρ25 w1 _ _ _ hM hS (lv_sub hl [0, 1] rfl) h
  unfold vc_X8_plays at h
  obtain ⟨n, h⟩ := h
  refine lv_aload_n hx hb dX8_plays_0 rfl (lv_at hl 0 rfl) ?_
  refine lv_iconst (v := 1) hx hb dX8_plays_1 (by decide) ?_
  refine g_put (a := aM) (k := 0) C hK hM hS fl_X8_35 fp_X8_5 rfl rfl (by rfl) (by rfl) (RA_in (by decide)) dX8_plays_2 (fun ρ1 H locs eρ1 hM hS hq => ?_)
  specialize h ρ1 eρ1
  refine lv_aload_n hx hb dX8_plays_5 rfl (lv_at hl 0 rfl) ?_
  refine lv_iconst (v := 0) hx hb dX8_plays_6 (by decide) ?_
  refine g_put (a := aM) (k := 0) C hK hM hS fl_X8_149 fp_X8_10 rfl rfl (by rfl) (by rfl) (RA_in (by decide)) dX8_plays_7 (fun ρ2 H locs eρ2 hM hS hq => ?_)
  specialize h ρ2 eρ2
  refine lv_aload_n hx hb dX8_plays_10 rfl (lv_at hl 0 rfl) ?_
  refine lv_iconst (v := 0) hx hb dX8_plays_11 (by decide) ?_
  refine g_put (a := aM) (k := 0) C hK hM hS fl_X8_187 fp_X8_11 rfl rfl (by rfl) (by rfl) (RA_in (by decide)) dX8_plays_12 (fun ρ3 H locs eρ3 hM hS hq => ?_)
  specialize h ρ3 eρ3
  refine lv_aload_n hx hb dX8_plays_15 rfl (lv_at hl 0 rfl) ?_
  refine lv_iconst (v := 0) hx hb dX8_plays_16 (by decide) ?_
  refine g_put (a := aM) (k := 0) C hK hM hS fl_X8_190 fp_X8_14 rfl rfl (by rfl) (by rfl) (RA_in (by decide)) dX8_plays_17 (fun ρ4 H locs eρ4 hM hS hq => ?_)
  specialize h ρ4 eρ4
  refine lv_iconst (v := 1) hx hb dX8_plays_20 (by decide) ?_
  refine lv_istore_n (lv' := [(1, .int 1), (0, .ref (aM + 0))]) hx hb dX8_plays_21 rfl hl (by decide) rfl (fun ls hl => ?_)
  exact ((K n).1) ρ4 1 _ _ _ hM hS (lv_sub hl [1, 0] rfl) h
theorem dX8_fault_0 : decode cX8_fault 0 = .ok (.iload_n 1, 1) := by decide +kernel
theorem dX8_fault_1 : decode cX8_fault 1 = .ok (.iconst 0, 1) := by decide +kernel
theorem dX8_fault_2 : decode cX8_fault 2 = .ok (.iconst 2, 1) := by decide +kernel
theorem dX8_fault_3 : decode cX8_fault 3 = .ok (.invokestatic 43, 3) := by decide +kernel
theorem dX8_fault_6 : decode cX8_fault 6 = .ok (.ifCond .ne 6, 3) := by decide +kernel
theorem dX8_fault_9 : decode cX8_fault 9 = .ok (.ldc 59, 2) := by decide +kernel
theorem dX8_fault_11 : decode cX8_fault 11 = .ok (.ireturn, 1) := by decide +kernel
theorem dX8_fault_12 : decode cX8_fault 12 = .ok (.aload_n 0, 1) := by decide +kernel
theorem dX8_fault_13 : decode cX8_fault 13 = .ok (.getfield 7, 3) := by decide +kernel
theorem dX8_fault_16 : decode cX8_fault 16 = .ok (.aload_n 0, 1) := by decide +kernel
theorem dX8_fault_17 : decode cX8_fault 17 = .ok (.getfield 16, 3) := by decide +kernel
theorem dX8_fault_20 : decode cX8_fault 20 = .ok (.invokestatic 114, 3) := by decide +kernel
theorem dX8_fault_23 : decode cX8_fault 23 = .ok (.aload_n 0, 1) := by decide +kernel
theorem dX8_fault_24 : decode cX8_fault 24 = .ok (.invokevirtual 205, 3) := by decide +kernel
theorem dX8_fault_27 : decode cX8_fault 27 = .ok (.istore_n 2, 1) := by decide +kernel
theorem dX8_fault_28 : decode cX8_fault 28 = .ok (.aload_n 0, 1) := by decide +kernel
theorem dX8_fault_29 : decode cX8_fault 29 = .ok (.getfield 16, 3) := by decide +kernel
theorem dX8_fault_32 : decode cX8_fault 32 = .ok (.aload_n 0, 1) := by decide +kernel
theorem dX8_fault_33 : decode cX8_fault 33 = .ok (.getfield 7, 3) := by decide +kernel
theorem dX8_fault_36 : decode cX8_fault 36 = .ok (.invokestatic 114, 3) := by decide +kernel
theorem dX8_fault_39 : decode cX8_fault 39 = .ok (.iload_n 2, 1) := by decide +kernel
theorem dX8_fault_40 : decode cX8_fault 40 = .ok (.ifCond .eq 8, 3) := by decide +kernel
theorem dX8_fault_43 : decode cX8_fault 43 = .ok (.ldc 113, 2) := by decide +kernel
theorem dX8_fault_45 : decode cX8_fault 45 = .ok (.goto 30, 3) := by decide +kernel
theorem dX8_fault_48 : decode cX8_fault 48 = .ok (.iload_n 1, 1) := by decide +kernel
theorem dX8_fault_49 : decode cX8_fault 49 = .ok (.ifCond .ne 10, 3) := by decide +kernel
theorem dX8_fault_52 : decode cX8_fault 52 = .ok (.aload_n 0, 1) := by decide +kernel
theorem dX8_fault_53 : decode cX8_fault 53 = .ok (.getfield 187, 3) := by decide +kernel
theorem dX8_fault_56 : decode cX8_fault 56 = .ok (.goto 19, 3) := by decide +kernel
theorem dX8_fault_59 : decode cX8_fault 59 = .ok (.iload_n 1, 1) := by decide +kernel
theorem dX8_fault_60 : decode cX8_fault 60 = .ok (.iconst 1, 1) := by decide +kernel
theorem dX8_fault_61 : decode cX8_fault 61 = .ok (.if_icmp .ne 10, 3) := by decide +kernel
theorem dX8_fault_64 : decode cX8_fault 64 = .ok (.aload_n 0, 1) := by decide +kernel
theorem dX8_fault_65 : decode cX8_fault 65 = .ok (.getfield 199, 3) := by decide +kernel
theorem dX8_fault_68 : decode cX8_fault 68 = .ok (.goto 7, 3) := by decide +kernel
theorem dX8_fault_71 : decode cX8_fault 71 = .ok (.aload_n 0, 1) := by decide +kernel
theorem dX8_fault_72 : decode cX8_fault 72 = .ok (.getfield 202, 3) := by decide +kernel
theorem dX8_fault_75 : decode cX8_fault 75 = .ok (.ireturn, 1) := by decide +kernel
def vc_X8_fault (Q : Int32 → Mem → Prop) (ρ : Mem) (x1 : Int32) : Prop :=
  vc_X8_in (fun r1 => ((¬ r1 = 0) → (vc_X8_copies (fun ρ4 => vc_X8_plays (fun r5 ρ6 => vc_X8_copies (fun ρ8 => ((r5 = 0) → (((¬ x1 = 0) → (((¬ x1 = 1) → (Q (ρ8 0 13) ρ8)) ∧ ((x1 = 1) → (Q (ρ8 0 12) ρ8)))) ∧ ((x1 = 0) → (Q (ρ8 0 11) ρ8)))) ∧ ((¬ r5 = 0) → (Q (-1000004) ρ8))) ρ6 3 1) ρ4) ρ 1 3)) ∧ ((r1 = 0) → (Q (-1000001) ρ))) x1 0 2
set_option maxHeartbeats 8000000 in
set_option maxRecDepth 100000 in
theorem m_X8_fault (l : Launch) (G : GG) (aM : Nat) (ρ : Mem) (x1 : Int32) (Q : Int32 → Mem → Prop) (h : vc_X8_fault Q ρ x1) : CtI l yX8_fault cX8_fault 3 (some .int) { frames := 7, cells := 0, slots := 0, locals := 156 } [.ref (aM + 0), .int x1] G (fun H => rg G LM aM ρ H) (Q) (fun u H => rg G LM aM u H) (RA aM 8) := by
  unfold CtI
  refine met_start (y := yX8_fault) (maxL := 3) (av := [.ref (aM + 0), .int x1]) (G := G) (P := fun H => rg G LM aM ρ H) (by decide) rfl (Nat.le_of_ble_eq_true rfl) (fun p e s m below meth c ls C hr hP hK hl => ?_)
  obtain ⟨hx, hb, hml, hown, hts, hlocks⟩ := id C
  have hM : rg G LM aM ρ s.heap := hP
  have hS : va_S (RA aM 8) s.heap s.heap [] := va_S.rf
  have hl : lv_has ls 3 [(0, .ref (aM + 0)), (1, .int x1)] := hl
  unfold vc_X8_fault at h
  refine lv_iload_n hx hb dX8_fault_0 rfl (lv_at hl 1 rfl) ?_
  refine lv_iconst (v := 0) hx hb dX8_fault_1 (by decide) ?_
  refine lv_iconst (v := 2) hx hb dX8_fault_2 (by decide) ?_
  refine g_sI C hK hl.1 (m_X8_in l G x1 0 2 _ h) mw_X8_in ms_X8_in ml_X8_43 rfl ⟨rfl, rfl, Nat.le_of_ble_eq_true rfl, Nat.le_of_ble_eq_true rfl⟩ ⟨Nat.zero_le _, Nat.zero_le _⟩ trivial hS (fun _ h => h.elim) rfl (Nat.le_of_ble_eq_true rfl) dX8_fault_3 (fun r1 u H locs h hu _ hq hS => ?_)
  have hM := hM.past hq (fun _ _ h => h)
  refine lv_if_ne (tgt := 12) hx hb dX8_fault_6 (by decide) (fun c2 => ?_) (fun c2 => ?_)
  · replace h := h.1 c2
    refine lv_aload_n hx hb dX8_fault_12 rfl (lv_at hl 0 rfl) ?_
    refine g_getR (a := aM) (k := 0) (o := 1) C hK hM fl_X8_7 rfl rfl dX8_fault_13 ?_
    refine lv_aload_n hx hb dX8_fault_16 rfl (lv_at hl 0 rfl) ?_
    refine g_getR (a := aM) (k := 0) (o := 3) C hK hM fl_X8_16 rfl rfl dX8_fault_17 ?_
    refine g_sV C hK hl.1 (m_X8_copies l G aM ρ 1 rfl 3 rfl _ h) mw_X8_copies ms_X8_copies ml_X8_114 rfl ⟨rfl, rfl, Nat.le_of_ble_eq_true rfl, Nat.le_of_ble_eq_true rfl⟩ ⟨Nat.zero_le _, Nat.zero_le _⟩ hM hS (fun _ h => h) rfl (Nat.le_of_ble_eq_true rfl) dX8_fault_20 (fun u H locs h hu _ hq hS => ?_)
    obtain ⟨ρ4, rfl⟩ : ∃ z, z = u := ⟨_, rfl⟩
    have hM := hu
    refine lv_aload_n hx hb dX8_fault_23 rfl (lv_at hl 0 rfl) ?_
    refine g_vI C hK hl.1 (m_X8_plays l G aM ρ4 _ h) mw_X8_plays mi_X8_plays ml_X8_205 rfl ⟨rfl, rfl, Nat.le_of_ble_eq_true rfl, Nat.le_of_ble_eq_true rfl⟩ ⟨Nat.zero_le _, Nat.zero_le _⟩ (g_recv (a := aM) (k := 0) hK hM rfl rfl) hM hS (fun _ h => h) rfl (Nat.le_of_ble_eq_true rfl) dX8_fault_24 (fun r5 u H locs h hu _ hq hS => ?_)
    obtain ⟨ρ6, rfl⟩ : ∃ z, z = u := ⟨_, rfl⟩
    have hM := hu
    refine lv_istore_n (lv' := [(2, .int r5), (0, .ref (aM + 0)), (1, .int x1)]) hx hb dX8_fault_27 rfl hl (by decide) rfl (fun ls hl => ?_)
    refine lv_aload_n hx hb dX8_fault_28 rfl (lv_at hl 1 rfl) ?_
    refine g_getR (a := aM) (k := 0) (o := 3) C hK hM fl_X8_16 rfl rfl dX8_fault_29 ?_
    refine lv_aload_n hx hb dX8_fault_32 rfl (lv_at hl 1 rfl) ?_
    refine g_getR (a := aM) (k := 0) (o := 1) C hK hM fl_X8_7 rfl rfl dX8_fault_33 ?_
    refine g_sV C hK hl.1 (m_X8_copies l G aM ρ6 3 rfl 1 rfl _ h) mw_X8_copies ms_X8_copies ml_X8_114 rfl ⟨rfl, rfl, Nat.le_of_ble_eq_true rfl, Nat.le_of_ble_eq_true rfl⟩ ⟨Nat.zero_le _, Nat.zero_le _⟩ hM hS (fun _ h => h) rfl (Nat.le_of_ble_eq_true rfl) dX8_fault_36 (fun u H locs h hu _ hq hS => ?_)
    obtain ⟨ρ8, rfl⟩ : ∃ z, z = u := ⟨_, rfl⟩
    have hM := hu
    refine lv_iload_n hx hb dX8_fault_39 rfl (lv_at hl 0 rfl) ?_
    refine lv_if_eq (tgt := 48) hx hb dX8_fault_40 (by decide) (fun c9 => ?_) (fun c9 => ?_)
    · replace h := h.1 c9
      refine lv_iload_n hx hb dX8_fault_48 rfl (lv_at hl 2 rfl) ?_
      refine lv_if_ne (tgt := 59) hx hb dX8_fault_49 (by decide) (fun c10 => ?_) (fun c10 => ?_)
      · replace h := h.1 c10
        refine lv_iload_n hx hb dX8_fault_59 rfl (lv_at hl 2 rfl) ?_
        refine lv_iconst (v := 1) hx hb dX8_fault_60 (by decide) ?_
        refine lv_icmp_ne (tgt := 71) hx hb dX8_fault_61 (by decide) (fun c11 => ?_) (fun c11 => ?_)
        · replace h := h.1 c11
          refine lv_aload_n hx hb dX8_fault_71 rfl (lv_at hl 1 rfl) ?_
          refine g_getI (a := aM) (k := 0) C hK hM fl_X8_202 rfl rfl dX8_fault_72 ?_
          exact g_iret (post := Q) (P' := fun u H => rg G LM aM u H) (r := (ρ8 0 13)) (u := ρ8) C hr hK hS h hM dX8_fault_75
        · replace h := h.2 c11
          refine lv_aload_n hx hb dX8_fault_64 rfl (lv_at hl 1 rfl) ?_
          refine g_getI (a := aM) (k := 0) C hK hM fl_X8_199 rfl rfl dX8_fault_65 ?_
          refine lv_goto (tgt := 75) hx hb dX8_fault_68 (by decide) ?_
          exact g_iret (post := Q) (P' := fun u H => rg G LM aM u H) (r := (ρ8 0 12)) (u := ρ8) C hr hK hS h hM dX8_fault_75
      · replace h := h.2 c10
        refine lv_aload_n hx hb dX8_fault_52 rfl (lv_at hl 1 rfl) ?_
        refine g_getI (a := aM) (k := 0) C hK hM fl_X8_187 rfl rfl dX8_fault_53 ?_
        refine lv_goto (tgt := 75) hx hb dX8_fault_56 (by decide) ?_
        exact g_iret (post := Q) (P' := fun u H => rg G LM aM u H) (r := (ρ8 0 11)) (u := ρ8) C hr hK hS h hM dX8_fault_75
    · replace h := h.2 c9
      refine g_ldc C kc_X8_113 dX8_fault_43 ?_
      refine lv_goto (tgt := 75) hx hb dX8_fault_45 (by decide) ?_
      exact g_iret (post := Q) (P' := fun u H => rg G LM aM u H) (r := (-1000004)) (u := ρ8) C hr hK hS h hM dX8_fault_75
  · replace h := h.2 c2
    refine g_ldc C kc_X8_59 dX8_fault_9 ?_
    exact g_iret (post := Q) (P' := fun u H => rg G LM aM u H) (r := (-1000001)) (u := ρ) C hr hK hS h hM dX8_fault_11
