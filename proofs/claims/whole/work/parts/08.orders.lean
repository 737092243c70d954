theorem dX4_append_0 : decode cX4_append 0 = .ok (.aload_n 0, 1) := by decide +kernel
theorem dX4_append_1 : decode cX4_append 1 = .ok (.getfield 18, 3) := by decide +kernel
theorem dX4_append_4 : decode cX4_append 4 = .ok (.bipush 60, 2) := by decide +kernel
theorem dX4_append_6 : decode cX4_append 6 = .ok (.if_icmp .lt 6, 3) := by decide +kernel
theorem dX4_append_9 : decode cX4_append 9 = .ok (.ldc 22, 2) := by decide +kernel
theorem dX4_append_11 : decode cX4_append 11 = .ok (.ireturn, 1) := by decide +kernel
theorem dX4_append_12 : decode cX4_append 12 = .ok (.aload_n 0, 1) := by decide +kernel
theorem dX4_append_13 : decode cX4_append 13 = .ok (.getfield 9, 3) := by decide +kernel
theorem dX4_append_16 : decode cX4_append 16 = .ok (.aload_n 0, 1) := by decide +kernel
theorem dX4_append_17 : decode cX4_append 17 = .ok (.getfield 18, 3) := by decide +kernel
theorem dX4_append_20 : decode cX4_append 20 = .ok (.iload_n 1, 1) := by decide +kernel
theorem dX4_append_21 : decode cX4_append 21 = .ok (.iastore, 1) := by decide +kernel
theorem dX4_append_22 : decode cX4_append 22 = .ok (.aload_n 0, 1) := by decide +kernel
theorem dX4_append_23 : decode cX4_append 23 = .ok (.dup, 1) := by decide +kernel
theorem dX4_append_24 : decode cX4_append 24 = .ok (.getfield 18, 3) := by decide +kernel
theorem dX4_append_27 : decode cX4_append 27 = .ok (.iconst 1, 1) := by decide +kernel
theorem dX4_append_28 : decode cX4_append 28 = .ok (.iadd, 1) := by decide +kernel
theorem dX4_append_29 : decode cX4_append 29 = .ok (.putfield 18, 3) := by decide +kernel
theorem dX4_append_32 : decode cX4_append 32 = .ok (.aload_n 0, 1) := by decide +kernel
theorem dX4_append_33 : decode cX4_append 33 = .ok (.getfield 18, 3) := by decide +kernel
theorem dX4_append_36 : decode cX4_append 36 = .ok (.ireturn, 1) := by decide +kernel
def vc_X4_append (Q : Int32 → Mem → Prop) (ο : Mem) (x1 : Int32) : Prop :=
  (((ο 0 0) < 60) → (vp_in (ο 0 0) 60 ∧ (∀ ο3 : Mem, ο3 = up ο 1 (ο 0 0).toNatClampNeg x1 → (∀ ο4 : Mem, ο4 = up ο3 0 0 ((ο3 0 0) + 1) → (Q (ο4 0 0) ο4))))) ∧ ((¬ (ο 0 0) < 60) → (Q (-1000003) ο))
set_option maxHeartbeats 8000000 in
set_option maxRecDepth 100000 in
theorem m_X4_append (l : Launch) (G : GG) (aO : Nat) (ο : Mem) (x1 : Int32) (Q : Int32 → Mem → Prop) (h : vc_X4_append Q ο x1) : CtI l yX4_append cX4_append 2 (some .int) { frames := 0, cells := 0, slots := 0, locals := 0 } [.ref (aO + 0), .int x1] G (fun H => rg G LO aO ο H) (Q) (fun u H => rg G LO aO u H) (RA aO 3) := by
  unfold CtI
  refine met_start (y := yX4_append) (maxL := 2) (av := [.ref (aO + 0), .int x1]) (G := G) (P := fun H => rg G LO aO ο H) (by decide) rfl (Nat.le_of_ble_eq_true rfl) (fun p e s m below meth c ls C hr hP hK hl => ?_)
  obtain ⟨hx, hb, hml, hown, hts, hlocks⟩ := id C
  have hO : rg G LO aO ο s.heap := hP
  have hS : va_S (RA aO 3) s.heap s.heap [] := va_S.rf
  have hl : lv_has ls 2 [(0, .ref (aO + 0)), (1, .int x1)] := hl
  unfold vc_X4_append at h
  refine lv_aload_n hx hb dX4_append_0 rfl (lv_at hl 0 rfl) ?_
  refine g_getI (a := aO) (k := 0) C hK hO fl_X4_18 rfl rfl dX4_append_1 ?_
  refine lv_bipush (v := 60) hx hb dX4_append_4 (by decide) ?_
  refine lv_icmp_lt (tgt := 12) hx hb dX4_append_6 (by decide) (fun c1 => ?_) (fun c1 => ?_)
  · replace h := h.1 c1
    refine lv_aload_n hx hb dX4_append_12 rfl (lv_at hl 0 rfl) ?_
    refine g_getR (a := aO) (k := 0) (o := 1) C hK hO fl_X4_9 rfl rfl dX4_append_13 ?_
    refine lv_aload_n hx hb dX4_append_16 rfl (lv_at hl 0 rfl) ?_
    refine g_getI (a := aO) (k := 0) C hK hO fl_X4_18 rfl rfl dX4_append_17 ?_
    refine lv_iload_n hx hb dX4_append_20 rfl (lv_at hl 1 rfl) ?_
    obtain ⟨b2, h⟩ := h
    refine g_ast (a := aO) (k := 1) (n := 60) C hK hO hS rfl b2 (RA_in (by decide)) dX4_append_21 (fun ο3 H locs eο3 hO hS hq => ?_)
    specialize h ο3 eο3
    refine lv_aload_n hx hb dX4_append_22 rfl (lv_at hl 0 rfl) ?_
    refine lv_dup hx hb dX4_append_23 rfl ?_
    refine g_getI (a := aO) (k := 0) C hK hO fl_X4_18 rfl rfl dX4_append_24 ?_
    refine lv_iconst (v := 1) hx hb dX4_append_27 (by decide) ?_
    refine lv_iadd hx hb dX4_append_28 ?_
    refine g_put (a := aO) (k := 0) C hK hO hS fl_X4_18 fp_X4_0 rfl rfl (by rfl) (by rfl) (RA_in (by decide)) dX4_append_29 (fun ο4 H locs eο4 hO hS hq => ?_)
    specialize h ο4 eο4
    refine lv_aload_n hx hb dX4_append_32 rfl (lv_at hl 0 rfl) ?_
    refine g_getI (a := aO) (k := 0) C hK hO fl_X4_18 rfl rfl dX4_append_33 ?_
    exact g_iret (post := Q) (P' := fun u H => rg G LO aO u H) (r := (ο4 0 0)) (u := ο4) C hr hK hS h hO dX4_append_36
  · replace h := h.2 c1
    refine g_ldc C kc_X4_22 dX4_append_9 ?_
    exact g_iret (post := Q) (P' := fun u H => rg G LO aO u H) (r := (-1000003)) (u := ο) C hr hK hS h hO dX4_append_11
theorem dX4_clear_0 : decode cX4_clear 0 = .ok (.aload_n 0, 1) := by decide +kernel
theorem dX4_clear_1 : decode cX4_clear 1 = .ok (.getfield 18, 3) := by decide +kernel
theorem dX4_clear_4 : decode cX4_clear 4 = .ok (.istore_n 1, 1) := by decide +kernel
theorem dX4_clear_5 : decode cX4_clear 5 = .ok (.aload_n 0, 1) := by decide +kernel
theorem dX4_clear_6 : decode cX4_clear 6 = .ok (.iconst 0, 1) := by decide +kernel
theorem dX4_clear_7 : decode cX4_clear 7 = .ok (.putfield 18, 3) := by decide +kernel
theorem dX4_clear_10 : decode cX4_clear 10 = .ok (.iload_n 1, 1) := by decide +kernel
theorem dX4_clear_11 : decode cX4_clear 11 = .ok (.ireturn, 1) := by decide +kernel
def vc_X4_clear (Q : Int32 → Mem → Prop) (ο : Mem) : Prop :=
  ∀ v1 : Int32, v1 = (ο 0 0) → (∀ ο2 : Mem, ο2 = up ο 0 0 0 → (Q v1 ο2))
set_option maxHeartbeats 8000000 in
set_option maxRecDepth 100000 in
theorem m_X4_clear (l : Launch) (G : GG) (aO : Nat) (ο : Mem) (Q : Int32 → Mem → Prop) (h : vc_X4_clear Q ο) : CtI l yX4_clear cX4_clear 2 (some .int) { frames := 0, cells := 0, slots := 0, locals := 0 } [.ref (aO + 0)] G (fun H => rg G LO aO ο H) (Q) (fun u H => rg G LO aO u H) (RA aO 3) := by
  unfold CtI
  refine met_start (y := yX4_clear) (maxL := 2) (av := [.ref (aO + 0)]) (G := G) (P := fun H => rg G LO aO ο H) (by decide) rfl (Nat.le_of_ble_eq_true rfl) (fun p e s m below meth c ls C hr hP hK hl => ?_)
  obtain ⟨hx, hb, hml, hown, hts, hlocks⟩ := id C
  have hO : rg G LO aO ο s.heap := hP
  have hS : va_S (RA aO 3) s.heap s.heap [] := va_S.rf
  have hl : lv_has ls 2 [(0, .ref (aO + 0))] := hl
  unfold vc_X4_clear at h
  refine lv_aload_n hx hb dX4_clear_0 rfl (lv_at hl 0 rfl) ?_
  refine g_getI (a := aO) (k := 0) C hK hO fl_X4_18 rfl rfl dX4_clear_1 ?_
  refine lv_topi (fun v1 ev1 => ?_)
  specialize h v1 ev1
  refine lv_istore_n (lv' := [(1, .int v1), (0, .ref (aO + 0))]) hx hb dX4_clear_4 rfl hl (by decide) rfl (fun ls hl => ?_)
  refine lv_aload_n hx hb dX4_clear_5 rfl (lv_at hl 1 rfl) ?_
  refine lv_iconst (v := 0) hx hb dX4_clear_6 (by decide) ?_
  refine g_put (a := aO) (k := 0) C hK hO hS fl_X4_18 fp_X4_0 rfl rfl (by rfl) (by rfl) (RA_in (by decide)) dX4_clear_7 (fun ο2 H locs eο2 hO hS hq => ?_)
  specialize h ο2 eο2
  refine lv_iload_n hx hb dX4_clear_10 rfl (lv_at hl 0 rfl) ?_
  exact g_iret (post := Q) (P' := fun u H => rg G LO aO u H) (r := v1) (u := ο2) C hr hK hS h hO dX4_clear_11
theorem dX4_signAt_0 : decode cX4_signAt 0 = .ok (.iload_n 1, 1) := by decide +kernel
theorem dX4_signAt_1 : decode cX4_signAt 1 = .ok (.iconst 0, 1) := by decide +kernel
theorem dX4_signAt_2 : decode cX4_signAt 2 = .ok (.aload_n 0, 1) := by decide +kernel
theorem dX4_signAt_3 : decode cX4_signAt 3 = .ok (.getfield 18, 3) := by decide +kernel
theorem dX4_signAt_6 : decode cX4_signAt 6 = .ok (.iconst 1, 1) := by decide +kernel
theorem dX4_signAt_7 : decode cX4_signAt 7 = .ok (.isub, 1) := by decide +kernel
theorem dX4_signAt_8 : decode cX4_signAt 8 = .ok (.invokestatic 60, 3) := by decide +kernel
theorem dX4_signAt_11 : decode cX4_signAt 11 = .ok (.ifCond .eq 12, 3) := by decide +kernel
theorem dX4_signAt_14 : decode cX4_signAt 14 = .ok (.aload_n 0, 1) := by decide +kernel
theorem dX4_signAt_15 : decode cX4_signAt 15 = .ok (.getfield 9, 3) := by decide +kernel
theorem dX4_signAt_18 : decode cX4_signAt 18 = .ok (.iload_n 1, 1) := by decide +kernel
theorem dX4_signAt_19 : decode cX4_signAt 19 = .ok (.iaload, 1) := by decide +kernel
theorem dX4_signAt_20 : decode cX4_signAt 20 = .ok (.goto 4, 3) := by decide +kernel
theorem dX4_signAt_23 : decode cX4_signAt 23 = .ok (.iconst (-1), 1) := by decide +kernel
theorem dX4_signAt_24 : decode cX4_signAt 24 = .ok (.ireturn, 1) := by decide +kernel
def vc_X4_signAt (Q : Int32 → Prop) (ο : Mem) (x1 : Int32) : Prop :=
  vc_X7_within (fun r1 => ((r1 = 0) → (Q (-1) )) ∧ ((¬ r1 = 0) → (vp_in x1 60 ∧ (Q (ο 1 x1.toNatClampNeg) )))) x1 0 ((ο 0 0) - 1)
set_option maxHeartbeats 8000000 in
set_option maxRecDepth 100000 in
theorem m_X4_signAt (l : Launch) (G : GG) (aO : Nat) (ο : Mem) (x1 : Int32) (Q : Int32 → Prop) (h : vc_X4_signAt Q ο x1) : CtI l yX4_signAt cX4_signAt 2 (some .int) { frames := 1, cells := 0, slots := 0, locals := 22 } [.ref (aO + 0), .int x1] G (fun H => rg G LO aO ο H) (fun r (_ : Unit) => Q r) (fun _ _ => True) (fun _ => False) := by
  unfold CtI
  refine met_start (y := yX4_signAt) (maxL := 2) (av := [.ref (aO + 0), .int x1]) (G := G) (P := fun H => rg G LO aO ο H) (by decide) rfl (Nat.le_of_ble_eq_true rfl) (fun p e s m below meth c ls C hr hP hK hl => ?_)
  obtain ⟨hx, hb, hml, hown, hts, hlocks⟩ := id C
  have hO : rg G LO aO ο s.heap := hP
  have hS : va_S (fun _ => False) s.heap s.heap [] := va_S.rf
  have hl : lv_has ls 2 [(0, .ref (aO + 0)), (1, .int x1)] := hl
  unfold vc_X4_signAt at h
  refine lv_iload_n hx hb dX4_signAt_0 rfl (lv_at hl 1 rfl) ?_
  refine lv_iconst (v := 0) hx hb dX4_signAt_1 (by decide) ?_
  refine lv_aload_n hx hb dX4_signAt_2 rfl (lv_at hl 0 rfl) ?_
  refine g_getI (a := aO) (k := 0) C hK hO fl_X4_18 rfl rfl dX4_signAt_3 ?_
  refine lv_iconst (v := 1) hx hb dX4_signAt_6 (by decide) ?_
  refine lv_isub hx hb dX4_signAt_7 ?_
  refine g_nI C hK hl.1 (m_X7_within l G x1 0 ((ο 0 0) - 1) _ h) mw_X7_within ms_X7_within nl_X4_60 rfl ⟨rfl, rfl, Nat.le_of_ble_eq_true rfl, Nat.le_of_ble_eq_true rfl⟩ ⟨Nat.zero_le _, Nat.zero_le _⟩ trivial hS (fun _ h => h.elim) rfl (Nat.le_of_ble_eq_true rfl) dX4_signAt_8 (fun r1 u H locs h hu _ hq hS => ?_)
  have hO := hO.past hq (fun _ _ h => h)
  refine lv_if_eq (tgt := 23) hx hb dX4_signAt_11 (by decide) (fun c2 => ?_) (fun c2 => ?_)
  · replace h := h.1 c2
    refine lv_iconst (v := (-1)) hx hb dX4_signAt_23 (by decide) ?_
    exact g_iret (post := fun r (_ : Unit) => Q r) (P' := fun _ _ => True) (r := (-1)) (u := ()) C hr hK hS h trivial dX4_signAt_24
  · replace h := h.2 c2
    refine lv_aload_n hx hb dX4_signAt_14 rfl (lv_at hl 0 rfl) ?_
    refine g_getR (a := aO) (k := 0) (o := 1) C hK hO fl_X4_9 rfl rfl dX4_signAt_15 ?_
    refine lv_iload_n hx hb dX4_signAt_18 rfl (lv_at hl 1 rfl) ?_
    obtain ⟨b3, h⟩ := h
    refine g_ald (a := aO) (k := 1) (n := 60) C hK hO rfl b3 dX4_signAt_19 ?_
    refine lv_goto (tgt := 24) hx hb dX4_signAt_20 (by decide) ?_
    exact g_iret (post := fun r (_ : Unit) => Q r) (P' := fun _ _ => True) (r := (ο 1 x1.toNatClampNeg)) (u := ()) C hr hK hS h trivial dX4_signAt_24
theorem dX4_numbersOf_0 : decode cX4_numbersOf 0 = .ok (.iload_n 0, 1) := by decide +kernel
theorem dX4_numbersOf_1 : decode cX4_numbersOf 1 = .ok (.lookupswitch 67 #[(98, 63), (99, 63), (104, 63), (115, 65), (116, 59), (119, 61)], 59) := by decide +kernel
theorem dX4_numbersOf_60 : decode cX4_numbersOf 60 = .ok (.iconst 4, 1) := by decide +kernel
theorem dX4_numbersOf_61 : decode cX4_numbersOf 61 = .ok (.ireturn, 1) := by decide +kernel
theorem dX4_numbersOf_62 : decode cX4_numbersOf 62 = .ok (.iconst 3, 1) := by decide +kernel
theorem dX4_numbersOf_63 : decode cX4_numbersOf 63 = .ok (.ireturn, 1) := by decide +kernel
theorem dX4_numbersOf_64 : decode cX4_numbersOf 64 = .ok (.iconst 2, 1) := by decide +kernel
theorem dX4_numbersOf_65 : decode cX4_numbersOf 65 = .ok (.ireturn, 1) := by decide +kernel
theorem dX4_numbersOf_66 : decode cX4_numbersOf 66 = .ok (.iconst 1, 1) := by decide +kernel
theorem dX4_numbersOf_67 : decode cX4_numbersOf 67 = .ok (.ireturn, 1) := by decide +kernel
theorem dX4_numbersOf_68 : decode cX4_numbersOf 68 = .ok (.iconst 0, 1) := by decide +kernel
theorem dX4_numbersOf_69 : decode cX4_numbersOf 69 = .ok (.ireturn, 1) := by decide +kernel
def vc_X4_numbersOf (Q : Int32 → Prop) (x0 : Int32) : Prop :=
  ((x0 = 98) → (Q 2 )) ∧ ((¬ x0 = 98) → (((x0 = 99) → (Q 2 )) ∧ ((¬ x0 = 99) → (((x0 = 104) → (Q 2 )) ∧ ((¬ x0 = 104) → (((x0 = 115) → (Q 1 )) ∧ ((¬ x0 = 115) → (((x0 = 116) → (Q 4 )) ∧ ((¬ x0 = 116) → (((x0 = 119) → (Q 3 )) ∧ ((¬ x0 = 119) → (Q 0 ))))))))))))
set_option maxHeartbeats 8000000 in
set_option maxRecDepth 100000 in
theorem m_X4_numbersOf (l : Launch) (G : GG) (x0 : Int32) (Q : Int32 → Prop) (h : vc_X4_numbersOf Q x0) : CtI l yX4_numbersOf cX4_numbersOf 1 (some .int) { frames := 0, cells := 0, slots := 0, locals := 0 } [.int x0] G (fun H => True) (fun r (_ : Unit) => Q r) (fun _ _ => True) (fun _ => False) := by
  unfold CtI
  refine met_start (y := yX4_numbersOf) (maxL := 1) (av := [.int x0]) (G := G) (P := fun H => True) (by decide) rfl (Nat.le_of_ble_eq_true rfl) (fun p e s m below meth c ls C hr hP hK hl => ?_)
  obtain ⟨hx, hb, hml, hown, hts, hlocks⟩ := id C
  have hS : va_S (fun _ => False) s.heap s.heap [] := va_S.rf
  have hl : lv_has ls 1 [(0, .int x0)] := hl
  unfold vc_X4_numbersOf at h
  refine lv_iload_n hx hb dX4_numbersOf_0 rfl (lv_at hl 0 rfl) ?_
  by_cases c1 : x0 = 98
  · replace h := h.1 c1
    refine lv_lookup (off := 63) (tgt := 64) hx hb dX4_numbersOf_1 (by decide) (by rw [c1]; rfl) (by decide) ?_
    refine lv_iconst (v := 2) hx hb dX4_numbersOf_64 (by decide) ?_
    exact g_iret (post := fun r (_ : Unit) => Q r) (P' := fun _ _ => True) (r := 2) (u := ()) C hr hK hS h trivial dX4_numbersOf_65
  · replace h := h.2 c1
    by_cases c2 : x0 = 99
    · replace h := h.1 c2
      refine lv_lookup (off := 63) (tgt := 64) hx hb dX4_numbersOf_1 (by decide) (by rw [c2]; rfl) (by decide) ?_
      refine lv_iconst (v := 2) hx hb dX4_numbersOf_64 (by decide) ?_
      exact g_iret (post := fun r (_ : Unit) => Q r) (P' := fun _ _ => True) (r := 2) (u := ()) C hr hK hS h trivial dX4_numbersOf_65
    · replace h := h.2 c2
      by_cases c3 : x0 = 104
      · replace h := h.1 c3
        refine lv_lookup (off := 63) (tgt := 64) hx hb dX4_numbersOf_1 (by decide) (by rw [c3]; rfl) (by decide) ?_
        refine lv_iconst (v := 2) hx hb dX4_numbersOf_64 (by decide) ?_
        exact g_iret (post := fun r (_ : Unit) => Q r) (P' := fun _ _ => True) (r := 2) (u := ()) C hr hK hS h trivial dX4_numbersOf_65
      · replace h := h.2 c3
        by_cases c4 : x0 = 115
        · replace h := h.1 c4
          refine lv_lookup (off := 65) (tgt := 66) hx hb dX4_numbersOf_1 (by decide) (by rw [c4]; rfl) (by decide) ?_
          refine lv_iconst (v := 1) hx hb dX4_numbersOf_66 (by decide) ?_
          exact g_iret (post := fun r (_ : Unit) => Q r) (P' := fun _ _ => True) (r := 1) (u := ()) C hr hK hS h trivial dX4_numbersOf_67
        · replace h := h.2 c4
          by_cases c5 : x0 = 116
          · replace h := h.1 c5
            refine lv_lookup (off := 59) (tgt := 60) hx hb dX4_numbersOf_1 (by decide) (by rw [c5]; rfl) (by decide) ?_
            refine lv_iconst (v := 4) hx hb dX4_numbersOf_60 (by decide) ?_
            exact g_iret (post := fun r (_ : Unit) => Q r) (P' := fun _ _ => True) (r := 4) (u := ()) C hr hK hS h trivial dX4_numbersOf_61
          · replace h := h.2 c5
            by_cases c6 : x0 = 119
            · replace h := h.1 c6
              refine lv_lookup (off := 61) (tgt := 62) hx hb dX4_numbersOf_1 (by decide) (by rw [c6]; rfl) (by decide) ?_
              refine lv_iconst (v := 3) hx hb dX4_numbersOf_62 (by decide) ?_
              exact g_iret (post := fun r (_ : Unit) => Q r) (P' := fun _ _ => True) (r := 3) (u := ()) C hr hK hS h trivial dX4_numbersOf_63
            · replace h := h.2 c6
              refine lv_lookup (off := 67) (tgt := 68) hx hb dX4_numbersOf_1 (by decide) (by simp only [List.toList_toArray]; rw [lv_osw c1 (by rfl), lv_osw c2 (by rfl), lv_osw c3 (by rfl), lv_osw c4 (by rfl), lv_osw c5 (by rfl), lv_osw c6 (by rfl)]; rfl) (by decide) ?_
              refine lv_iconst (v := 0) hx hb dX4_numbersOf_68 (by decide) ?_
              exact g_iret (post := fun r (_ : Unit) => Q r) (P' := fun _ _ => True) (r := 0) (u := ()) C hr hK hS h trivial dX4_numbersOf_69
theorem dX4_readNumber_0 : decode cX4_readNumber 0 = .ok (.iconst 0, 1) := by decide +kernel
theorem dX4_readNumber_1 : decode cX4_readNumber 1 = .ok (.istore_n 2, 1) := by decide +kernel
theorem dX4_readNumber_2 : decode cX4_readNumber 2 = .ok (.iconst 0, 1) := by decide +kernel
theorem dX4_readNumber_3 : decode cX4_readNumber 3 = .ok (.istore_n 3, 1) := by decide +kernel
theorem dX4_readNumber_4 : decode cX4_readNumber 4 = .ok (.iload_n 3, 1) := by decide +kernel
theorem dX4_readNumber_5 : decode cX4_readNumber 5 = .ok (.iconst 3, 1) := by decide +kernel
theorem dX4_readNumber_6 : decode cX4_readNumber 6 = .ok (.if_icmp .ge 54, 3) := by decide +kernel
theorem dX4_readNumber_9 : decode cX4_readNumber 9 = .ok (.aload_n 0, 1) := by decide +kernel
theorem dX4_readNumber_10 : decode cX4_readNumber 10 = .ok (.aload_n 0, 1) := by decide +kernel
theorem dX4_readNumber_11 : decode cX4_readNumber 11 = .ok (.getfield 26, 3) := by decide +kernel
theorem dX4_readNumber_14 : decode cX4_readNumber 14 = .ok (.invokevirtual 42, 3) := by decide +kernel
theorem dX4_readNumber_17 : decode cX4_readNumber 17 = .ok (.bipush 48, 2) := by decide +kernel
theorem dX4_readNumber_19 : decode cX4_readNumber 19 = .ok (.bipush 57, 2) := by decide +kernel
theorem dX4_readNumber_21 : decode cX4_readNumber 21 = .ok (.invokestatic 60, 3) := by decide +kernel
theorem dX4_readNumber_24 : decode cX4_readNumber 24 = .ok (.ifCond .eq 36, 3) := by decide +kernel
theorem dX4_readNumber_27 : decode cX4_readNumber 27 = .ok (.bipush 10, 2) := by decide +kernel
theorem dX4_readNumber_29 : decode cX4_readNumber 29 = .ok (.iload_n 2, 1) := by decide +kernel
theorem dX4_readNumber_30 : decode cX4_readNumber 30 = .ok (.imul, 1) := by decide +kernel
theorem dX4_readNumber_31 : decode cX4_readNumber 31 = .ok (.aload_n 0, 1) := by decide +kernel
theorem dX4_readNumber_32 : decode cX4_readNumber 32 = .ok (.aload_n 0, 1) := by decide +kernel
theorem dX4_readNumber_33 : decode cX4_readNumber 33 = .ok (.getfield 26, 3) := by decide +kernel
theorem dX4_readNumber_36 : decode cX4_readNumber 36 = .ok (.invokevirtual 42, 3) := by decide +kernel
theorem dX4_readNumber_39 : decode cX4_readNumber 39 = .ok (.iadd, 1) := by decide +kernel
theorem dX4_readNumber_40 : decode cX4_readNumber 40 = .ok (.bipush 48, 2) := by decide +kernel
theorem dX4_readNumber_42 : decode cX4_readNumber 42 = .ok (.isub, 1) := by decide +kernel
theorem dX4_readNumber_43 : decode cX4_readNumber 43 = .ok (.istore_n 2, 1) := by decide +kernel
theorem dX4_readNumber_44 : decode cX4_readNumber 44 = .ok (.iinc 3 1, 3) := by decide +kernel
theorem dX4_readNumber_47 : decode cX4_readNumber 47 = .ok (.aload_n 0, 1) := by decide +kernel
theorem dX4_readNumber_48 : decode cX4_readNumber 48 = .ok (.dup, 1) := by decide +kernel
theorem dX4_readNumber_49 : decode cX4_readNumber 49 = .ok (.getfield 26, 3) := by decide +kernel
theorem dX4_readNumber_52 : decode cX4_readNumber 52 = .ok (.iconst 1, 1) := by decide +kernel
theorem dX4_readNumber_53 : decode cX4_readNumber 53 = .ok (.iadd, 1) := by decide +kernel
theorem dX4_readNumber_54 : decode cX4_readNumber 54 = .ok (.putfield 26, 3) := by decide +kernel
theorem dX4_readNumber_57 : decode cX4_readNumber 57 = .ok (.goto (-53), 3) := by decide +kernel
theorem dX4_readNumber_60 : decode cX4_readNumber 60 = .ok (.iload_n 3, 1) := by decide +kernel
theorem dX4_readNumber_61 : decode cX4_readNumber 61 = .ok (.ifCond .eq 12, 3) := by decide +kernel
theorem dX4_readNumber_64 : decode cX4_readNumber 64 = .ok (.iload_n 1, 1) := by decide +kernel
theorem dX4_readNumber_65 : decode cX4_readNumber 65 = .ok (.iconst 0, 1) := by decide +kernel
theorem dX4_readNumber_66 : decode cX4_readNumber 66 = .ok (.iconst 3, 1) := by decide +kernel
theorem dX4_readNumber_67 : decode cX4_readNumber 67 = .ok (.invokestatic 60, 3) := by decide +kernel
theorem dX4_readNumber_70 : decode cX4_readNumber 70 = .ok (.ifCond .ne 5, 3) := by decide +kernel
theorem dX4_readNumber_73 : decode cX4_readNumber 73 = .ok (.iconst 0, 1) := by decide +kernel
theorem dX4_readNumber_74 : decode cX4_readNumber 74 = .ok (.ireturn, 1) := by decide +kernel
theorem dX4_readNumber_75 : decode cX4_readNumber 75 = .ok (.aload_n 0, 1) := by decide +kernel
theorem dX4_readNumber_76 : decode cX4_readNumber 76 = .ok (.getfield 15, 3) := by decide +kernel
theorem dX4_readNumber_79 : decode cX4_readNumber 79 = .ok (.iload_n 1, 1) := by decide +kernel
theorem dX4_readNumber_80 : decode cX4_readNumber 80 = .ok (.iload_n 2, 1) := by decide +kernel
theorem dX4_readNumber_81 : decode cX4_readNumber 81 = .ok (.iastore, 1) := by decide +kernel
theorem dX4_readNumber_82 : decode cX4_readNumber 82 = .ok (.iconst 1, 1) := by decide +kernel
theorem dX4_readNumber_83 : decode cX4_readNumber 83 = .ok (.ireturn, 1) := by decide +kernel
def vb_X4_readNumber_4 (Q : Int32 → Mem → Prop) (rec : Nat → Mem → Int32 → Int32 → Int32 → Prop) (ο : Mem) (w1 : Int32) (w2 : Int32) (w3 : Int32) : Prop :=
  ((3 ≤ w3) → (rec 1 ο w1 w2 w3)) ∧ ((¬ 3 ≤ w3) → (vc_X4_signAt (fun r2 => vc_X7_within (fun r3 => ((r3 = 0) → (rec 1 ο w1 w2 w3)) ∧ ((¬ r3 = 0) → (vc_X4_signAt (fun r5 => ∀ v6 : Int32, v6 = (((10 * w2) + r5) - 48) → (∀ v7 : Int32, v7 = w3 + 1 → (∀ ο8 : Mem, ο8 = up ο 0 5 ((ο 0 5) + 1) → (rec 0 ο8 w1 v6 v7)))) ο (ο 0 5)))) r2 48 57) ο (ο 0 5)))
def vb_X4_readNumber_60 (Q : Int32 → Mem → Prop) (rec : Nat → Mem → Int32 → Int32 → Int32 → Prop) (ο : Mem) (w1 : Int32) (w2 : Int32) (w3 : Int32) : Prop :=
  ((w3 = 0) → (Q 0 ο)) ∧ ((¬ w3 = 0) → (vc_X7_within (fun r10 => ((¬ r10 = 0) → (vp_in w1 4 ∧ (∀ ο13 : Mem, ο13 = up ο 2 w1.toNatClampNeg w2 → (Q 1 ο13)))) ∧ ((r10 = 0) → (Q 0 ο))) w1 0 3))
def vl_X4_readNumber (Q : Int32 → Mem → Prop) : Nat → Nat → Mem → Int32 → Int32 → Int32 → Prop
  | 0, _, _, _, _, _ => False
  | n + 1, 0, ο, w1, w2, w3 => vb_X4_readNumber_4 Q (vl_X4_readNumber Q n) ο w1 w2 w3
  | n + 1, 1, ο, w1, w2, w3 => vb_X4_readNumber_60 Q (vl_X4_readNumber Q n) ο w1 w2 w3
  | _ + 1, _, _, _, _, _ => False
def vc_X4_readNumber (Q : Int32 → Mem → Prop) (ο : Mem) (x1 : Int32) : Prop :=
  ∃ n : Nat, vl_X4_readNumber Q n 0 ο x1 0 0
set_option maxHeartbeats 8000000 in
set_option maxRecDepth 100000 in
theorem m_X4_readNumber (l : Launch) (G : GG) (aO : Nat) (ο : Mem) (x1 : Int32) (Q : Int32 → Mem → Prop) (h : vc_X4_readNumber Q ο x1) : CtI l yX4_readNumber cX4_readNumber 4 (some .boolean) { frames := 2, cells := 0, slots := 0, locals := 43 } [.ref (aO + 0), .int x1] G (fun H => rg G LO aO ο H) (Q) (fun u H => rg G LO aO u H) (RA aO 3) := by
  unfold CtI
  refine met_start (y := yX4_readNumber) (maxL := 4) (av := [.ref (aO + 0), .int x1]) (G := G) (P := fun H => rg G LO aO ο H) (by decide) rfl (Nat.le_of_ble_eq_true rfl) (fun p e s m below meth c ls C hr hP hK hl => ?_)
  obtain ⟨hx, hb, hml, hown, hts, hlocks⟩ := id C
  have hO : rg G LO aO ο s.heap := hP
  have hS : va_S (RA aO 3) s.heap s.heap [] := va_S.rf
  have hl : lv_has ls 4 [(0, .ref (aO + 0)), (1, .int x1)] := hl
  have K : ∀ n : Nat, (∀ (ο : Mem) (w1 : Int32) (w2 : Int32) (w3 : Int32) (H : Heap) (locs : List Loc) (ls : Array Slot), rg G LO aO ο H → va_S (RA aO 3) s.heap H locs → lv_has ls 4 [(0, .ref (aO + 0)), (1, .int w1), (2, .int w2), (3, .int w3)] → vl_X4_readNumber Q n 0 ο w1 w2 w3 → W p l e { frames := 2, cells := 0, slots := 0, locals := 43 } s m [.ref (aO + 0), .int x1].toArray below meth c H locs 0 0 (MQ below (va_Qi (Q) (fun u t => (fun u H => rg G LO aO u H) u t.heap ∧ KK G t) (RA aO 3)) [.ref (aO + 0), .int x1].toArray s 0 0 (RA aO 3)) (F0 m 4 ls [])) ∧ (∀ (ο : Mem) (w1 : Int32) (w2 : Int32) (w3 : Int32) (H : Heap) (locs : List Loc) (ls : Array Slot), rg G LO aO ο H → va_S (RA aO 3) s.heap H locs → lv_has ls 4 [(0, .ref (aO + 0)), (1, .int w1), (2, .int w2), (3, .int w3)] → vl_X4_readNumber Q n 1 ο w1 w2 w3 → W p l e { frames := 2, cells := 0, slots := 0, locals := 43 } s m [.ref (aO + 0), .int x1].toArray below meth c H locs 0 0 (MQ below (va_Qi (Q) (fun u t => (fun u H => rg G LO aO u H) u t.heap ∧ KK G t) (RA aO 3)) [.ref (aO + 0), .int x1].toArray s 0 0 (RA aO 3)) (F0 m 60 ls [])) := by
    intro n
    induction n with
    | zero => exact ⟨fun _ _ _ _ _ _ _ _ _ _ h => h.elim, fun _ _ _ _ _ _ _ _ _ _ h => h.elim⟩
    | succ n ih =>
      refine ⟨?_, ?_⟩
      · intro ο w1 w2 w3 H locs ls hO hS hl h
        replace h : vb_X4_readNumber_4 Q (vl_X4_readNumber Q n) ο w1 w2 w3 := h
        unfold vb_X4_readNumber_4 at h
        refine lv_iload_n hx hb dX4_readNumber_4 rfl (lv_at hl 3 rfl) ?_
        refine lv_iconst (v := 3) hx hb dX4_readNumber_5 (by decide) ?_
        refine lv_icmp_ge (tgt := 60) hx hb dX4_readNumber_6 (by decide) (fun c1 => ?_) (fun c1 => ?_)
        · replace h := h.1 c1
          exact (ih.2) ο w1 w2 w3 _ _ _ hO hS (lv_sub hl [0, 1, 2, 3] rfl) h
        · replace h := h.2 c1
          refine lv_aload_n hx hb dX4_readNumber_9 rfl (lv_at hl 0 rfl) ?_
          refine lv_aload_n hx hb dX4_readNumber_10 rfl (lv_at hl 0 rfl) ?_
          refine g_getI (a := aO) (k := 0) C hK hO fl_X4_26 rfl rfl dX4_readNumber_11 ?_
          refine g_vI C hK hl.1 (m_X4_signAt l G aO ο (ο 0 5) _ h) mw_X4_signAt mi_X4_signAt ml_X4_42 rfl ⟨rfl, rfl, Nat.le_of_ble_eq_true rfl, Nat.le_of_ble_eq_true rfl⟩ ⟨Nat.zero_le _, Nat.zero_le _⟩ (g_recv (a := aO) (k := 0) hK hO rfl rfl) hO hS (fun _ h => h.elim) rfl (Nat.le_of_ble_eq_true rfl) dX4_readNumber_14 (fun r2 u H locs h hu _ hq hS => ?_)
          have hO := hO.past hq (fun _ _ h => h)
          refine lv_bipush (v := 48) hx hb dX4_readNumber_17 (by decide) ?_
          refine lv_bipush (v := 57) hx hb dX4_readNumber_19 (by decide) ?_
          refine g_nI C hK hl.1 (m_X7_within l G r2 48 57 _ h) mw_X7_within ms_X7_within nl_X4_60 rfl ⟨rfl, rfl, Nat.le_of_ble_eq_true rfl, Nat.le_of_ble_eq_true rfl⟩ ⟨Nat.zero_le _, Nat.zero_le _⟩ trivial hS (fun _ h => h.elim) rfl (Nat.le_of_ble_eq_true rfl) dX4_readNumber_21 (fun r3 u H locs h hu _ hq hS => ?_)
          have hO := hO.past hq (fun _ _ h => h)
          refine lv_if_eq (tgt := 60) hx hb dX4_readNumber_24 (by decide) (fun c4 => ?_) (fun c4 => ?_)
          · replace h := h.1 c4
            exact (ih.2) ο w1 w2 w3 _ _ _ hO hS (lv_sub hl [0, 1, 2, 3] rfl) h
          · replace h := h.2 c4
            refine lv_bipush (v := 10) hx hb dX4_readNumber_27 (by decide) ?_
            refine lv_iload_n hx hb dX4_readNumber_29 rfl (lv_at hl 2 rfl) ?_
            refine lv_imul hx hb dX4_readNumber_30 ?_
            refine lv_aload_n hx hb dX4_readNumber_31 rfl (lv_at hl 0 rfl) ?_
            refine lv_aload_n hx hb dX4_readNumber_32 rfl (lv_at hl 0 rfl) ?_
            refine g_getI (a := aO) (k := 0) C hK hO fl_X4_26 rfl rfl dX4_readNumber_33 ?_
            refine g_vI C hK hl.1 (m_X4_signAt l G aO ο (ο 0 5) _ h) mw_X4_signAt mi_X4_signAt ml_X4_42 rfl ⟨rfl, rfl, Nat.le_of_ble_eq_true rfl, Nat.le_of_ble_eq_true rfl⟩ ⟨Nat.zero_le _, Nat.zero_le _⟩ (g_recv (a := aO) (k := 0) hK hO rfl rfl) hO hS (fun _ h => h.elim) rfl (Nat.le_of_ble_eq_true rfl) dX4_readNumber_36 (fun r5 u H locs h hu _ hq hS => ?_)
            have hO := hO.past hq (fun _ _ h => h)
            refine lv_iadd hx hb dX4_readNumber_39 ?_
            refine lv_bipush (v := 48) hx hb dX4_readNumber_40 (by decide) ?_
            refine lv_isub hx hb dX4_readNumber_42 ?_
            refine lv_topi (fun v6 ev6 => ?_)
            specialize h v6 ev6
            refine lv_istore_n (lv' := [(2, .int v6), (0, .ref (aO + 0)), (1, .int w1), (3, .int w3)]) hx hb dX4_readNumber_43 rfl hl (by decide) rfl (fun ls hl => ?_)
            obtain ⟨v7, ev7⟩ : ∃ y : Int32, y = w3 + 1 := ⟨_, rfl⟩
            specialize h v7 ev7
            refine lv_iinc (v := v7) (lv' := [(3, .int v7), (2, .int v6), (0, .ref (aO + 0)), (1, .int w1)]) hx hb dX4_readNumber_44 hl (k := 3) rfl (by rw [ev7]; rfl) (by decide) rfl (fun ls hl => ?_)
            refine lv_aload_n hx hb dX4_readNumber_47 rfl (lv_at hl 2 rfl) ?_
            refine lv_dup hx hb dX4_readNumber_48 rfl ?_
            refine g_getI (a := aO) (k := 0) C hK hO fl_X4_26 rfl rfl dX4_readNumber_49 ?_
            refine lv_iconst (v := 1) hx hb dX4_readNumber_52 (by decide) ?_
            refine lv_iadd hx hb dX4_readNumber_53 ?_
            refine g_put (a := aO) (k := 0) C hK hO hS fl_X4_26 fp_X4_5 rfl rfl (by rfl) (by rfl) (RA_in (by decide)) dX4_readNumber_54 (fun ο8 H locs eο8 hO hS hq => ?_)
            specialize h ο8 eο8
            refine lv_goto (tgt := 4) hx hb dX4_readNumber_57 (by decide) ?_
            exact (ih.1) ο8 w1 v6 v7 _ _ _ hO hS (lv_sub hl [2, 3, 1, 0] rfl) h
      · intro ο w1 w2 w3 H locs ls hO hS hl h
        replace h : vb_X4_readNumber_60 Q (vl_X4_readNumber Q n) ο w1 w2 w3 := h
        unfold vb_X4_readNumber_60 at h
        refine lv_iload_n hx hb dX4_readNumber_60 rfl (lv_at hl 3 rfl) ?_
        refine lv_if_eq (tgt := 73) hx hb dX4_readNumber_61 (by decide) (fun c9 => ?_) (fun c9 => ?_)
        · replace h := h.1 c9
          refine lv_iconst (v := 0) hx hb dX4_readNumber_73 (by decide) ?_
          exact g_zret (post := Q) (P' := fun u H => rg G LO aO u H) (r := 0) (u := ο) C hr hK hS (by rfl) h hO dX4_readNumber_74
        · replace h := h.2 c9
          refine lv_iload_n hx hb dX4_readNumber_64 rfl (lv_at hl 1 rfl) ?_
          refine lv_iconst (v := 0) hx hb dX4_readNumber_65 (by decide) ?_
          refine lv_iconst (v := 3) hx hb dX4_readNumber_66 (by decide) ?_
          refine g_nI C hK hl.1 (m_X7_within l G w1 0 3 _ h) mw_X7_within ms_X7_within nl_X4_60 rfl ⟨rfl, rfl, Nat.le_of_ble_eq_true rfl, Nat.le_of_ble_eq_true rfl⟩ ⟨Nat.zero_le _, Nat.zero_le _⟩ trivial hS (fun _ h => h.elim) rfl (Nat.le_of_ble_eq_true rfl) dX4_readNumber_67 (fun r10 u H locs h hu _ hq hS => ?_)
          have hO := hO.past hq (fun _ _ h => h)
          refine lv_if_ne (tgt := 75) hx hb dX4_readNumber_70 (by decide) (fun c11 => ?_) (fun c11 => ?_)
          · replace h := h.1 c11
            refine lv_aload_n hx hb dX4_readNumber_75 rfl (lv_at hl 0 rfl) ?_
            refine g_getR (a := aO) (k := 0) (o := 2) C hK hO fl_X4_15 rfl rfl dX4_readNumber_76 ?_
            refine lv_iload_n hx hb dX4_readNumber_79 rfl (lv_at hl 1 rfl) ?_
            refine lv_iload_n hx hb dX4_readNumber_80 rfl (lv_at hl 2 rfl) ?_
            obtain ⟨b12, h⟩ := h
            refine g_ast (a := aO) (k := 2) (n := 4) C hK hO hS rfl b12 (RA_in (by decide)) dX4_readNumber_81 (fun ο13 H locs eο13 hO hS hq => ?_)
            specialize h ο13 eο13
            refine lv_iconst (v := 1) hx hb dX4_readNumber_82 (by decide) ?_
            exact g_zret (post := Q) (P' := fun u H => rg G LO aO u H) (r := 1) (u := ο13) C hr hK hS (by rfl) h hO dX4_readNumber_83
          · replace h := h.2 c11
            refine lv_iconst (v := 0) hx hb dX4_readNumber_73 (by decide) ?_
            exact g_zret (post := Q) (P' := fun u H => rg G LO aO u H) (r := 0) (u := ο) C hr hK hS (by rfl) h hO dX4_readNumber_74
  unfold vc_X4_readNumber at h
  obtain ⟨n, h⟩ := h
  refine lv_iconst (v := 0) hx hb dX4_readNumber_0 (by decide) ?_
  refine lv_istore_n (lv' := [(2, .int 0), (0, .ref (aO + 0)), (1, .int x1)]) hx hb dX4_readNumber_1 rfl hl (by decide) rfl (fun ls hl => ?_)
  refine lv_iconst (v := 0) hx hb dX4_readNumber_2 (by decide) ?_
  refine lv_istore_n (lv' := [(3, .int 0), (2, .int 0), (0, .ref (aO + 0)), (1, .int x1)]) hx hb dX4_readNumber_3 rfl hl (by decide) rfl (fun ls hl => ?_)
  exact ((K n).1) ο x1 0 0 _ _ _ hO hS (lv_sub hl [2, 3, 1, 0] rfl) h
theorem dX4_readSign_0 : decode cX4_readSign 0 = .ok (.aload_n 0, 1) := by decide +kernel
theorem dX4_readSign_1 : decode cX4_readSign 1 = .ok (.aload_n 0, 1) := by decide +kernel
theorem dX4_readSign_2 : decode cX4_readSign 2 = .ok (.getfield 26, 3) := by decide +kernel
theorem dX4_readSign_5 : decode cX4_readSign 5 = .ok (.invokevirtual 42, 3) := by decide +kernel
theorem dX4_readSign_8 : decode cX4_readSign 8 = .ok (.iload_n 1, 1) := by decide +kernel
theorem dX4_readSign_9 : decode cX4_readSign 9 = .ok (.if_icmp .eq 5, 3) := by decide +kernel
theorem dX4_readSign_12 : decode cX4_readSign 12 = .ok (.iconst 0, 1) := by decide +kernel
theorem dX4_readSign_13 : decode cX4_readSign 13 = .ok (.ireturn, 1) := by decide +kernel
theorem dX4_readSign_14 : decode cX4_readSign 14 = .ok (.aload_n 0, 1) := by decide +kernel
theorem dX4_readSign_15 : decode cX4_readSign 15 = .ok (.dup, 1) := by decide +kernel
theorem dX4_readSign_16 : decode cX4_readSign 16 = .ok (.getfield 26, 3) := by decide +kernel
theorem dX4_readSign_19 : decode cX4_readSign 19 = .ok (.iconst 1, 1) := by decide +kernel
theorem dX4_readSign_20 : decode cX4_readSign 20 = .ok (.iadd, 1) := by decide +kernel
theorem dX4_readSign_21 : decode cX4_readSign 21 = .ok (.putfield 26, 3) := by decide +kernel
theorem dX4_readSign_24 : decode cX4_readSign 24 = .ok (.iconst 1, 1) := by decide +kernel
theorem dX4_readSign_25 : decode cX4_readSign 25 = .ok (.ireturn, 1) := by decide +kernel
def vc_X4_readSign (Q : Int32 → Mem → Prop) (ο : Mem) (x1 : Int32) : Prop :=
  vc_X4_signAt (fun r1 => ((r1 = x1) → (∀ ο3 : Mem, ο3 = up ο 0 5 ((ο 0 5) + 1) → (Q 1 ο3))) ∧ ((¬ r1 = x1) → (Q 0 ο))) ο (ο 0 5)
set_option maxHeartbeats 8000000 in
set_option maxRecDepth 100000 in
theorem m_X4_readSign (l : Launch) (G : GG) (aO : Nat) (ο : Mem) (x1 : Int32) (Q : Int32 → Mem → Prop) (h : vc_X4_readSign Q ο x1) : CtI l yX4_readSign cX4_readSign 2 (some .boolean) { frames := 2, cells := 0, slots := 0, locals := 43 } [.ref (aO + 0), .int x1] G (fun H => rg G LO aO ο H) (Q) (fun u H => rg G LO aO u H) (RA aO 3) := by
  unfold CtI
  refine met_start (y := yX4_readSign) (maxL := 2) (av := [.ref (aO + 0), .int x1]) (G := G) (P := fun H => rg G LO aO ο H) (by decide) rfl (Nat.le_of_ble_eq_true rfl) (fun p e s m below meth c ls C hr hP hK hl => ?_)
  obtain ⟨hx, hb, hml, hown, hts, hlocks⟩ := id C
  have hO : rg G LO aO ο s.heap := hP
  have hS : va_S (RA aO 3) s.heap s.heap [] := va_S.rf
  have hl : lv_has ls 2 [(0, .ref (aO + 0)), (1, .int x1)] := hl
  unfold vc_X4_readSign at h
  refine lv_aload_n hx hb dX4_readSign_0 rfl (lv_at hl 0 rfl) ?_
  refine lv_aload_n hx hb dX4_readSign_1 rfl (lv_at hl 0 rfl) ?_
  refine g_getI (a := aO) (k := 0) C hK hO fl_X4_26 rfl rfl dX4_readSign_2 ?_
  refine g_vI C hK hl.1 (m_X4_signAt l G aO ο (ο 0 5) _ h) mw_X4_signAt mi_X4_signAt ml_X4_42 rfl ⟨rfl, rfl, Nat.le_of_ble_eq_true rfl, Nat.le_of_ble_eq_true rfl⟩ ⟨Nat.zero_le _, Nat.zero_le _⟩ (g_recv (a := aO) (k := 0) hK hO rfl rfl) hO hS (fun _ h => h.elim) rfl (Nat.le_of_ble_eq_true rfl) dX4_readSign_5 (fun r1 u H locs h hu _ hq hS => ?_)
  have hO := hO.past hq (fun _ _ h => h)
  refine lv_iload_n hx hb dX4_readSign_8 rfl (lv_at hl 1 rfl) ?_
  refine lv_icmp_eq (tgt := 14) hx hb dX4_readSign_9 (by decide) (fun c2 => ?_) (fun c2 => ?_)
  · replace h := h.1 c2
    refine lv_aload_n hx hb dX4_readSign_14 rfl (lv_at hl 0 rfl) ?_
    refine lv_dup hx hb dX4_readSign_15 rfl ?_
    refine g_getI (a := aO) (k := 0) C hK hO fl_X4_26 rfl rfl dX4_readSign_16 ?_
    refine lv_iconst (v := 1) hx hb dX4_readSign_19 (by decide) ?_
    refine lv_iadd hx hb dX4_readSign_20 ?_
    refine g_put (a := aO) (k := 0) C hK hO hS fl_X4_26 fp_X4_5 rfl rfl (by rfl) (by rfl) (RA_in (by decide)) dX4_readSign_21 (fun ο3 H locs eο3 hO hS hq => ?_)
    specialize h ο3 eο3
    refine lv_iconst (v := 1) hx hb dX4_readSign_24 (by decide) ?_
    exact g_zret (post := Q) (P' := fun u H => rg G LO aO u H) (r := 1) (u := ο3) C hr hK hS (by rfl) h hO dX4_readSign_25
  · replace h := h.2 c2
    refine lv_iconst (v := 0) hx hb dX4_readSign_12 (by decide) ?_
    exact g_zret (post := Q) (P' := fun u H => rg G LO aO u H) (r := 0) (u := ο) C hr hK hS (by rfl) h hO dX4_readSign_13
theorem dX4_readOrder_0 : decode cX4_readOrder 0 = .ok (.aload_n 0, 1) := by decide +kernel
theorem dX4_readOrder_1 : decode cX4_readOrder 1 = .ok (.aload_n 0, 1) := by decide +kernel
theorem dX4_readOrder_2 : decode cX4_readOrder 2 = .ok (.getfield 26, 3) := by decide +kernel
theorem dX4_readOrder_5 : decode cX4_readOrder 5 = .ok (.invokevirtual 42, 3) := by decide +kernel
theorem dX4_readOrder_8 : decode cX4_readOrder 8 = .ok (.invokestatic 50, 3) := by decide +kernel
theorem dX4_readOrder_11 : decode cX4_readOrder 11 = .ok (.istore_n 1, 1) := by decide +kernel
theorem dX4_readOrder_12 : decode cX4_readOrder 12 = .ok (.iload_n 1, 1) := by decide +kernel
theorem dX4_readOrder_13 : decode cX4_readOrder 13 = .ok (.ifCond .ne 5, 3) := by decide +kernel
theorem dX4_readOrder_16 : decode cX4_readOrder 16 = .ok (.iconst 0, 1) := by decide +kernel
theorem dX4_readOrder_17 : decode cX4_readOrder 17 = .ok (.ireturn, 1) := by decide +kernel
theorem dX4_readOrder_18 : decode cX4_readOrder 18 = .ok (.aload_n 0, 1) := by decide +kernel
theorem dX4_readOrder_19 : decode cX4_readOrder 19 = .ok (.dup, 1) := by decide +kernel
theorem dX4_readOrder_20 : decode cX4_readOrder 20 = .ok (.getfield 26, 3) := by decide +kernel
theorem dX4_readOrder_23 : decode cX4_readOrder 23 = .ok (.iconst 1, 1) := by decide +kernel
theorem dX4_readOrder_24 : decode cX4_readOrder 24 = .ok (.iadd, 1) := by decide +kernel
theorem dX4_readOrder_25 : decode cX4_readOrder 25 = .ok (.putfield 26, 3) := by decide +kernel
theorem dX4_readOrder_28 : decode cX4_readOrder 28 = .ok (.iconst 0, 1) := by decide +kernel
theorem dX4_readOrder_29 : decode cX4_readOrder 29 = .ok (.istore_n 2, 1) := by decide +kernel
theorem dX4_readOrder_30 : decode cX4_readOrder 30 = .ok (.iload_n 2, 1) := by decide +kernel
theorem dX4_readOrder_31 : decode cX4_readOrder 31 = .ok (.iload_n 1, 1) := by decide +kernel
theorem dX4_readOrder_32 : decode cX4_readOrder 32 = .ok (.if_icmp .ge 40, 3) := by decide +kernel
theorem dX4_readOrder_35 : decode cX4_readOrder 35 = .ok (.aload_n 0, 1) := by decide +kernel
theorem dX4_readOrder_36 : decode cX4_readOrder 36 = .ok (.iload_n 2, 1) := by decide +kernel
theorem dX4_readOrder_37 : decode cX4_readOrder 37 = .ok (.invokevirtual 53, 3) := by decide +kernel
theorem dX4_readOrder_40 : decode cX4_readOrder 40 = .ok (.ifCond .eq 24, 3) := by decide +kernel
theorem dX4_readOrder_43 : decode cX4_readOrder 43 = .ok (.aload_n 0, 1) := by decide +kernel
theorem dX4_readOrder_44 : decode cX4_readOrder 44 = .ok (.iload_n 2, 1) := by decide +kernel
theorem dX4_readOrder_45 : decode cX4_readOrder 45 = .ok (.iload_n 1, 1) := by decide +kernel
theorem dX4_readOrder_46 : decode cX4_readOrder 46 = .ok (.iconst 1, 1) := by decide +kernel
theorem dX4_readOrder_47 : decode cX4_readOrder 47 = .ok (.isub, 1) := by decide +kernel
theorem dX4_readOrder_48 : decode cX4_readOrder 48 = .ok (.if_icmp .ge 8, 3) := by decide +kernel
theorem dX4_readOrder_51 : decode cX4_readOrder 51 = .ok (.bipush 44, 2) := by decide +kernel
theorem dX4_readOrder_53 : decode cX4_readOrder 53 = .ok (.goto 5, 3) := by decide +kernel
theorem dX4_readOrder_56 : decode cX4_readOrder 56 = .ok (.bipush 59, 2) := by decide +kernel
theorem dX4_readOrder_58 : decode cX4_readOrder 58 = .ok (.invokevirtual 57, 3) := by decide +kernel
theorem dX4_readOrder_61 : decode cX4_readOrder 61 = .ok (.ifCond .ne 5, 3) := by decide +kernel
theorem dX4_readOrder_64 : decode cX4_readOrder 64 = .ok (.iconst 0, 1) := by decide +kernel
theorem dX4_readOrder_65 : decode cX4_readOrder 65 = .ok (.ireturn, 1) := by decide +kernel
theorem dX4_readOrder_66 : decode cX4_readOrder 66 = .ok (.iinc 2 1, 3) := by decide +kernel
theorem dX4_readOrder_69 : decode cX4_readOrder 69 = .ok (.goto (-39), 3) := by decide +kernel
theorem dX4_readOrder_72 : decode cX4_readOrder 72 = .ok (.iconst 1, 1) := by decide +kernel
theorem dX4_readOrder_73 : decode cX4_readOrder 73 = .ok (.ireturn, 1) := by decide +kernel
def vb_X4_readOrder_30 (Q : Int32 → Mem → Prop) (rec : Nat → Mem → Int32 → Int32 → Prop) (ο : Mem) (w1 : Int32) (w2 : Int32) : Prop :=
  ((w1 ≤ w2) → (Q 1 ο)) ∧ ((¬ w1 ≤ w2) → (vc_X4_readNumber (fun r6 ο7 => ((r6 = 0) → (Q 0 ο7)) ∧ ((¬ r6 = 0) → ((((w1 - 1) ≤ w2) → (vc_X4_readSign (fun r10 ο11 => ((¬ r10 = 0) → (∀ v13 : Int32, v13 = w2 + 1 → (rec 0 ο11 w1 v13))) ∧ ((r10 = 0) → (Q 0 ο11))) ο7 59)) ∧ ((¬ (w1 - 1) ≤ w2) → (vc_X4_readSign (fun r14 ο15 => ((¬ r14 = 0) → (∀ v17 : Int32, v17 = w2 + 1 → (rec 0 ο15 w1 v17))) ∧ ((r14 = 0) → (Q 0 ο15))) ο7 44))))) ο w2))
def vl_X4_readOrder (Q : Int32 → Mem → Prop) : Nat → Nat → Mem → Int32 → Int32 → Prop
  | 0, _, _, _, _ => False
  | n + 1, 0, ο, w1, w2 => vb_X4_readOrder_30 Q (vl_X4_readOrder Q n) ο w1 w2
  | _ + 1, _, _, _, _ => False
def vc_X4_readOrder (Q : Int32 → Mem → Prop) (ο : Mem) : Prop :=
  ∃ n : Nat, vc_X4_signAt (fun r1 => vc_X4_numbersOf (fun r2 => ((¬ r2 = 0) → (∀ ο4 : Mem, ο4 = up ο 0 5 ((ο 0 5) + 1) → (vl_X4_readOrder Q n 0 ο4 r2 0))) ∧ ((r2 = 0) → (Q 0 ο))) r1) ο (ο 0 5)
set_option maxHeartbeats 8000000 in
set_option maxRecDepth 100000 in
theorem m_X4_readOrder (l : Launch) (G : GG) (aO : Nat) (ο : Mem) (Q : Int32 → Mem → Prop) (h : vc_X4_readOrder Q ο) : CtI l yX4_readOrder cX4_readOrder 3 (some .boolean) { frames := 3, cells := 0, slots := 0, locals := 66 } [.ref (aO + 0)] G (fun H => rg G LO aO ο H) (Q) (fun u H => rg G LO aO u H) (RA aO 3) := by
  unfold CtI
  refine met_start (y := yX4_readOrder) (maxL := 3) (av := [.ref (aO + 0)]) (G := G) (P := fun H => rg G LO aO ο H) (by decide) rfl (Nat.le_of_ble_eq_true rfl) (fun p e s m below meth c ls C hr hP hK hl => ?_)
  obtain ⟨hx, hb, hml, hown, hts, hlocks⟩ := id C
  have hO : rg G LO aO ο s.heap := hP
  have hS : va_S (RA aO 3) s.heap s.heap [] := va_S.rf
  have hl : lv_has ls 3 [(0, .ref (aO + 0))] := hl
  have K : ∀ n : Nat, (∀ (ο : Mem) (w1 : Int32) (w2 : Int32) (H : Heap) (locs : List Loc) (ls : Array Slot), rg G LO aO ο H → va_S (RA aO 3) s.heap H locs → lv_has ls 3 [(0, .ref (aO + 0)), (1, .int w1), (2, .int w2)] → vl_X4_readOrder Q n 0 ο w1 w2 → W p l e { frames := 3, cells := 0, slots := 0, locals := 66 } s m [.ref (aO + 0)].toArray below meth c H locs 0 0 (MQ below (va_Qi (Q) (fun u t => (fun u H => rg G LO aO u H) u t.heap ∧ KK G t) (RA aO 3)) [.ref (aO + 0)].toArray s 0 0 (RA aO 3)) (F0 m 30 ls [])) := by
    intro n
    induction n with
    | zero => exact fun _ _ _ _ _ _ _ _ _ h => h.elim
    | succ n ih =>
      · intro ο w1 w2 H locs ls hO hS hl h
        replace h : vb_X4_readOrder_30 Q (vl_X4_readOrder Q n) ο w1 w2 := h
        unfold vb_X4_readOrder_30 at h
        refine lv_iload_n hx hb dX4_readOrder_30 rfl (lv_at hl 2 rfl) ?_
        refine lv_iload_n hx hb dX4_readOrder_31 rfl (lv_at hl 1 rfl) ?_
        refine lv_icmp_ge (tgt := 72) hx hb dX4_readOrder_32 (by decide) (fun c5 => ?_) (fun c5 => ?_)
        · replace h := h.1 c5
          refine lv_iconst (v := 1) hx hb dX4_readOrder_72 (by decide) ?_
          exact g_zret (post := Q) (P' := fun u H => rg G LO aO u H) (r := 1) (u := ο) C hr hK hS (by rfl) h hO dX4_readOrder_73
        · replace h := h.2 c5
          refine lv_aload_n hx hb dX4_readOrder_35 rfl (lv_at hl 0 rfl) ?_
          refine lv_iload_n hx hb dX4_readOrder_36 rfl (lv_at hl 2 rfl) ?_
          refine g_vI C hK hl.1 (m_X4_readNumber l G aO ο w2 _ h) mw_X4_readNumber mi_X4_readNumber ml_X4_53 rfl ⟨rfl, rfl, Nat.le_of_ble_eq_true rfl, Nat.le_of_ble_eq_true rfl⟩ ⟨Nat.zero_le _, Nat.zero_le _⟩ (g_recv (a := aO) (k := 0) hK hO rfl rfl) hO hS (fun _ h => h) rfl (Nat.le_of_ble_eq_true rfl) dX4_readOrder_37 (fun r6 u H locs h hu _ hq hS => ?_)
          obtain ⟨ο7, rfl⟩ : ∃ z, z = u := ⟨_, rfl⟩
          have hO := hu
          refine lv_if_eq (tgt := 64) hx hb dX4_readOrder_40 (by decide) (fun c8 => ?_) (fun c8 => ?_)
          · replace h := h.1 c8
            refine lv_iconst (v := 0) hx hb dX4_readOrder_64 (by decide) ?_
            exact g_zret (post := Q) (P' := fun u H => rg G LO aO u H) (r := 0) (u := ο7) C hr hK hS (by rfl) h hO dX4_readOrder_65
          · replace h := h.2 c8
            refine lv_aload_n hx hb dX4_readOrder_43 rfl (lv_at hl 0 rfl) ?_
            refine lv_iload_n hx hb dX4_readOrder_44 rfl (lv_at hl 2 rfl) ?_
            refine lv_iload_n hx hb dX4_readOrder_45 rfl (lv_at hl 1 rfl) ?_
            refine lv_iconst (v := 1) hx hb dX4_readOrder_46 (by decide) ?_
            refine lv_isub hx hb dX4_readOrder_47 ?_
            refine lv_icmp_ge (tgt := 56) hx hb dX4_readOrder_48 (by decide) (fun c9 => ?_) (fun c9 => ?_)
            · replace h := h.1 c9
              refine lv_bipush (v := 59) hx hb dX4_readOrder_56 (by decide) ?_
              refine g_vI C hK hl.1 (m_X4_readSign l G aO ο7 59 _ h) mw_X4_readSign mi_X4_readSign ml_X4_57 rfl ⟨rfl, rfl, Nat.le_of_ble_eq_true rfl, Nat.le_of_ble_eq_true rfl⟩ ⟨Nat.zero_le _, Nat.zero_le _⟩ (g_recv (a := aO) (k := 0) hK hO rfl rfl) hO hS (fun _ h => h) rfl (Nat.le_of_ble_eq_true rfl) dX4_readOrder_58 (fun r10 u H locs h hu _ hq hS => ?_)
              obtain ⟨ο11, rfl⟩ : ∃ z, z = u := ⟨_, rfl⟩
              have hO := hu
              refine lv_if_ne (tgt := 66) hx hb dX4_readOrder_61 (by decide) (fun c12 => ?_) (fun c12 => ?_)
              · replace h := h.1 c12
                obtain ⟨v13, ev13⟩ : ∃ y : Int32, y = w2 + 1 := ⟨_, rfl⟩
                specialize h v13 ev13
                refine lv_iinc (v := v13) (lv' := [(2, .int v13), (0, .ref (aO + 0)), (1, .int w1)]) hx hb dX4_readOrder_66 hl (k := 2) rfl (by rw [ev13]; rfl) (by decide) rfl (fun ls hl => ?_)
                refine lv_goto (tgt := 30) hx hb dX4_readOrder_69 (by decide) ?_
                exact (ih) ο11 w1 v13 _ _ _ hO hS (lv_sub hl [1, 2, 0] rfl) h
              · replace h := h.2 c12
                refine lv_iconst (v := 0) hx hb dX4_readOrder_64 (by decide) ?_
                exact g_zret (post := Q) (P' := fun u H => rg G LO aO u H) (r := 0) (u := ο11) C hr hK hS (by rfl) h hO dX4_readOrder_65
            · replace h := h.2 c9
              refine lv_bipush (v := 44) hx hb dX4_readOrder_51 (by decide) ?_
              refine lv_goto (tgt := 58) hx hb dX4_readOrder_53 (by decide) ?_
              refine g_vI C hK hl.1 (m_X4_readSign l G aO ο7 44 _ h) mw_X4_readSign mi_X4_readSign ml_X4_57 rfl ⟨rfl, rfl, Nat.le_of_ble_eq_true rfl, Nat.le_of_ble_eq_true rfl⟩ ⟨Nat.zero_le _, Nat.zero_le _⟩ (g_recv (a := aO) (k := 0) hK hO rfl rfl) hO hS (fun _ h => h) rfl (Nat.le_of_ble_eq_true rfl) dX4_readOrder_58 (fun r14 u H locs h hu _ hq hS => ?_)
              obtain ⟨ο15, rfl⟩ : ∃ z, z = u := ⟨_, rfl⟩
              have hO := hu
              refine lv_if_ne (tgt := 66) hx hb dX4_readOrder_61 (by decide) (fun c16 => ?_) (fun c16 => ?_)
              · replace h := h.1 c16
                obtain ⟨v17, ev17⟩ : ∃ y : Int32, y = w2 + 1 := ⟨_, rfl⟩
                specialize h v17 ev17
                refine lv_iinc (v := v17) (lv' := [(2, .int v17), (0, .ref (aO + 0)), (1, .int w1)]) hx hb dX4_readOrder_66 hl (k := 2) rfl (by rw [ev17]; rfl) (by decide) rfl (fun ls hl => ?_)
                refine lv_goto (tgt := 30) hx hb dX4_readOrder_69 (by decide) ?_
                exact (ih) ο15 w1 v17 _ _ _ hO hS (lv_sub hl [1, 2, 0] rfl) h
              · replace h := h.2 c16
                refine lv_iconst (v := 0) hx hb dX4_readOrder_64 (by decide) ?_
                exact g_zret (post := Q) (P' := fun u H => rg G LO aO u H) (r := 0) (u := ο15) C hr hK hS (by rfl) h hO dX4_readOrder_65
  unfold vc_X4_readOrder at h
  obtain ⟨n, h⟩ := h
  refine lv_aload_n hx hb dX4_readOrder_0 rfl (lv_at hl 0 rfl) ?_
  refine lv_aload_n hx hb dX4_readOrder_1 rfl (lv_at hl 0 rfl) ?_
  refine g_getI (a := aO) (k := 0) C hK hO fl_X4_26 rfl rfl dX4_readOrder_2 ?_
  refine g_vI C hK hl.1 (m_X4_signAt l G aO ο (ο 0 5) _ h) mw_X4_signAt mi_X4_signAt ml_X4_42 rfl ⟨rfl, rfl, Nat.le_of_ble_eq_true rfl, Nat.le_of_ble_eq_true rfl⟩ ⟨Nat.zero_le _, Nat.zero_le _⟩ (g_recv (a := aO) (k := 0) hK hO rfl rfl) hO hS (fun _ h => h.elim) rfl (Nat.le_of_ble_eq_true rfl) dX4_readOrder_5 (fun r1 u H locs h hu _ hq hS => ?_)
  have hO := hO.past hq (fun _ _ h => h)
  refine g_sI C hK hl.1 (m_X4_numbersOf l G r1 _ h) mw_X4_numbersOf ms_X4_numbersOf ml_X4_50 rfl ⟨rfl, rfl, Nat.le_of_ble_eq_true rfl, Nat.le_of_ble_eq_true rfl⟩ ⟨Nat.zero_le _, Nat.zero_le _⟩ trivial hS (fun _ h => h.elim) rfl (Nat.le_of_ble_eq_true rfl) dX4_readOrder_8 (fun r2 u H locs h hu _ hq hS => ?_)
  have hO := hO.past hq (fun _ _ h => h)
  refine lv_istore_n (lv' := [(1, .int r2), (0, .ref (aO + 0))]) hx hb dX4_readOrder_11 rfl hl (by decide) rfl (fun ls hl => ?_)
  refine lv_iload_n hx hb dX4_readOrder_12 rfl (lv_at hl 0 rfl) ?_
  refine lv_if_ne (tgt := 18) hx hb dX4_readOrder_13 (by decide) (fun c3 => ?_) (fun c3 => ?_)
  · replace h := h.1 c3
    refine lv_aload_n hx hb dX4_readOrder_18 rfl (lv_at hl 1 rfl) ?_
    refine lv_dup hx hb dX4_readOrder_19 rfl ?_
    refine g_getI (a := aO) (k := 0) C hK hO fl_X4_26 rfl rfl dX4_readOrder_20 ?_
    refine lv_iconst (v := 1) hx hb dX4_readOrder_23 (by decide) ?_
    refine lv_iadd hx hb dX4_readOrder_24 ?_
    refine g_put (a := aO) (k := 0) C hK hO hS fl_X4_26 fp_X4_5 rfl rfl (by rfl) (by rfl) (RA_in (by decide)) dX4_readOrder_25 (fun ο4 H locs eο4 hO hS hq => ?_)
    specialize h ο4 eο4
    refine lv_iconst (v := 0) hx hb dX4_readOrder_28 (by decide) ?_
    refine lv_istore_n (lv' := [(2, .int 0), (1, .int r2), (0, .ref (aO + 0))]) hx hb dX4_readOrder_29 rfl hl (by decide) rfl (fun ls hl => ?_)
    exact ((K n)) ο4 r2 0 _ _ _ hO hS (lv_sub hl [2, 1, 0] rfl) h
  · replace h := h.2 c3
    refine lv_iconst (v := 0) hx hb dX4_readOrder_16 (by decide) ?_
    exact g_zret (post := Q) (P' := fun u H => rg G LO aO u H) (r := 0) (u := ο) C hr hK hS (by rfl) h hO dX4_readOrder_17
