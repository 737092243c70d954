theorem dJxf58ca_isNaN_12338_0 : decode cJxf58ca_isNaN_12338 0 = .ok (.fload_n 0, 1) := by decide +kernel
theorem dJxf58ca_isNaN_12338_1 : decode cJxf58ca_isNaN_12338 1 = .ok (.fload_n 0, 1) := by decide +kernel
theorem dJxf58ca_isNaN_12338_2 : decode cJxf58ca_isNaN_12338 2 = .ok (.fcmp .l, 1) := by decide +kernel
theorem dJxf58ca_isNaN_12338_3 : decode cJxf58ca_isNaN_12338 3 = .ok (.ifCond .eq 7, 3) := by decide +kernel
theorem dJxf58ca_isNaN_12338_6 : decode cJxf58ca_isNaN_12338 6 = .ok (.iconst 1, 1) := by decide +kernel
theorem dJxf58ca_isNaN_12338_7 : decode cJxf58ca_isNaN_12338 7 = .ok (.goto 4, 3) := by decide +kernel
theorem dJxf58ca_isNaN_12338_10 : decode cJxf58ca_isNaN_12338 10 = .ok (.iconst 0, 1) := by decide +kernel
theorem dJxf58ca_isNaN_12338_11 : decode cJxf58ca_isNaN_12338 11 = .ok (.ireturn, 1) := by decide +kernel
def vc_Jxf58ca_isNaN_12338 (Q : Int32 → Prop) (x0 : UInt32) : Prop :=
  (((Op.cmpValue (FP.fcmp x0 x0) .l) = 0) → (Q 0 )) ∧ ((¬ (Op.cmpValue (FP.fcmp x0 x0) .l) = 0) → (Q 1 ))
set_option maxHeartbeats 8000000 in
set_option maxRecDepth 100000 in
theorem m_Jxf58ca_isNaN_12338 (l : Launch) (G : GG) (x0 : UInt32) (Q : Int32 → Prop) (h : vc_Jxf58ca_isNaN_12338 Q x0) : CtI l yJxf58ca_isNaN_12338 cJxf58ca_isNaN_12338 1 (some .boolean) { frames := 0, cells := 0, slots := 0, locals := 0 } [.float x0] G (fun H => True) (fun r (_ : Unit) => Q r) (fun _ _ => True) (fun _ => False) := by
  unfold CtI
  refine met_startF (y := yJxf58ca_isNaN_12338) (maxL := 1) (av := [.float x0]) (G := G) (P := fun H => True) (by decide +kernel) rfl (Nat.le_of_ble_eq_true rfl) (fun p e s m below meth c ls C hr hP hK hl => ?_)
  obtain ⟨hx, hb, hml, hown, hts, hlocks⟩ := id C
  have hS : va_S (fun _ => False) s.heap s.heap [] := va_S.rf
  have hl : lv_has ls 1 [(0, .float x0)] := hl
  unfold vc_Jxf58ca_isNaN_12338 at h
  refine lv_fload_n hx hb dJxf58ca_isNaN_12338_0 rfl (lv_at hl 0 rfl) ?_
  refine lv_fload_n hx hb dJxf58ca_isNaN_12338_1 rfl (lv_at hl 0 rfl) ?_
  refine lv_fcmp hx hb dJxf58ca_isNaN_12338_2 ?_
  refine lv_if_eq (tgt := 10) hx hb dJxf58ca_isNaN_12338_3 (by decide) (fun c1 => ?_) (fun c1 => ?_)
  · replace h := h.1 c1
    refine lv_iconst (v := 0) hx hb dJxf58ca_isNaN_12338_10 (by decide) ?_
    exact g_zret (post := fun r (_ : Unit) => Q r) (P' := fun _ _ => True) (r := 0) (u := ()) C hr hK hS (by rfl) h trivial dJxf58ca_isNaN_12338_11
  · replace h := h.2 c1
    refine lv_iconst (v := 1) hx hb dJxf58ca_isNaN_12338_6 (by decide) ?_
    refine lv_goto (tgt := 11) hx hb dJxf58ca_isNaN_12338_7 (by decide) ?_
    exact g_zret (post := fun r (_ : Unit) => Q r) (P' := fun _ _ => True) (r := 1) (u := ()) C hr hK hS (by rfl) h trivial dJxf58ca_isNaN_12338_11
theorem dJxf58ca_floatToIntBits_5c35a_0 : decode cJxf58ca_floatToIntBits_5c35a 0 = .ok (.fload_n 0, 1) := by decide +kernel
theorem dJxf58ca_floatToIntBits_5c35a_1 : decode cJxf58ca_floatToIntBits_5c35a 1 = .ok (.invokestatic 59, 3) := by decide +kernel
theorem dJxf58ca_floatToIntBits_5c35a_4 : decode cJxf58ca_floatToIntBits_5c35a 4 = .ok (.ifCond .ne 8, 3) := by decide +kernel
theorem dJxf58ca_floatToIntBits_5c35a_7 : decode cJxf58ca_floatToIntBits_5c35a 7 = .ok (.fload_n 0, 1) := by decide +kernel
theorem dJxf58ca_floatToIntBits_5c35a_8 : decode cJxf58ca_floatToIntBits_5c35a 8 = .ok (.invokestatic 74, 3) := by decide +kernel
theorem dJxf58ca_floatToIntBits_5c35a_11 : decode cJxf58ca_floatToIntBits_5c35a 11 = .ok (.ireturn, 1) := by decide +kernel
theorem dJxf58ca_floatToIntBits_5c35a_12 : decode cJxf58ca_floatToIntBits_5c35a 12 = .ok (.ldc 77, 2) := by decide +kernel
theorem dJxf58ca_floatToIntBits_5c35a_14 : decode cJxf58ca_floatToIntBits_5c35a 14 = .ok (.ireturn, 1) := by decide +kernel
def vc_Jxf58ca_floatToIntBits_5c35a (Q : Int32 → Prop) (x0 : UInt32) : Prop :=
  vc_Jxf58ca_isNaN_12338 (fun r1 => ((¬ r1 = 0) → (Q 2143289344 )) ∧ ((r1 = 0) → (Q (UInt32.toInt32 x0) ))) x0
set_option maxHeartbeats 8000000 in
set_option maxRecDepth 100000 in
theorem m_Jxf58ca_floatToIntBits_5c35a (l : Launch) (G : GG) (x0 : UInt32) (Q : Int32 → Prop) (h : vc_Jxf58ca_floatToIntBits_5c35a Q x0) : CtI l yJxf58ca_floatToIntBits_5c35a cJxf58ca_floatToIntBits_5c35a 1 (some .int) { frames := 1, cells := 0, slots := 0, locals := 23 } [.float x0] G (fun H => True) (fun r (_ : Unit) => Q r) (fun _ _ => True) (fun _ => False) := by
  unfold CtI
  refine met_startF (y := yJxf58ca_floatToIntBits_5c35a) (maxL := 1) (av := [.float x0]) (G := G) (P := fun H => True) (by decide +kernel) rfl (Nat.le_of_ble_eq_true rfl) (fun p e s m below meth c ls C hr hP hK hl => ?_)
  obtain ⟨hx, hb, hml, hown, hts, hlocks⟩ := id C
  have hS : va_S (fun _ => False) s.heap s.heap [] := va_S.rf
  have hl : lv_has ls 1 [(0, .float x0)] := hl
  unfold vc_Jxf58ca_floatToIntBits_5c35a at h
  refine lv_fload_n hx hb dJxf58ca_floatToIntBits_5c35a_0 rfl (lv_at hl 0 rfl) ?_
  refine g_sI C hK hl.1 (m_Jxf58ca_isNaN_12338 l G x0 _ h) mw_Jxf58ca_isNaN_12338 ms_Jxf58ca_isNaN_12338 ml_Jxf58ca_59 rfl ⟨rfl, rfl, Nat.le_of_ble_eq_true rfl, Nat.le_of_ble_eq_true rfl⟩ ⟨Nat.zero_le _, Nat.zero_le _⟩ trivial hS (fun _ h => h.elim) rfl (Nat.le_of_ble_eq_true rfl) dJxf58ca_floatToIntBits_5c35a_1 (fun r1 u H locs h hu _ hq hS => ?_)
  refine lv_if_ne (tgt := 12) hx hb dJxf58ca_floatToIntBits_5c35a_4 (by decide) (fun c2 => ?_) (fun c2 => ?_)
  · replace h := h.1 c2
    refine g_ldc C kc_Jxf58ca_77 dJxf58ca_floatToIntBits_5c35a_12 ?_
    exact g_iret (post := fun r (_ : Unit) => Q r) (P' := fun _ _ => True) (r := 2143289344) (u := ()) C hr hK hS h trivial dJxf58ca_floatToIntBits_5c35a_14
  · replace h := h.2 c2
    refine lv_fload_n hx hb dJxf58ca_floatToIntBits_5c35a_7 rfl (lv_at hl 0 rfl) ?_
    refine vn_f2i hx hb (hml.trans hl.1.symm) hown (hts _ raw_link) (hts _ raw_nat) (hts _ raw_stat) (hts _ raw_ini) (Nat.le_of_ble_eq_true rfl) (Nat.le_of_ble_eq_true rfl) dJxf58ca_floatToIntBits_5c35a_8 ?_
    exact g_iret (post := fun r (_ : Unit) => Q r) (P' := fun _ _ => True) (r := (UInt32.toInt32 x0)) (u := ()) C hr hK hS h trivial dJxf58ca_floatToIntBits_5c35a_11
theorem dX7_bitsOfShare_0 : decode cX7_bitsOfShare 0 = .ok (.fload_n 0, 1) := by decide +kernel
theorem dX7_bitsOfShare_1 : decode cX7_bitsOfShare 1 = .ok (.fconst 0, 1) := by decide +kernel
theorem dX7_bitsOfShare_2 : decode cX7_bitsOfShare 2 = .ok (.fcmp .g, 1) := by decide +kernel
theorem dX7_bitsOfShare_3 : decode cX7_bitsOfShare 3 = .ok (.ifCond .gt 5, 3) := by decide +kernel
theorem dX7_bitsOfShare_6 : decode cX7_bitsOfShare 6 = .ok (.iconst 0, 1) := by decide +kernel
theorem dX7_bitsOfShare_7 : decode cX7_bitsOfShare 7 = .ok (.ireturn, 1) := by decide +kernel
theorem dX7_bitsOfShare_8 : decode cX7_bitsOfShare 8 = .ok (.bipush 127, 2) := by decide +kernel
theorem dX7_bitsOfShare_10 : decode cX7_bitsOfShare 10 = .ok (.istore_n 1, 1) := by decide +kernel
theorem dX7_bitsOfShare_11 : decode cX7_bitsOfShare 11 = .ok (.fload_n 0, 1) := by decide +kernel
theorem dX7_bitsOfShare_12 : decode cX7_bitsOfShare 12 = .ok (.fstore_n 2, 1) := by decide +kernel
theorem dX7_bitsOfShare_13 : decode cX7_bitsOfShare 13 = .ok (.fload_n 2, 1) := by decide +kernel
theorem dX7_bitsOfShare_14 : decode cX7_bitsOfShare 14 = .ok (.fconst 1, 1) := by decide +kernel
theorem dX7_bitsOfShare_15 : decode cX7_bitsOfShare 15 = .ok (.fcmp .g, 1) := by decide +kernel
theorem dX7_bitsOfShare_16 : decode cX7_bitsOfShare 16 = .ok (.ifCond .ge 18, 3) := by decide +kernel
theorem dX7_bitsOfShare_19 : decode cX7_bitsOfShare 19 = .ok (.iload_n 1, 1) := by decide +kernel
theorem dX7_bitsOfShare_20 : decode cX7_bitsOfShare 20 = .ok (.iconst 1, 1) := by decide +kernel
theorem dX7_bitsOfShare_21 : decode cX7_bitsOfShare 21 = .ok (.if_icmp .le 13, 3) := by decide +kernel
theorem dX7_bitsOfShare_24 : decode cX7_bitsOfShare 24 = .ok (.fload_n 2, 1) := by decide +kernel
theorem dX7_bitsOfShare_25 : decode cX7_bitsOfShare 25 = .ok (.fconst 2, 1) := by decide +kernel
theorem dX7_bitsOfShare_26 : decode cX7_bitsOfShare 26 = .ok (.fmul, 1) := by decide +kernel
theorem dX7_bitsOfShare_27 : decode cX7_bitsOfShare 27 = .ok (.fstore_n 2, 1) := by decide +kernel
theorem dX7_bitsOfShare_28 : decode cX7_bitsOfShare 28 = .ok (.iinc 1 (-1), 3) := by decide +kernel
theorem dX7_bitsOfShare_31 : decode cX7_bitsOfShare 31 = .ok (.goto (-18), 3) := by decide +kernel
theorem dX7_bitsOfShare_34 : decode cX7_bitsOfShare 34 = .ok (.fload_n 2, 1) := by decide +kernel
theorem dX7_bitsOfShare_35 : decode cX7_bitsOfShare 35 = .ok (.ldc_w 271, 3) := by decide +kernel
theorem dX7_bitsOfShare_38 : decode cX7_bitsOfShare 38 = .ok (.fmul, 1) := by decide +kernel
theorem dX7_bitsOfShare_39 : decode cX7_bitsOfShare 39 = .ok (.f2i, 1) := by decide +kernel
theorem dX7_bitsOfShare_40 : decode cX7_bitsOfShare 40 = .ok (.ldc_w 272, 3) := by decide +kernel
theorem dX7_bitsOfShare_43 : decode cX7_bitsOfShare 43 = .ok (.isub, 1) := by decide +kernel
theorem dX7_bitsOfShare_44 : decode cX7_bitsOfShare 44 = .ok (.istore_n 3, 1) := by decide +kernel
theorem dX7_bitsOfShare_45 : decode cX7_bitsOfShare 45 = .ok (.iload_n 1, 1) := by decide +kernel
theorem dX7_bitsOfShare_46 : decode cX7_bitsOfShare 46 = .ok (.ldc_w 272, 3) := by decide +kernel
theorem dX7_bitsOfShare_49 : decode cX7_bitsOfShare 49 = .ok (.imul, 1) := by decide +kernel
theorem dX7_bitsOfShare_50 : decode cX7_bitsOfShare 50 = .ok (.iload_n 3, 1) := by decide +kernel
theorem dX7_bitsOfShare_51 : decode cX7_bitsOfShare 51 = .ok (.iadd, 1) := by decide +kernel
theorem dX7_bitsOfShare_52 : decode cX7_bitsOfShare 52 = .ok (.ireturn, 1) := by decide +kernel
def vb_X7_bitsOfShare_13 (Q : Int32 → Prop) (rec : Nat → Int32 → UInt32 → Prop) (w1 : Int32) (w2 : UInt32) : Prop :=
  ((0 ≤ (Op.cmpValue (FP.fcmp w2 1065353216) .g)) → (vf_n32 (FP.fmul w2 1258291200) ∧ (∀ v4 : Int32, v4 = ((FP.f2i (FP.fmul w2 1258291200)) - 8388608) → (Q ((w1 * 8388608) + v4) )))) ∧ ((¬ 0 ≤ (Op.cmpValue (FP.fcmp w2 1065353216) .g)) → (((w1 ≤ 1) → (vf_n32 (FP.fmul w2 1258291200) ∧ (∀ v7 : Int32, v7 = ((FP.f2i (FP.fmul w2 1258291200)) - 8388608) → (Q ((w1 * 8388608) + v7) )))) ∧ ((¬ w1 ≤ 1) → (vf_n32 (FP.fmul w2 1073741824) ∧ (∀ v9 : UInt32, v9 = (FP.fmul w2 1073741824) → (∀ v10 : Int32, v10 = w1 + (-1) → (rec 0 v10 v9)))))))
def vl_X7_bitsOfShare (Q : Int32 → Prop) : Nat → Nat → Int32 → UInt32 → Prop
  | 0, _, _, _ => False
  | n + 1, 0, w1, w2 => vb_X7_bitsOfShare_13 Q (vl_X7_bitsOfShare Q n) w1 w2
  | _ + 1, _, _, _ => False
def vc_X7_bitsOfShare (Q : Int32 → Prop) (x0 : UInt32) : Prop :=
  ∃ n : Nat, ((0 < (Op.cmpValue (FP.fcmp x0 0) .g)) → (vl_X7_bitsOfShare Q n 0 127 x0)) ∧ ((¬ 0 < (Op.cmpValue (FP.fcmp x0 0) .g)) → (Q 0 ))
set_option maxHeartbeats 8000000 in
set_option maxRecDepth 100000 in
theorem m_X7_bitsOfShare (l : Launch) (G : GG) (x0 : UInt32) (Q : Int32 → Prop) (h : vc_X7_bitsOfShare Q x0) : CtI l yX7_bitsOfShare cX7_bitsOfShare 4 (some .int) { frames := 0, cells := 0, slots := 0, locals := 0 } [.float x0] G (fun H => True) (fun r (_ : Unit) => Q r) (fun _ _ => True) (fun _ => False) := by
  unfold CtI
  refine met_start (y := yX7_bitsOfShare) (maxL := 4) (av := [.float x0]) (G := G) (P := fun H => True) (by decide) rfl (Nat.le_of_ble_eq_true rfl) (fun p e s m below meth c ls C hr hP hK hl => ?_)
  obtain ⟨hx, hb, hml, hown, hts, hlocks⟩ := id C
  have hS : va_S (fun _ => False) s.heap s.heap [] := va_S.rf
  have hl : lv_has ls 4 [(0, .float x0)] := hl
  have K : ∀ n : Nat, (∀ (w1 : Int32) (w2 : UInt32) (H : Heap) (locs : List Loc) (ls : Array Slot), va_S (fun _ => False) s.heap H locs → lv_has ls 4 [(1, .int w1), (2, .float w2)] → vl_X7_bitsOfShare Q n 0 w1 w2 → W p l e { frames := 0, cells := 0, slots := 0, locals := 0 } s m [.float x0].toArray below meth c H locs 0 0 (MQ below (va_Qi (fun r (_ : Unit) => Q r) (fun u t => (fun _ _ => True) u t.heap ∧ KK G t) (fun _ => False)) [.float x0].toArray s 0 0 (fun _ => False)) (F0 m 13 ls [])) := by
    intro n
    induction n with
    | zero => exact fun _ _ _ _ _ _ _ h => h.elim
    | succ n ih =>
      · intro w1 w2 H locs ls  hS hl h
        replace h : vb_X7_bitsOfShare_13 Q (vl_X7_bitsOfShare Q n) w1 w2 := h
        unfold vb_X7_bitsOfShare_13 at h
        refine lv_fload_n hx hb dX7_bitsOfShare_13 rfl (lv_at hl 1 rfl) ?_
        refine lv_fconst1 hx hb dX7_bitsOfShare_14 ?_
        refine lv_fcmp hx hb dX7_bitsOfShare_15 ?_
        refine lv_if_ge (tgt := 34) hx hb dX7_bitsOfShare_16 (by decide) (fun c2 => ?_) (fun c2 => ?_)
        · replace h := h.1 c2
          refine lv_fload_n hx hb dX7_bitsOfShare_34 rfl (lv_at hl 1 rfl) ?_
          refine g_ldcwf C kf_X7_271 dX7_bitsOfShare_35 ?_
          obtain ⟨n3, h⟩ := h
          refine lv_fmul hx hb dX7_bitsOfShare_38 n3 ?_
          refine lv_f2i hx hb dX7_bitsOfShare_39 ?_
          refine g_ldcw C kc_X7_272 dX7_bitsOfShare_40 ?_
          refine lv_isub hx hb dX7_bitsOfShare_43 ?_
          refine lv_topi (fun v4 ev4 => ?_)
          specialize h v4 ev4
          refine lv_istore_n (lv' := [(3, .int v4), (1, .int w1), (2, .float w2)]) hx hb dX7_bitsOfShare_44 rfl hl (by decide) rfl (fun ls hl => ?_)
          refine lv_iload_n hx hb dX7_bitsOfShare_45 rfl (lv_at hl 1 rfl) ?_
          refine g_ldcw C kc_X7_272 dX7_bitsOfShare_46 ?_
          refine lv_imul hx hb dX7_bitsOfShare_49 ?_
          refine lv_iload_n hx hb dX7_bitsOfShare_50 rfl (lv_at hl 0 rfl) ?_
          refine lv_iadd hx hb dX7_bitsOfShare_51 ?_
          exact g_iret (post := fun r (_ : Unit) => Q r) (P' := fun _ _ => True) (r := ((w1 * 8388608) + v4)) (u := ()) C hr hK hS h trivial dX7_bitsOfShare_52
        · replace h := h.2 c2
          refine lv_iload_n hx hb dX7_bitsOfShare_19 rfl (lv_at hl 0 rfl) ?_
          refine lv_iconst (v := 1) hx hb dX7_bitsOfShare_20 (by decide) ?_
          refine lv_icmp_le (tgt := 34) hx hb dX7_bitsOfShare_21 (by decide) (fun c5 => ?_) (fun c5 => ?_)
          · replace h := h.1 c5
            refine lv_fload_n hx hb dX7_bitsOfShare_34 rfl (lv_at hl 1 rfl) ?_
            refine g_ldcwf C kf_X7_271 dX7_bitsOfShare_35 ?_
            obtain ⟨n6, h⟩ := h
            refine lv_fmul hx hb dX7_bitsOfShare_38 n6 ?_
            refine lv_f2i hx hb dX7_bitsOfShare_39 ?_
            refine g_ldcw C kc_X7_272 dX7_bitsOfShare_40 ?_
            refine lv_isub hx hb dX7_bitsOfShare_43 ?_
            refine lv_topi (fun v7 ev7 => ?_)
            specialize h v7 ev7
            refine lv_istore_n (lv' := [(3, .int v7), (1, .int w1), (2, .float w2)]) hx hb dX7_bitsOfShare_44 rfl hl (by decide) rfl (fun ls hl => ?_)
            refine lv_iload_n hx hb dX7_bitsOfShare_45 rfl (lv_at hl 1 rfl) ?_
            refine g_ldcw C kc_X7_272 dX7_bitsOfShare_46 ?_
            refine lv_imul hx hb dX7_bitsOfShare_49 ?_
            refine lv_iload_n hx hb dX7_bitsOfShare_50 rfl (lv_at hl 0 rfl) ?_
            refine lv_iadd hx hb dX7_bitsOfShare_51 ?_
            exact g_iret (post := fun r (_ : Unit) => Q r) (P' := fun _ _ => True) (r := ((w1 * 8388608) + v7)) (u := ()) C hr hK hS h trivial dX7_bitsOfShare_52
          · replace h := h.2 c5
            refine lv_fload_n hx hb dX7_bitsOfShare_24 rfl (lv_at hl 1 rfl) ?_
            refine lv_fconst2 hx hb dX7_bitsOfShare_25 ?_
            obtain ⟨n8, h⟩ := h
            refine lv_fmul hx hb dX7_bitsOfShare_26 n8 ?_
            refine lv_topf (fun v9 ev9 => ?_)
            specialize h v9 ev9
            refine lv_fstore_n (lv' := [(2, .float v9), (1, .int w1)]) hx hb dX7_bitsOfShare_27 rfl hl (by decide) rfl (fun ls hl => ?_)
            obtain ⟨v10, ev10⟩ : ∃ y : Int32, y = w1 + (-1) := ⟨_, rfl⟩
            specialize h v10 ev10
            refine lv_iinc (v := v10) (lv' := [(1, .int v10), (2, .float v9)]) hx hb dX7_bitsOfShare_28 hl (k := 1) rfl (by rw [ev10]; rfl) (by decide) rfl (fun ls hl => ?_)
            refine lv_goto (tgt := 13) hx hb dX7_bitsOfShare_31 (by decide) ?_
            exact (ih) v10 v9 _ _ _  hS (lv_sub hl [0, 1] rfl) h
  unfold vc_X7_bitsOfShare at h
  obtain ⟨n, h⟩ := h
  refine lv_fload_n hx hb dX7_bitsOfShare_0 rfl (lv_at hl 0 rfl) ?_
  refine lv_fconst0 hx hb dX7_bitsOfShare_1 ?_
  refine lv_fcmp hx hb dX7_bitsOfShare_2 ?_
  refine lv_if_gt (tgt := 8) hx hb dX7_bitsOfShare_3 (by decide) (fun c1 => ?_) (fun c1 => ?_)
  · replace h := h.1 c1
    refine lv_bipush (v := 127) hx hb dX7_bitsOfShare_8 (by decide) ?_
    refine lv_istore_n (lv' := [(1, .int 127), (0, .float x0)]) hx hb dX7_bitsOfShare_10 rfl hl (by decide) rfl (fun ls hl => ?_)
    refine lv_fload_n hx hb dX7_bitsOfShare_11 rfl (lv_at hl 1 rfl) ?_
    refine lv_fstore_n (lv' := [(2, .float x0), (1, .int 127), (0, .float x0)]) hx hb dX7_bitsOfShare_12 rfl hl (by decide) rfl (fun ls hl => ?_)
    exact ((K n)) 127 x0 _ _ _  hS (lv_sub hl [1, 0] rfl) h
  · replace h := h.2 c1
    refine lv_iconst (v := 0) hx hb dX7_bitsOfShare_6 (by decide) ?_
    exact g_iret (post := fun r (_ : Unit) => Q r) (P' := fun _ _ => True) (r := 0) (u := ()) C hr hK hS h trivial dX7_bitsOfShare_7
theorem dX8_busy_0 : decode cX8_busy 0 = .ok (.aload_n 0, 1) := by decide +kernel
theorem dX8_busy_1 : decode cX8_busy 1 = .ok (.iload_n 1, 1) := by decide +kernel
theorem dX8_busy_2 : decode cX8_busy 2 = .ok (.iload_n 2, 1) := by decide +kernel
theorem dX8_busy_3 : decode cX8_busy 3 = .ok (.invokevirtual 55, 3) := by decide +kernel
theorem dX8_busy_6 : decode cX8_busy 6 = .ok (.ifCond .ne 6, 3) := by decide +kernel
theorem dX8_busy_9 : decode cX8_busy 9 = .ok (.ldc 59, 2) := by decide +kernel
theorem dX8_busy_11 : decode cX8_busy 11 = .ok (.ireturn, 1) := by decide +kernel
theorem dX8_busy_12 : decode cX8_busy 12 = .ok (.aload_n 0, 1) := by decide +kernel
theorem dX8_busy_13 : decode cX8_busy 13 = .ok (.getfield 7, 3) := by decide +kernel
theorem dX8_busy_16 : decode cX8_busy 16 = .ok (.iconst 3, 1) := by decide +kernel
theorem dX8_busy_17 : decode cX8_busy 17 = .ok (.iaload, 1) := by decide +kernel
theorem dX8_busy_18 : decode cX8_busy 18 = .ok (.istore_n 3, 1) := by decide +kernel
theorem dX8_busy_19 : decode cX8_busy 19 = .ok (.iload_n 3, 1) := by decide +kernel
theorem dX8_busy_20 : decode cX8_busy 20 = .ok (.aload_n 0, 1) := by decide +kernel
theorem dX8_busy_21 : decode cX8_busy 21 = .ok (.iconst 3, 1) := by decide +kernel
theorem dX8_busy_22 : decode cX8_busy 22 = .ok (.iload_n 1, 1) := by decide +kernel
theorem dX8_busy_23 : decode cX8_busy 23 = .ok (.imul, 1) := by decide +kernel
theorem dX8_busy_24 : decode cX8_busy 24 = .ok (.iload_n 2, 1) := by decide +kernel
theorem dX8_busy_25 : decode cX8_busy 25 = .ok (.iadd, 1) := by decide +kernel
theorem dX8_busy_26 : decode cX8_busy 26 = .ok (.iconst 4, 1) := by decide +kernel
theorem dX8_busy_27 : decode cX8_busy 27 = .ok (.invokevirtual 60, 3) := by decide +kernel
theorem dX8_busy_30 : decode cX8_busy 30 = .ok (.isub, 1) := by decide +kernel
theorem dX8_busy_31 : decode cX8_busy 31 = .ok (.i2f, 1) := by decide +kernel
theorem dX8_busy_32 : decode cX8_busy 32 = .ok (.iload_n 3, 1) := by decide +kernel
theorem dX8_busy_33 : decode cX8_busy 33 = .ok (.ifCond .ne 7, 3) := by decide +kernel
theorem dX8_busy_36 : decode cX8_busy 36 = .ok (.iconst 1, 1) := by decide +kernel
theorem dX8_busy_37 : decode cX8_busy 37 = .ok (.goto 4, 3) := by decide +kernel
theorem dX8_busy_40 : decode cX8_busy 40 = .ok (.iload_n 3, 1) := by decide +kernel
theorem dX8_busy_41 : decode cX8_busy 41 = .ok (.i2f, 1) := by decide +kernel
theorem dX8_busy_42 : decode cX8_busy 42 = .ok (.fdiv, 1) := by decide +kernel
theorem dX8_busy_43 : decode cX8_busy 43 = .ok (.fstore 4, 2) := by decide +kernel
theorem dX8_busy_45 : decode cX8_busy 45 = .ok (.iload_n 3, 1) := by decide +kernel
theorem dX8_busy_46 : decode cX8_busy 46 = .ok (.ifCond .ne 8, 3) := by decide +kernel
theorem dX8_busy_49 : decode cX8_busy 49 = .ok (.ldc 113, 2) := by decide +kernel
theorem dX8_busy_51 : decode cX8_busy 51 = .ok (.goto 8, 3) := by decide +kernel
theorem dX8_busy_54 : decode cX8_busy 54 = .ok (.fload 4, 2) := by decide +kernel
theorem dX8_busy_56 : decode cX8_busy 56 = .ok (.invokestatic 134, 3) := by decide +kernel
theorem dX8_busy_59 : decode cX8_busy 59 = .ok (.ireturn, 1) := by decide +kernel
def vc_X8_busy (Q : Int32 → Prop) (ρ : Mem) (x1 : Int32) (x2 : Int32) : Prop :=
  vc_X8_isWorker (fun r1 => ((¬ r1 = 0) → ((∀ v3 : Int32, v3 = (ρ 1 (3 : Int32).toNatClampNeg) → (vc_X8_of (fun r4 => ((¬ v3 = 0) → (vf_n32 (FP.fdiv (FP.i2f (v3 - r4)) (FP.i2f v3)) ∧ (∀ v7 : UInt32, v7 = (FP.fdiv (FP.i2f (v3 - r4)) (FP.i2f v3)) → (((¬ v3 = 0) → (vc_Jxf58ca_floatToIntBits_5c35a (fun r9 => Q r9 ) v7)) ∧ ((v3 = 0) → (Q (-1000004) )))))) ∧ ((v3 = 0) → (vf_n32 (FP.fdiv (FP.i2f (v3 - r4)) (FP.i2f 1)) ∧ (∀ v11 : UInt32, v11 = (FP.fdiv (FP.i2f (v3 - r4)) (FP.i2f 1)) → (((¬ v3 = 0) → (vc_Jxf58ca_floatToIntBits_5c35a (fun r13 => Q r13 ) v11)) ∧ ((v3 = 0) → (Q (-1000004) ))))))) ρ ((3 * x1) + x2) 4)))) ∧ ((r1 = 0) → (Q (-1000001) ))) ρ x1 x2
set_option maxHeartbeats 8000000 in
set_option maxRecDepth 100000 in
theorem m_X8_busy (l : Launch) (G : GG) (aM : Nat) (ρ : Mem) (x1 : Int32) (x2 : Int32) (Q : Int32 → Prop) (h : vc_X8_busy Q ρ x1 x2) : CtI l yX8_busy cX8_busy 5 (some .int) { frames := 2, cells := 0, slots := 0, locals := 44 } [.ref (aM + 0), .int x1, .int x2] G (fun H => rg G LM aM ρ H) (fun r (_ : Unit) => Q r) (fun _ _ => True) (fun _ => False) := by
  unfold CtI
  refine met_start (y := yX8_busy) (maxL := 5) (av := [.ref (aM + 0), .int x1, .int x2]) (G := G) (P := fun H => rg G LM aM ρ H) (by decide) rfl (Nat.le_of_ble_eq_true rfl) (fun p e s m below meth c ls C hr hP hK hl => ?_)
  obtain ⟨hx, hb, hml, hown, hts, hlocks⟩ := id C
  have hM : rg G LM aM ρ s.heap := hP
  have hS : va_S (fun _ => False) s.heap s.heap [] := va_S.rf
  have hl : lv_has ls 5 [(0, .ref (aM + 0)), (1, .int x1), (2, .int x2)] := hl
  unfold vc_X8_busy at h
  refine lv_aload_n hx hb dX8_busy_0 rfl (lv_at hl 0 rfl) ?_
  refine lv_iload_n hx hb dX8_busy_1 rfl (lv_at hl 1 rfl) ?_
  refine lv_iload_n hx hb dX8_busy_2 rfl (lv_at hl 2 rfl) ?_
  refine g_vI C hK hl.1 (m_X8_isWorker l G aM ρ x1 x2 _ h) mw_X8_isWorker mi_X8_isWorker ml_X8_55 rfl ⟨rfl, rfl, Nat.le_of_ble_eq_true rfl, Nat.le_of_ble_eq_true rfl⟩ ⟨Nat.zero_le _, Nat.zero_le _⟩ (g_recv (a := aM) (k := 0) hK hM rfl rfl) hM hS (fun _ h => h.elim) rfl (Nat.le_of_ble_eq_true rfl) dX8_busy_3 (fun r1 u H locs h hu _ hq hS => ?_)
  have hM := hM.past hq (fun _ _ h => h)
  refine lv_if_ne (tgt := 12) hx hb dX8_busy_6 (by decide) (fun c2 => ?_) (fun c2 => ?_)
  · replace h := h.1 c2
    refine lv_aload_n hx hb dX8_busy_12 rfl (lv_at hl 0 rfl) ?_
    refine g_getR (a := aM) (k := 0) (o := 1) C hK hM fl_X8_7 rfl rfl dX8_busy_13 ?_
    refine lv_iconst (v := 3) hx hb dX8_busy_16 (by decide) ?_
    refine g_ald (a := aM) (k := 1) (n := 164) C hK hM rfl (vp_dec (by decide)) dX8_busy_17 ?_
    refine lv_topi (fun v3 ev3 => ?_)
    specialize h v3 ev3
    refine lv_istore_n (lv' := [(3, .int v3), (0, .ref (aM + 0)), (1, .int x1), (2, .int x2)]) hx hb dX8_busy_18 rfl hl (by decide) rfl (fun ls hl => ?_)
    refine lv_iload_n hx hb dX8_busy_19 rfl (lv_at hl 0 rfl) ?_
    refine lv_aload_n hx hb dX8_busy_20 rfl (lv_at hl 1 rfl) ?_
    refine lv_iconst (v := 3) hx hb dX8_busy_21 (by decide) ?_
    refine lv_iload_n hx hb dX8_busy_22 rfl (lv_at hl 2 rfl) ?_
    refine lv_imul hx hb dX8_busy_23 ?_
    refine lv_iload_n hx hb dX8_busy_24 rfl (lv_at hl 3 rfl) ?_
    refine lv_iadd hx hb dX8_busy_25 ?_
    refine lv_iconst (v := 4) hx hb dX8_busy_26 (by decide) ?_
    refine g_vI C hK hl.1 (m_X8_of l G aM ρ ((3 * x1) + x2) 4 _ h) mw_X8_of mi_X8_of ml_X8_60 rfl ⟨rfl, rfl, Nat.le_of_ble_eq_true rfl, Nat.le_of_ble_eq_true rfl⟩ ⟨Nat.zero_le _, Nat.zero_le _⟩ (g_recv (a := aM) (k := 0) hK hM rfl rfl) hM hS (fun _ h => h.elim) rfl (Nat.le_of_ble_eq_true rfl) dX8_busy_27 (fun r4 u H locs h hu _ hq hS => ?_)
    have hM := hM.past hq (fun _ _ h => h)
    refine lv_isub hx hb dX8_busy_30 ?_
    refine lv_i2f hx hb dX8_busy_31 ?_
    refine lv_iload_n hx hb dX8_busy_32 rfl (lv_at hl 0 rfl) ?_
    refine lv_if_ne (tgt := 40) hx hb dX8_busy_33 (by decide) (fun c5 => ?_) (fun c5 => ?_)
    · replace h := h.1 c5
      refine lv_iload_n hx hb dX8_busy_40 rfl (lv_at hl 0 rfl) ?_
      refine lv_i2f hx hb dX8_busy_41 ?_
      obtain ⟨n6, h⟩ := h
      refine lv_fdiv hx hb dX8_busy_42 n6 ?_
      refine lv_topf (fun v7 ev7 => ?_)
      specialize h v7 ev7
      refine lv_fstore (lv' := [(4, .float v7), (3, .int v3), (0, .ref (aM + 0)), (1, .int x1), (2, .int x2)]) hx hb dX8_busy_43 hl (by decide) rfl (fun ls hl => ?_)
      refine lv_iload_n hx hb dX8_busy_45 rfl (lv_at hl 1 rfl) ?_
      refine lv_if_ne (tgt := 54) hx hb dX8_busy_46 (by decide) (fun c8 => ?_) (fun c8 => ?_)
      · replace h := h.1 c8
        refine lv_fload hx hb dX8_busy_54 (lv_at hl 0 rfl) ?_
        refine g_sI C hK hl.1 (m_Jxf58ca_floatToIntBits_5c35a l G v7 _ h) mw_Jxf58ca_floatToIntBits_5c35a ms_Jxf58ca_floatToIntBits_5c35a ml_X8_134 rfl ⟨rfl, rfl, Nat.le_of_ble_eq_true rfl, Nat.le_of_ble_eq_true rfl⟩ ⟨Nat.zero_le _, Nat.zero_le _⟩ trivial hS (fun _ h => h.elim) rfl (Nat.le_of_ble_eq_true rfl) dX8_busy_56 (fun r9 u H locs h hu _ hq hS => ?_)
        have hM := hM.past hq (fun _ _ h => h)
        exact g_iret (post := fun r (_ : Unit) => Q r) (P' := fun _ _ => True) (r := r9) (u := ()) C hr hK hS h trivial dX8_busy_59
      · replace h := h.2 c8
        refine g_ldc C kc_X8_113 dX8_busy_49 ?_
        refine lv_goto (tgt := 59) hx hb dX8_busy_51 (by decide) ?_
        exact g_iret (post := fun r (_ : Unit) => Q r) (P' := fun _ _ => True) (r := (-1000004)) (u := ()) C hr hK hS h trivial dX8_busy_59
    · replace h := h.2 c5
      refine lv_iconst (v := 1) hx hb dX8_busy_36 (by decide) ?_
      refine lv_goto (tgt := 41) hx hb dX8_busy_37 (by decide) ?_
      refine lv_i2f hx hb dX8_busy_41 ?_
      obtain ⟨n10, h⟩ := h
      refine lv_fdiv hx hb dX8_busy_42 n10 ?_
      refine lv_topf (fun v11 ev11 => ?_)
      specialize h v11 ev11
      refine lv_fstore (lv' := [(4, .float v11), (3, .int v3), (0, .ref (aM + 0)), (1, .int x1), (2, .int x2)]) hx hb dX8_busy_43 hl (by decide) rfl (fun ls hl => ?_)
      refine lv_iload_n hx hb dX8_busy_45 rfl (lv_at hl 1 rfl) ?_
      refine lv_if_ne (tgt := 54) hx hb dX8_busy_46 (by decide) (fun c12 => ?_) (fun c12 => ?_)
      · replace h := h.1 c12
        refine lv_fload hx hb dX8_busy_54 (lv_at hl 0 rfl) ?_
        refine g_sI C hK hl.1 (m_Jxf58ca_floatToIntBits_5c35a l G v11 _ h) mw_Jxf58ca_floatToIntBits_5c35a ms_Jxf58ca_floatToIntBits_5c35a ml_X8_134 rfl ⟨rfl, rfl, Nat.le_of_ble_eq_true rfl, Nat.le_of_ble_eq_true rfl⟩ ⟨Nat.zero_le _, Nat.zero_le _⟩ trivial hS (fun _ h => h.elim) rfl (Nat.le_of_ble_eq_true rfl) dX8_busy_56 (fun r13 u H locs h hu _ hq hS => ?_)
        have hM := hM.past hq (fun _ _ h => h)
        exact g_iret (post := fun r (_ : Unit) => Q r) (P' := fun _ _ => True) (r := r13) (u := ()) C hr hK hS h trivial dX8_busy_59
      · replace h := h.2 c12
        refine g_ldc C kc_X8_113 dX8_busy_49 ?_
        refine lv_goto (tgt := 59) hx hb dX8_busy_51 (by decide) ?_
        exact g_iret (post := fun r (_ : Unit) => Q r) (P' := fun _ _ => True) (r := (-1000004)) (u := ()) C hr hK hS h trivial dX8_busy_59
  · replace h := h.2 c2
    refine g_ldc C kc_X8_59 dX8_busy_9 ?_
    exact g_iret (post := fun r (_ : Unit) => Q r) (P' := fun _ _ => True) (r := (-1000001)) (u := ()) C hr hK hS h trivial dX8_busy_11
