theorem dX8_goods_0 : decode cX8_goods 0 = .ok (.aload_n 0, 1) := by decide +kernel
theorem dX8_goods_1 : decode cX8_goods 1 = .ok (.getfield 7, 3) := by decide +kernel
theorem dX8_goods_4 : decode cX8_goods 4 = .ok (.bipush 8, 2) := by decide +kernel
theorem dX8_goods_6 : decode cX8_goods 6 = .ok (.iconst 5, 1) := by decide +kernel
theorem dX8_goods_7 : decode cX8_goods 7 = .ok (.iload_n 1, 1) := by decide +kernel
theorem dX8_goods_8 : decode cX8_goods 8 = .ok (.imul, 1) := by decide +kernel
theorem dX8_goods_9 : decode cX8_goods 9 = .ok (.iadd, 1) := by decide +kernel
theorem dX8_goods_10 : decode cX8_goods 10 = .ok (.iaload, 1) := by decide +kernel
theorem dX8_goods_11 : decode cX8_goods 11 = .ok (.aload_n 0, 1) := by decide +kernel
theorem dX8_goods_12 : decode cX8_goods 12 = .ok (.getfield 7, 3) := by decide +kernel
theorem dX8_goods_15 : decode cX8_goods 15 = .ok (.bipush 8, 2) := by decide +kernel
theorem dX8_goods_17 : decode cX8_goods 17 = .ok (.iconst 5, 1) := by decide +kernel
theorem dX8_goods_18 : decode cX8_goods 18 = .ok (.iload_n 1, 1) := by decide +kernel
theorem dX8_goods_19 : decode cX8_goods 19 = .ok (.imul, 1) := by decide +kernel
theorem dX8_goods_20 : decode cX8_goods 20 = .ok (.iadd, 1) := by decide +kernel
theorem dX8_goods_21 : decode cX8_goods 21 = .ok (.iconst 1, 1) := by decide +kernel
theorem dX8_goods_22 : decode cX8_goods 22 = .ok (.iadd, 1) := by decide +kernel
theorem dX8_goods_23 : decode cX8_goods 23 = .ok (.iaload, 1) := by decide +kernel
theorem dX8_goods_24 : decode cX8_goods 24 = .ok (.iadd, 1) := by decide +kernel
theorem dX8_goods_25 : decode cX8_goods 25 = .ok (.aload_n 0, 1) := by decide +kernel
theorem dX8_goods_26 : decode cX8_goods 26 = .ok (.getfield 7, 3) := by decide +kernel
theorem dX8_goods_29 : decode cX8_goods 29 = .ok (.bipush 8, 2) := by decide +kernel
theorem dX8_goods_31 : decode cX8_goods 31 = .ok (.iconst 5, 1) := by decide +kernel
theorem dX8_goods_32 : decode cX8_goods 32 = .ok (.iload_n 1, 1) := by decide +kernel
theorem dX8_goods_33 : decode cX8_goods 33 = .ok (.imul, 1) := by decide +kernel
theorem dX8_goods_34 : decode cX8_goods 34 = .ok (.iadd, 1) := by decide +kernel
theorem dX8_goods_35 : decode cX8_goods 35 = .ok (.iconst 2, 1) := by decide +kernel
theorem dX8_goods_36 : decode cX8_goods 36 = .ok (.iadd, 1) := by decide +kernel
theorem dX8_goods_37 : decode cX8_goods 37 = .ok (.iaload, 1) := by decide +kernel
theorem dX8_goods_38 : decode cX8_goods 38 = .ok (.iadd, 1) := by decide +kernel
theorem dX8_goods_39 : decode cX8_goods 39 = .ok (.ireturn, 1) := by decide +kernel
def vc_X8_goods (Q : Int32 → Prop) (ρ : Mem) (x1 : Int32) : Prop :=
  vp_in (8 + (5 * x1)) 164 ∧ (vp_in ((8 + (5 * x1)) + 1) 164 ∧ (vp_in ((8 + (5 * x1)) + 2) 164 ∧ (Q (((ρ 1 (8 + (5 * x1)).toNatClampNeg) + (ρ 1 ((8 + (5 * x1)) + 1).toNatClampNeg)) + (ρ 1 ((8 + (5 * x1)) + 2).toNatClampNeg)) )))
set_option maxHeartbeats 8000000 in
set_option maxRecDepth 100000 in
theorem m_X8_goods (l : Launch) (G : GG) (aM : Nat) (ρ : Mem) (x1 : Int32) (Q : Int32 → Prop) (h : vc_X8_goods Q ρ x1) : CtI l yX8_goods cX8_goods 2 (some .int) { frames := 0, cells := 0, slots := 0, locals := 0 } [.ref (aM + 0), .int x1] G (fun H => rg G LM aM ρ H) (fun r (_ : Unit) => Q r) (fun _ _ => True) (fun _ => False) := by
  unfold CtI
  refine met_start (y := yX8_goods) (maxL := 2) (av := [.ref (aM + 0), .int x1]) (G := G) (P := fun H => rg G LM aM ρ H) (by decide) rfl (Nat.le_of_ble_eq_true rfl) (fun p e s m below meth c ls C hr hP hK hl => ?_)
  obtain ⟨hx, hb, hml, hown, hts, hlocks⟩ := id C
  have hM : rg G LM aM ρ s.heap := hP
  have hS : va_S (fun _ => False) s.heap s.heap [] := va_S.rf
  have hl : lv_has ls 2 [(0, .ref (aM + 0)), (1, .int x1)] := hl
  unfold vc_X8_goods at h
  refine lv_aload_n hx hb dX8_goods_0 rfl (lv_at hl 0 rfl) ?_
  refine g_getR (a := aM) (k := 0) (o := 1) C hK hM fl_X8_7 rfl rfl dX8_goods_1 ?_
  refine lv_bipush (v := 8) hx hb dX8_goods_4 (by decide) ?_
  refine lv_iconst (v := 5) hx hb dX8_goods_6 (by decide) ?_
  refine lv_iload_n hx hb dX8_goods_7 rfl (lv_at hl 1 rfl) ?_
  refine lv_imul hx hb dX8_goods_8 ?_
  refine lv_iadd hx hb dX8_goods_9 ?_
  obtain ⟨b1, h⟩ := h
  refine g_ald (a := aM) (k := 1) (n := 164) C hK hM rfl b1 dX8_goods_10 ?_
  refine lv_aload_n hx hb dX8_goods_11 rfl (lv_at hl 0 rfl) ?_
  refine g_getR (a := aM) (k := 0) (o := 1) C hK hM fl_X8_7 rfl rfl dX8_goods_12 ?_
  refine lv_bipush (v := 8) hx hb dX8_goods_15 (by decide) ?_
  refine lv_iconst (v := 5) hx hb dX8_goods_17 (by decide) ?_
  refine lv_iload_n hx hb dX8_goods_18 rfl (lv_at hl 1 rfl) ?_
  refine lv_imul hx hb dX8_goods_19 ?_
  refine lv_iadd hx hb dX8_goods_20 ?_
  refine lv_iconst (v := 1) hx hb dX8_goods_21 (by decide) ?_
  refine lv_iadd hx hb dX8_goods_22 ?_
  obtain ⟨b2, h⟩ := h
  refine g_ald (a := aM) (k := 1) (n := 164) C hK hM rfl b2 dX8_goods_23 ?_
  refine lv_iadd hx hb dX8_goods_24 ?_
  refine lv_aload_n hx hb dX8_goods_25 rfl (lv_at hl 0 rfl) ?_
  refine g_getR (a := aM) (k := 0) (o := 1) C hK hM fl_X8_7 rfl rfl dX8_goods_26 ?_
  refine lv_bipush (v := 8) hx hb dX8_goods_29 (by decide) ?_
  refine lv_iconst (v := 5) hx hb dX8_goods_31 (by decide) ?_
  refine lv_iload_n hx hb dX8_goods_32 rfl (lv_at hl 1 rfl) ?_
  refine lv_imul hx hb dX8_goods_33 ?_
  refine lv_iadd hx hb dX8_goods_34 ?_
  refine lv_iconst (v := 2) hx hb dX8_goods_35 (by decide) ?_
  refine lv_iadd hx hb dX8_goods_36 ?_
  obtain ⟨b3, h⟩ := h
  refine g_ald (a := aM) (k := 1) (n := 164) C hK hM rfl b3 dX8_goods_37 ?_
  refine lv_iadd hx hb dX8_goods_38 ?_
  exact g_iret (post := fun r (_ : Unit) => Q r) (P' := fun _ _ => True) (r := (((ρ 1 (8 + (5 * x1)).toNatClampNeg) + (ρ 1 ((8 + (5 * x1)) + 1).toNatClampNeg)) + (ρ 1 ((8 + (5 * x1)) + 2).toNatClampNeg))) (u := ()) C hr hK hS h trivial dX8_goods_39
theorem dX8_ahead_0 : decode cX8_ahead 0 = .ok (.aload_n 0, 1) := by decide +kernel
theorem dX8_ahead_1 : decode cX8_ahead 1 = .ok (.getfield 7, 3) := by decide +kernel
theorem dX8_ahead_4 : decode cX8_ahead 4 = .ok (.iconst 0, 1) := by decide +kernel
theorem dX8_ahead_5 : decode cX8_ahead 5 = .ok (.iaload, 1) := by decide +kernel
theorem dX8_ahead_6 : decode cX8_ahead 6 = .ok (.ifCond .ne 8, 3) := by decide +kernel
theorem dX8_ahead_9 : decode cX8_ahead 9 = .ok (.ldc 113, 2) := by decide +kernel
theorem dX8_ahead_11 : decode cX8_ahead 11 = .ok (.goto 4, 3) := by decide +kernel
theorem dX8_ahead_14 : decode cX8_ahead 14 = .ok (.iconst 0, 1) := by decide +kernel
theorem dX8_ahead_15 : decode cX8_ahead 15 = .ok (.istore_n 1, 1) := by decide +kernel
theorem dX8_ahead_16 : decode cX8_ahead 16 = .ok (.iconst 1, 1) := by decide +kernel
theorem dX8_ahead_17 : decode cX8_ahead 17 = .ok (.istore_n 2, 1) := by decide +kernel
theorem dX8_ahead_18 : decode cX8_ahead 18 = .ok (.iload_n 2, 1) := by decide +kernel
theorem dX8_ahead_19 : decode cX8_ahead 19 = .ok (.aload_n 0, 1) := by decide +kernel
theorem dX8_ahead_20 : decode cX8_ahead 20 = .ok (.getfield 7, 3) := by decide +kernel
theorem dX8_ahead_23 : decode cX8_ahead 23 = .ok (.iconst 0, 1) := by decide +kernel
theorem dX8_ahead_24 : decode cX8_ahead 24 = .ok (.iaload, 1) := by decide +kernel
theorem dX8_ahead_25 : decode cX8_ahead 25 = .ok (.if_icmp .ge 64, 3) := by decide +kernel
theorem dX8_ahead_28 : decode cX8_ahead 28 = .ok (.aload_n 0, 1) := by decide +kernel
theorem dX8_ahead_29 : decode cX8_ahead 29 = .ok (.getfield 7, 3) := by decide +kernel
theorem dX8_ahead_32 : decode cX8_ahead 32 = .ok (.bipush 8, 2) := by decide +kernel
theorem dX8_ahead_34 : decode cX8_ahead 34 = .ok (.iconst 5, 1) := by decide +kernel
theorem dX8_ahead_35 : decode cX8_ahead 35 = .ok (.iload_n 2, 1) := by decide +kernel
theorem dX8_ahead_36 : decode cX8_ahead 36 = .ok (.imul, 1) := by decide +kernel
theorem dX8_ahead_37 : decode cX8_ahead 37 = .ok (.iadd, 1) := by decide +kernel
theorem dX8_ahead_38 : decode cX8_ahead 38 = .ok (.iconst 3, 1) := by decide +kernel
theorem dX8_ahead_39 : decode cX8_ahead 39 = .ok (.iadd, 1) := by decide +kernel
theorem dX8_ahead_40 : decode cX8_ahead 40 = .ok (.iaload, 1) := by decide +kernel
theorem dX8_ahead_41 : decode cX8_ahead 41 = .ok (.aload_n 0, 1) := by decide +kernel
theorem dX8_ahead_42 : decode cX8_ahead 42 = .ok (.getfield 7, 3) := by decide +kernel
theorem dX8_ahead_45 : decode cX8_ahead 45 = .ok (.bipush 8, 2) := by decide +kernel
theorem dX8_ahead_47 : decode cX8_ahead 47 = .ok (.iconst 5, 1) := by decide +kernel
theorem dX8_ahead_48 : decode cX8_ahead 48 = .ok (.iload_n 1, 1) := by decide +kernel
theorem dX8_ahead_49 : decode cX8_ahead 49 = .ok (.imul, 1) := by decide +kernel
theorem dX8_ahead_50 : decode cX8_ahead 50 = .ok (.iadd, 1) := by decide +kernel
theorem dX8_ahead_51 : decode cX8_ahead 51 = .ok (.iconst 3, 1) := by decide +kernel
theorem dX8_ahead_52 : decode cX8_ahead 52 = .ok (.iadd, 1) := by decide +kernel
theorem dX8_ahead_53 : decode cX8_ahead 53 = .ok (.iaload, 1) := by decide +kernel
theorem dX8_ahead_54 : decode cX8_ahead 54 = .ok (.isub, 1) := by decide +kernel
theorem dX8_ahead_55 : decode cX8_ahead 55 = .ok (.istore_n 3, 1) := by decide +kernel
theorem dX8_ahead_56 : decode cX8_ahead 56 = .ok (.iload_n 3, 1) := by decide +kernel
theorem dX8_ahead_57 : decode cX8_ahead 57 = .ok (.ifCond .gt 20, 3) := by decide +kernel
theorem dX8_ahead_60 : decode cX8_ahead 60 = .ok (.iload_n 3, 1) := by decide +kernel
theorem dX8_ahead_61 : decode cX8_ahead 61 = .ok (.ifCond .ne 20, 3) := by decide +kernel
theorem dX8_ahead_64 : decode cX8_ahead 64 = .ok (.aload_n 0, 1) := by decide +kernel
theorem dX8_ahead_65 : decode cX8_ahead 65 = .ok (.iload_n 2, 1) := by decide +kernel
theorem dX8_ahead_66 : decode cX8_ahead 66 = .ok (.invokevirtual 140, 3) := by decide +kernel
theorem dX8_ahead_69 : decode cX8_ahead 69 = .ok (.aload_n 0, 1) := by decide +kernel
theorem dX8_ahead_70 : decode cX8_ahead 70 = .ok (.iload_n 1, 1) := by decide +kernel
theorem dX8_ahead_71 : decode cX8_ahead 71 = .ok (.invokevirtual 140, 3) := by decide +kernel
theorem dX8_ahead_74 : decode cX8_ahead 74 = .ok (.if_icmp .le 7, 3) := by decide +kernel
theorem dX8_ahead_77 : decode cX8_ahead 77 = .ok (.iload_n 2, 1) := by decide +kernel
theorem dX8_ahead_78 : decode cX8_ahead 78 = .ok (.goto 4, 3) := by decide +kernel
theorem dX8_ahead_81 : decode cX8_ahead 81 = .ok (.iload_n 1, 1) := by decide +kernel
theorem dX8_ahead_82 : decode cX8_ahead 82 = .ok (.istore_n 1, 1) := by decide +kernel
theorem dX8_ahead_83 : decode cX8_ahead 83 = .ok (.iinc 2 1, 3) := by decide +kernel
theorem dX8_ahead_86 : decode cX8_ahead 86 = .ok (.goto (-68), 3) := by decide +kernel
theorem dX8_ahead_89 : decode cX8_ahead 89 = .ok (.iload_n 1, 1) := by decide +kernel
theorem dX8_ahead_90 : decode cX8_ahead 90 = .ok (.ireturn, 1) := by decide +kernel
def vb_X8_ahead_18 (Q : Int32 → Prop) (ρ : Mem) (rec : Nat → Int32 → Int32 → Prop) (w1 : Int32) (w2 : Int32) : Prop :=
  ((((ρ 1 (0 : Int32).toNatClampNeg) ≤ w2) → (Q w1 )) ∧ ((¬ (ρ 1 (0 : Int32).toNatClampNeg) ≤ w2) → (vp_in ((8 + (5 * w2)) + 3) 164 ∧ (vp_in ((8 + (5 * w1)) + 3) 164 ∧ (∀ v5 : Int32, v5 = ((ρ 1 ((8 + (5 * w2)) + 3).toNatClampNeg) - (ρ 1 ((8 + (5 * w1)) + 3).toNatClampNeg)) → (((0 < v5) → (∀ v7 : Int32, v7 = w2 + 1 → (rec 0 w2 v7))) ∧ ((¬ 0 < v5) → (((¬ v5 = 0) → (∀ v9 : Int32, v9 = w2 + 1 → (rec 0 w1 v9))) ∧ ((v5 = 0) → (vc_X8_goods (fun r10 => vc_X8_goods (fun r11 => ((r10 ≤ r11) → (∀ v13 : Int32, v13 = w2 + 1 → (rec 0 w1 v13))) ∧ ((¬ r10 ≤ r11) → (∀ v14 : Int32, v14 = w2 + 1 → (rec 0 w2 v14)))) ρ w1) ρ w2))))))))))
def vl_X8_ahead (Q : Int32 → Prop) (ρ : Mem) : Nat → Nat → Int32 → Int32 → Prop
  | 0, _, _, _ => False
  | n + 1, 0, w1, w2 => vb_X8_ahead_18 Q ρ (vl_X8_ahead Q ρ n) w1 w2
  | _ + 1, _, _, _ => False
def vc_X8_ahead (Q : Int32 → Prop) (ρ : Mem) : Prop :=
  ∃ n : Nat, (((¬ (ρ 1 (0 : Int32).toNatClampNeg) = 0) → (vl_X8_ahead Q ρ n 0 0 1)) ∧ (((ρ 1 (0 : Int32).toNatClampNeg) = 0) → (vl_X8_ahead Q ρ n 0 (-1000004) 1)))
set_option maxHeartbeats 8000000 in
set_option maxRecDepth 100000 in
theorem m_X8_ahead (l : Launch) (G : GG) (aM : Nat) (ρ : Mem) (Q : Int32 → Prop) (h : vc_X8_ahead Q ρ) : CtI l yX8_ahead cX8_ahead 4 (some .int) { frames := 1, cells := 0, slots := 0, locals := 21 } [.ref (aM + 0)] G (fun H => rg G LM aM ρ H) (fun r (_ : Unit) => Q r) (fun _ _ => True) (fun _ => False) := by
  unfold CtI
  refine met_start (y := yX8_ahead) (maxL := 4) (av := [.ref (aM + 0)]) (G := G) (P := fun H => rg G LM aM ρ H) (by decide) rfl (Nat.le_of_ble_eq_true rfl) (fun p e s m below meth c ls C hr hP hK hl => ?_)
  obtain ⟨hx, hb, hml, hown, hts, hlocks⟩ := id C
  have hM : rg G LM aM ρ s.heap := hP
  have hS : va_S (fun _ => False) s.heap s.heap [] := va_S.rf
  have hl : lv_has ls 4 [(0, .ref (aM + 0))] := hl
  have K : ∀ n : Nat, (∀ (w1 : Int32) (w2 : Int32) (H : Heap) (locs : List Loc) (ls : Array Slot), rg G LM aM ρ H → va_S (fun _ => False) s.heap H locs → lv_has ls 4 [(0, .ref (aM + 0)), (1, .int w1), (2, .int w2)] → vl_X8_ahead Q ρ n 0 w1 w2 → W p l e { frames := 1, cells := 0, slots := 0, locals := 21 } s m [.ref (aM + 0)].toArray below meth c H locs 0 0 (MQ below (va_Qi (fun r (_ : Unit) => Q r) (fun u t => (fun _ _ => True) u t.heap ∧ KK G t) (fun _ => False)) [.ref (aM + 0)].toArray s 0 0 (fun _ => False)) (F0 m 18 ls [])) := by
    intro n
    induction n with
    | zero => exact fun _ _ _ _ _ _ _ _ h => h.elim
    | succ n ih =>
      · intro w1 w2 H locs ls hM hS hl h
        replace h : vb_X8_ahead_18 Q ρ (vl_X8_ahead Q ρ n) w1 w2 := h
        unfold vb_X8_ahead_18 at h
        refine lv_iload_n hx hb dX8_ahead_18 rfl (lv_at hl 2 rfl) ?_
        refine lv_aload_n hx hb dX8_ahead_19 rfl (lv_at hl 0 rfl) ?_
        refine g_getR (a := aM) (k := 0) (o := 1) C hK hM fl_X8_7 rfl rfl dX8_ahead_20 ?_
        refine lv_iconst (v := 0) hx hb dX8_ahead_23 (by decide) ?_
        refine g_ald (a := aM) (k := 1) (n := 164) C hK hM rfl (vp_dec (by decide)) dX8_ahead_24 ?_
        refine lv_icmp_ge (tgt := 89) hx hb dX8_ahead_25 (by decide) (fun c2 => ?_) (fun c2 => ?_)
        · replace h := h.1 c2
          refine lv_iload_n hx hb dX8_ahead_89 rfl (lv_at hl 1 rfl) ?_
          exact g_iret (post := fun r (_ : Unit) => Q r) (P' := fun _ _ => True) (r := w1) (u := ()) C hr hK hS h trivial dX8_ahead_90
        · replace h := h.2 c2
          refine lv_aload_n hx hb dX8_ahead_28 rfl (lv_at hl 0 rfl) ?_
          refine g_getR (a := aM) (k := 0) (o := 1) C hK hM fl_X8_7 rfl rfl dX8_ahead_29 ?_
          refine lv_bipush (v := 8) hx hb dX8_ahead_32 (by decide) ?_
          refine lv_iconst (v := 5) hx hb dX8_ahead_34 (by decide) ?_
          refine lv_iload_n hx hb dX8_ahead_35 rfl (lv_at hl 2 rfl) ?_
          refine lv_imul hx hb dX8_ahead_36 ?_
          refine lv_iadd hx hb dX8_ahead_37 ?_
          refine lv_iconst (v := 3) hx hb dX8_ahead_38 (by decide) ?_
          refine lv_iadd hx hb dX8_ahead_39 ?_
          obtain ⟨b3, h⟩ := h
          refine g_ald (a := aM) (k := 1) (n := 164) C hK hM rfl b3 dX8_ahead_40 ?_
          refine lv_aload_n hx hb dX8_ahead_41 rfl (lv_at hl 0 rfl) ?_
          refine g_getR (a := aM) (k := 0) (o := 1) C hK hM fl_X8_7 rfl rfl dX8_ahead_42 ?_
          refine lv_bipush (v := 8) hx hb dX8_ahead_45 (by decide) ?_
          refine lv_iconst (v := 5) hx hb dX8_ahead_47 (by decide) ?_
          refine lv_iload_n hx hb dX8_ahead_48 rfl (lv_at hl 1 rfl) ?_
          refine lv_imul hx hb dX8_ahead_49 ?_
          refine lv_iadd hx hb dX8_ahead_50 ?_
          refine lv_iconst (v := 3) hx hb dX8_ahead_51 (by decide) ?_
          refine lv_iadd hx hb dX8_ahead_52 ?_
          obtain ⟨b4, h⟩ := h
          refine g_ald (a := aM) (k := 1) (n := 164) C hK hM rfl b4 dX8_ahead_53 ?_
          refine lv_isub hx hb dX8_ahead_54 ?_
          refine lv_topi (fun v5 ev5 => ?_)
          specialize h v5 ev5
          refine lv_istore_n (lv' := [(3, .int v5), (0, .ref (aM + 0)), (1, .int w1), (2, .int w2)]) hx hb dX8_ahead_55 rfl hl (by decide) rfl (fun ls hl => ?_)
          refine lv_iload_n hx hb dX8_ahead_56 rfl (lv_at hl 0 rfl) ?_
          refine lv_if_gt (tgt := 77) hx hb dX8_ahead_57 (by decide) (fun c6 => ?_) (fun c6 => ?_)
          · replace h := h.1 c6
            refine lv_iload_n hx hb dX8_ahead_77 rfl (lv_at hl 3 rfl) ?_
            refine lv_goto (tgt := 82) hx hb dX8_ahead_78 (by decide) ?_
            refine lv_istore_n (lv' := [(1, .int w2), (3, .int v5), (0, .ref (aM + 0)), (2, .int w2)]) hx hb dX8_ahead_82 rfl hl (by decide) rfl (fun ls hl => ?_)
            obtain ⟨v7, ev7⟩ : ∃ y : Int32, y = w2 + 1 := ⟨_, rfl⟩
            specialize h v7 ev7
            refine lv_iinc (v := v7) (lv' := [(2, .int v7), (1, .int w2), (3, .int v5), (0, .ref (aM + 0))]) hx hb dX8_ahead_83 hl (k := 3) rfl (by rw [ev7]; rfl) (by decide) rfl (fun ls hl => ?_)
            refine lv_goto (tgt := 18) hx hb dX8_ahead_86 (by decide) ?_
            exact (ih) w2 v7 _ _ _ hM hS (lv_sub hl [3, 1, 0] rfl) h
          · replace h := h.2 c6
            refine lv_iload_n hx hb dX8_ahead_60 rfl (lv_at hl 0 rfl) ?_
            refine lv_if_ne (tgt := 81) hx hb dX8_ahead_61 (by decide) (fun c8 => ?_) (fun c8 => ?_)
            · replace h := h.1 c8
              refine lv_iload_n hx hb dX8_ahead_81 rfl (lv_at hl 2 rfl) ?_
              refine lv_istore_n (lv' := [(1, .int w1), (3, .int v5), (0, .ref (aM + 0)), (2, .int w2)]) hx hb dX8_ahead_82 rfl hl (by decide) rfl (fun ls hl => ?_)
              obtain ⟨v9, ev9⟩ : ∃ y : Int32, y = w2 + 1 := ⟨_, rfl⟩
              specialize h v9 ev9
              refine lv_iinc (v := v9) (lv' := [(2, .int v9), (1, .int w1), (3, .int v5), (0, .ref (aM + 0))]) hx hb dX8_ahead_83 hl (k := 3) rfl (by rw [ev9]; rfl) (by decide) rfl (fun ls hl => ?_)
              refine lv_goto (tgt := 18) hx hb dX8_ahead_86 (by decide) ?_
              exact (ih) w1 v9 _ _ _ hM hS (lv_sub hl [3, 1, 0] rfl) h
            · replace h := h.2 c8
              refine lv_aload_n hx hb dX8_ahead_64 rfl (lv_at hl 1 rfl) ?_
              refine lv_iload_n hx hb dX8_ahead_65 rfl (lv_at hl 3 rfl) ?_
              refine g_vI C hK hl.1 (m_X8_goods l G aM ρ w2 _ h) mw_X8_goods mi_X8_goods ml_X8_140 rfl ⟨rfl, rfl, Nat.le_of_ble_eq_true rfl, Nat.le_of_ble_eq_true rfl⟩ ⟨Nat.zero_le _, Nat.zero_le _⟩ (g_recv (a := aM) (k := 0) hK hM rfl rfl) hM hS (fun _ h => h.elim) rfl (Nat.le_of_ble_eq_true rfl) dX8_ahead_66 (fun r10 u H locs h hu _ hq hS => ?_)
              have hM := hM.past hq (fun _ _ h => h)
              refine lv_aload_n hx hb dX8_ahead_69 rfl (lv_at hl 1 rfl) ?_
              refine lv_iload_n hx hb dX8_ahead_70 rfl (lv_at hl 2 rfl) ?_
              refine g_vI C hK hl.1 (m_X8_goods l G aM ρ w1 _ h) mw_X8_goods mi_X8_goods ml_X8_140 rfl ⟨rfl, rfl, Nat.le_of_ble_eq_true rfl, Nat.le_of_ble_eq_true rfl⟩ ⟨Nat.zero_le _, Nat.zero_le _⟩ (g_recv (a := aM) (k := 0) hK hM rfl rfl) hM hS (fun _ h => h.elim) rfl (Nat.le_of_ble_eq_true rfl) dX8_ahead_71 (fun r11 u H locs h hu _ hq hS => ?_)
              have hM := hM.past hq (fun _ _ h => h)
              refine lv_icmp_le (tgt := 81) hx hb dX8_ahead_74 (by decide) (fun c12 => ?_) (fun c12 => ?_)
              · replace h := h.1 c12
                refine lv_iload_n hx hb dX8_ahead_81 rfl (lv_at hl 2 rfl) ?_
                refine lv_istore_n (lv' := [(1, .int w1), (3, .int v5), (0, .ref (aM + 0)), (2, .int w2)]) hx hb dX8_ahead_82 rfl hl (by decide) rfl (fun ls hl => ?_)
                obtain ⟨v13, ev13⟩ : ∃ y : Int32, y = w2 + 1 := ⟨_, rfl⟩
                specialize h v13 ev13
                refine lv_iinc (v := v13) (lv' := [(2, .int v13), (1, .int w1), (3, .int v5), (0, .ref (aM + 0))]) hx hb dX8_ahead_83 hl (k := 3) rfl (by rw [ev13]; rfl) (by decide) rfl (fun ls hl => ?_)
                refine lv_goto (tgt := 18) hx hb dX8_ahead_86 (by decide) ?_
                exact (ih) w1 v13 _ _ _ hM hS (lv_sub hl [3, 1, 0] rfl) h
              · replace h := h.2 c12
                refine lv_iload_n hx hb dX8_ahead_77 rfl (lv_at hl 3 rfl) ?_
                refine lv_goto (tgt := 82) hx hb dX8_ahead_78 (by decide) ?_
                refine lv_istore_n (lv' := [(1, .int w2), (3, .int v5), (0, .ref (aM + 0)), (2, .int w2)]) hx hb dX8_ahead_82 rfl hl (by decide) rfl (fun ls hl => ?_)
                obtain ⟨v14, ev14⟩ : ∃ y : Int32, y = w2 + 1 := ⟨_, rfl⟩
                specialize h v14 ev14
                refine lv_iinc (v := v14) (lv' := [(2, .int v14), (1, .int w2), (3, .int v5), (0, .ref (aM + 0))]) hx hb dX8_ahead_83 hl (k := 3) rfl (by rw [ev14]; rfl) (by decide) rfl (fun ls hl => ?_)
                refine lv_goto (tgt := 18) hx hb dX8_ahead_86 (by decide) ?_
                exact (ih) w2 v14 _ _ _ hM hS (lv_sub hl [3, 1, 0] rfl) h
  unfold vc_X8_ahead at h
  obtain ⟨n, h⟩ := h
  refine lv_aload_n hx hb dX8_ahead_0 rfl (lv_at hl 0 rfl) ?_
  refine g_getR (a := aM) (k := 0) (o := 1) C hK hM fl_X8_7 rfl rfl dX8_ahead_1 ?_
  refine lv_iconst (v := 0) hx hb dX8_ahead_4 (by decide) ?_
  refine g_ald (a := aM) (k := 1) (n := 164) C hK hM rfl (vp_dec (by decide)) dX8_ahead_5 ?_
  refine lv_if_ne (tgt := 14) hx hb dX8_ahead_6 (by decide) (fun c1 => ?_) (fun c1 => ?_)
  · replace h := h.1 c1
    refine lv_iconst (v := 0) hx hb dX8_ahead_14 (by decide) ?_
    refine lv_istore_n (lv' := [(1, .int 0), (0, .ref (aM + 0))]) hx hb dX8_ahead_15 rfl hl (by decide) rfl (fun ls hl => ?_)
    refine lv_iconst (v := 1) hx hb dX8_ahead_16 (by decide) ?_
    refine lv_istore_n (lv' := [(2, .int 1), (1, .int 0), (0, .ref (aM + 0))]) hx hb dX8_ahead_17 rfl hl (by decide) rfl (fun ls hl => ?_)
    exact ((K n)) 0 1 _ _ _ hM hS (lv_sub hl [2, 1, 0] rfl) h
  · replace h := h.2 c1
    refine g_ldc C kc_X8_113 dX8_ahead_9 ?_
    refine lv_goto (tgt := 15) hx hb dX8_ahead_11 (by decide) ?_
    refine lv_istore_n (lv' := [(1, .int (-1000004)), (0, .ref (aM + 0))]) hx hb dX8_ahead_15 rfl hl (by decide) rfl (fun ls hl => ?_)
    refine lv_iconst (v := 1) hx hb dX8_ahead_16 (by decide) ?_
    refine lv_istore_n (lv' := [(2, .int 1), (1, .int (-1000004)), (0, .ref (aM + 0))]) hx hb dX8_ahead_17 rfl hl (by decide) rfl (fun ls hl => ?_)
    exact ((K n)) (-1000004) 1 _ _ _ hM hS (lv_sub hl [2, 1, 0] rfl) h
theorem dX8_count_0 : decode cX8_count 0 = .ok (.iload_n 1, 1) := by decide +kernel
theorem dX8_count_1 : decode cX8_count 1 = .ok (.tableswitch 85 0 9 #[55, 55, 55, 55, 55, 55, 62, 67, 75, 80], 55) := by decide +kernel
theorem dX8_count_56 : decode cX8_count 56 = .ok (.aload_n 0, 1) := by decide +kernel
theorem dX8_count_57 : decode cX8_count 57 = .ok (.getfield 7, 3) := by decide +kernel
theorem dX8_count_60 : decode cX8_count 60 = .ok (.iload_n 1, 1) := by decide +kernel
theorem dX8_count_61 : decode cX8_count 61 = .ok (.iaload, 1) := by decide +kernel
theorem dX8_count_62 : decode cX8_count 62 = .ok (.ireturn, 1) := by decide +kernel
theorem dX8_count_63 : decode cX8_count 63 = .ok (.aload_n 0, 1) := by decide +kernel
theorem dX8_count_64 : decode cX8_count 64 = .ok (.invokevirtual 143, 3) := by decide +kernel
theorem dX8_count_67 : decode cX8_count 67 = .ok (.ireturn, 1) := by decide +kernel
theorem dX8_count_68 : decode cX8_count 68 = .ok (.aload_n 0, 1) := by decide +kernel
theorem dX8_count_69 : decode cX8_count 69 = .ok (.getfield 7, 3) := by decide +kernel
theorem dX8_count_72 : decode cX8_count 72 = .ok (.bipush 6, 2) := by decide +kernel
theorem dX8_count_74 : decode cX8_count 74 = .ok (.iaload, 1) := by decide +kernel
theorem dX8_count_75 : decode cX8_count 75 = .ok (.ireturn, 1) := by decide +kernel
theorem dX8_count_76 : decode cX8_count 76 = .ok (.aload_n 0, 1) := by decide +kernel
theorem dX8_count_77 : decode cX8_count 77 = .ok (.getfield 31, 3) := by decide +kernel
theorem dX8_count_80 : decode cX8_count 80 = .ok (.ireturn, 1) := by decide +kernel
theorem dX8_count_81 : decode cX8_count 81 = .ok (.aload_n 0, 1) := by decide +kernel
theorem dX8_count_82 : decode cX8_count 82 = .ok (.getfield 146, 3) := by decide +kernel
theorem dX8_count_85 : decode cX8_count 85 = .ok (.ireturn, 1) := by decide +kernel
theorem dX8_count_86 : decode cX8_count 86 = .ok (.ldc 59, 2) := by decide +kernel
theorem dX8_count_88 : decode cX8_count 88 = .ok (.ireturn, 1) := by decide +kernel
def vc_X8_count (Q : Int32 → Prop) (ρ : Mem) (x1 : Int32) : Prop :=
  ((x1 = 0) → (vp_in x1 164 ∧ (Q (ρ 1 x1.toNatClampNeg) ))) ∧ ((¬ x1 = 0) → (((x1 = 1) → (vp_in x1 164 ∧ (Q (ρ 1 x1.toNatClampNeg) ))) ∧ ((¬ x1 = 1) → (((x1 = 2) → (vp_in x1 164 ∧ (Q (ρ 1 x1.toNatClampNeg) ))) ∧ ((¬ x1 = 2) → (((x1 = 3) → (vp_in x1 164 ∧ (Q (ρ 1 x1.toNatClampNeg) ))) ∧ ((¬ x1 = 3) → (((x1 = 4) → (vp_in x1 164 ∧ (Q (ρ 1 x1.toNatClampNeg) ))) ∧ ((¬ x1 = 4) → (((x1 = 5) → (vp_in x1 164 ∧ (Q (ρ 1 x1.toNatClampNeg) ))) ∧ ((¬ x1 = 5) → (((x1 = 6) → (vc_X8_ahead (fun r14 => Q r14 ) ρ)) ∧ ((¬ x1 = 6) → (((x1 = 7) → ((Q (ρ 1 (6 : Int32).toNatClampNeg) ))) ∧ ((¬ x1 = 7) → (((x1 = 8) → (Q (ρ 0 4) )) ∧ ((¬ x1 = 8) → (((x1 = 9) → (Q (ρ 0 7) )) ∧ ((¬ x1 = 9) → (Q (-1000001) ))))))))))))))))))))
set_option maxHeartbeats 8000000 in
set_option maxRecDepth 100000 in
theorem m_X8_count (l : Launch) (G : GG) (aM : Nat) (ρ : Mem) (x1 : Int32) (Q : Int32 → Prop) (h : vc_X8_count Q ρ x1) : CtI l yX8_count cX8_count 2 (some .int) { frames := 2, cells := 0, slots := 0, locals := 44 } [.ref (aM + 0), .int x1] G (fun H => rg G LM aM ρ H) (fun r (_ : Unit) => Q r) (fun _ _ => True) (fun _ => False) := by
  unfold CtI
  refine met_start (y := yX8_count) (maxL := 2) (av := [.ref (aM + 0), .int x1]) (G := G) (P := fun H => rg G LM aM ρ H) (by decide) rfl (Nat.le_of_ble_eq_true rfl) (fun p e s m below meth c ls C hr hP hK hl => ?_)
  obtain ⟨hx, hb, hml, hown, hts, hlocks⟩ := id C
  have hM : rg G LM aM ρ s.heap := hP
  have hS : va_S (fun _ => False) s.heap s.heap [] := va_S.rf
  have hl : lv_has ls 2 [(0, .ref (aM + 0)), (1, .int x1)] := hl
  unfold vc_X8_count at h
  refine lv_iload_n hx hb dX8_count_0 rfl (lv_at hl 1 rfl) ?_
  by_cases c1 : x1 = 0
  · replace h := h.1 c1
    refine lv_tableIn (off := 55) (tgt := 56) hx hb dX8_count_1 (by rw [c1]; decide) (by rw [c1]; decide) (by rw [c1]; rfl) (by decide) ?_
    refine lv_aload_n hx hb dX8_count_56 rfl (lv_at hl 0 rfl) ?_
    refine g_getR (a := aM) (k := 0) (o := 1) C hK hM fl_X8_7 rfl rfl dX8_count_57 ?_
    refine lv_iload_n hx hb dX8_count_60 rfl (lv_at hl 1 rfl) ?_
    obtain ⟨b2, h⟩ := h
    refine g_ald (a := aM) (k := 1) (n := 164) C hK hM rfl b2 dX8_count_61 ?_
    exact g_iret (post := fun r (_ : Unit) => Q r) (P' := fun _ _ => True) (r := (ρ 1 x1.toNatClampNeg)) (u := ()) C hr hK hS h trivial dX8_count_62
  · replace h := h.2 c1
    by_cases c3 : x1 = 1
    · replace h := h.1 c3
      refine lv_tableIn (off := 55) (tgt := 56) hx hb dX8_count_1 (by rw [c3]; decide) (by rw [c3]; decide) (by rw [c3]; rfl) (by decide) ?_
      refine lv_aload_n hx hb dX8_count_56 rfl (lv_at hl 0 rfl) ?_
      refine g_getR (a := aM) (k := 0) (o := 1) C hK hM fl_X8_7 rfl rfl dX8_count_57 ?_
      refine lv_iload_n hx hb dX8_count_60 rfl (lv_at hl 1 rfl) ?_
      obtain ⟨b4, h⟩ := h
      refine g_ald (a := aM) (k := 1) (n := 164) C hK hM rfl b4 dX8_count_61 ?_
      exact g_iret (post := fun r (_ : Unit) => Q r) (P' := fun _ _ => True) (r := (ρ 1 x1.toNatClampNeg)) (u := ()) C hr hK hS h trivial dX8_count_62
    · replace h := h.2 c3
      by_cases c5 : x1 = 2
      · replace h := h.1 c5
        refine lv_tableIn (off := 55) (tgt := 56) hx hb dX8_count_1 (by rw [c5]; decide) (by rw [c5]; decide) (by rw [c5]; rfl) (by decide) ?_
        refine lv_aload_n hx hb dX8_count_56 rfl (lv_at hl 0 rfl) ?_
        refine g_getR (a := aM) (k := 0) (o := 1) C hK hM fl_X8_7 rfl rfl dX8_count_57 ?_
        refine lv_iload_n hx hb dX8_count_60 rfl (lv_at hl 1 rfl) ?_
        obtain ⟨b6, h⟩ := h
        refine g_ald (a := aM) (k := 1) (n := 164) C hK hM rfl b6 dX8_count_61 ?_
        exact g_iret (post := fun r (_ : Unit) => Q r) (P' := fun _ _ => True) (r := (ρ 1 x1.toNatClampNeg)) (u := ()) C hr hK hS h trivial dX8_count_62
      · replace h := h.2 c5
        by_cases c7 : x1 = 3
        · replace h := h.1 c7
          refine lv_tableIn (off := 55) (tgt := 56) hx hb dX8_count_1 (by rw [c7]; decide) (by rw [c7]; decide) (by rw [c7]; rfl) (by decide) ?_
          refine lv_aload_n hx hb dX8_count_56 rfl (lv_at hl 0 rfl) ?_
          refine g_getR (a := aM) (k := 0) (o := 1) C hK hM fl_X8_7 rfl rfl dX8_count_57 ?_
          refine lv_iload_n hx hb dX8_count_60 rfl (lv_at hl 1 rfl) ?_
          obtain ⟨b8, h⟩ := h
          refine g_ald (a := aM) (k := 1) (n := 164) C hK hM rfl b8 dX8_count_61 ?_
          exact g_iret (post := fun r (_ : Unit) => Q r) (P' := fun _ _ => True) (r := (ρ 1 x1.toNatClampNeg)) (u := ()) C hr hK hS h trivial dX8_count_62
        · replace h := h.2 c7
          by_cases c9 : x1 = 4
          · replace h := h.1 c9
            refine lv_tableIn (off := 55) (tgt := 56) hx hb dX8_count_1 (by rw [c9]; decide) (by rw [c9]; decide) (by rw [c9]; rfl) (by decide) ?_
            refine lv_aload_n hx hb dX8_count_56 rfl (lv_at hl 0 rfl) ?_
            refine g_getR (a := aM) (k := 0) (o := 1) C hK hM fl_X8_7 rfl rfl dX8_count_57 ?_
            refine lv_iload_n hx hb dX8_count_60 rfl (lv_at hl 1 rfl) ?_
            obtain ⟨b10, h⟩ := h
            refine g_ald (a := aM) (k := 1) (n := 164) C hK hM rfl b10 dX8_count_61 ?_
            exact g_iret (post := fun r (_ : Unit) => Q r) (P' := fun _ _ => True) (r := (ρ 1 x1.toNatClampNeg)) (u := ()) C hr hK hS h trivial dX8_count_62
          · replace h := h.2 c9
            by_cases c11 : x1 = 5
            · replace h := h.1 c11
              refine lv_tableIn (off := 55) (tgt := 56) hx hb dX8_count_1 (by rw [c11]; decide) (by rw [c11]; decide) (by rw [c11]; rfl) (by decide) ?_
              refine lv_aload_n hx hb dX8_count_56 rfl (lv_at hl 0 rfl) ?_
              refine g_getR (a := aM) (k := 0) (o := 1) C hK hM fl_X8_7 rfl rfl dX8_count_57 ?_
              refine lv_iload_n hx hb dX8_count_60 rfl (lv_at hl 1 rfl) ?_
              obtain ⟨b12, h⟩ := h
              refine g_ald (a := aM) (k := 1) (n := 164) C hK hM rfl b12 dX8_count_61 ?_
              exact g_iret (post := fun r (_ : Unit) => Q r) (P' := fun _ _ => True) (r := (ρ 1 x1.toNatClampNeg)) (u := ()) C hr hK hS h trivial dX8_count_62
            · replace h := h.2 c11
              by_cases c13 : x1 = 6
              · replace h := h.1 c13
                refine lv_tableIn (off := 62) (tgt := 63) hx hb dX8_count_1 (by rw [c13]; decide) (by rw [c13]; decide) (by rw [c13]; rfl) (by decide) ?_
                refine lv_aload_n hx hb dX8_count_63 rfl (lv_at hl 0 rfl) ?_
                refine g_vI C hK hl.1 (m_X8_ahead l G aM ρ _ h) mw_X8_ahead mi_X8_ahead ml_X8_143 rfl ⟨rfl, rfl, Nat.le_of_ble_eq_true rfl, Nat.le_of_ble_eq_true rfl⟩ ⟨Nat.zero_le _, Nat.zero_le _⟩ (g_recv (a := aM) (k := 0) hK hM rfl rfl) hM hS (fun _ h => h.elim) rfl (Nat.le_of_ble_eq_true rfl) dX8_count_64 (fun r14 u H locs h hu _ hq hS => ?_)
                have hM := hM.past hq (fun _ _ h => h)
                exact g_iret (post := fun r (_ : Unit) => Q r) (P' := fun _ _ => True) (r := r14) (u := ()) C hr hK hS h trivial dX8_count_67
              · replace h := h.2 c13
                by_cases c15 : x1 = 7
                · replace h := h.1 c15
                  refine lv_tableIn (off := 67) (tgt := 68) hx hb dX8_count_1 (by rw [c15]; decide) (by rw [c15]; decide) (by rw [c15]; rfl) (by decide) ?_
                  refine lv_aload_n hx hb dX8_count_68 rfl (lv_at hl 0 rfl) ?_
                  refine g_getR (a := aM) (k := 0) (o := 1) C hK hM fl_X8_7 rfl rfl dX8_count_69 ?_
                  refine lv_bipush (v := 6) hx hb dX8_count_72 (by decide) ?_
                  refine g_ald (a := aM) (k := 1) (n := 164) C hK hM rfl (vp_dec (by decide)) dX8_count_74 ?_
                  exact g_iret (post := fun r (_ : Unit) => Q r) (P' := fun _ _ => True) (r := (ρ 1 (6 : Int32).toNatClampNeg)) (u := ()) C hr hK hS h trivial dX8_count_75
                · replace h := h.2 c15
                  by_cases c16 : x1 = 8
                  · replace h := h.1 c16
                    refine lv_tableIn (off := 75) (tgt := 76) hx hb dX8_count_1 (by rw [c16]; decide) (by rw [c16]; decide) (by rw [c16]; rfl) (by decide) ?_
                    refine lv_aload_n hx hb dX8_count_76 rfl (lv_at hl 0 rfl) ?_
                    refine g_getI (a := aM) (k := 0) C hK hM fl_X8_31 rfl rfl dX8_count_77 ?_
                    exact g_iret (post := fun r (_ : Unit) => Q r) (P' := fun _ _ => True) (r := (ρ 0 4)) (u := ()) C hr hK hS h trivial dX8_count_80
                  · replace h := h.2 c16
                    by_cases c17 : x1 = 9
                    · replace h := h.1 c17
                      refine lv_tableIn (off := 80) (tgt := 81) hx hb dX8_count_1 (by rw [c17]; decide) (by rw [c17]; decide) (by rw [c17]; rfl) (by decide) ?_
                      refine lv_aload_n hx hb dX8_count_81 rfl (lv_at hl 0 rfl) ?_
                      refine g_getI (a := aM) (k := 0) C hK hM fl_X8_146 rfl rfl dX8_count_82 ?_
                      exact g_iret (post := fun r (_ : Unit) => Q r) (P' := fun _ _ => True) (r := (ρ 0 7)) (u := ()) C hr hK hS h trivial dX8_count_85
                    · replace h := h.2 c17
                      have hne := And.intro trivial (And.intro trivial trivial)
                      have c1i := lv_neT c1 (by rfl : (0 : Int32).toInt = 0)
                      have c3i := lv_neT c3 (by rfl : (1 : Int32).toInt = 1)
                      have c5i := lv_neT c5 (by rfl : (2 : Int32).toInt = 2)
                      have c7i := lv_neT c7 (by rfl : (3 : Int32).toInt = 3)
                      have c9i := lv_neT c9 (by rfl : (4 : Int32).toInt = 4)
                      have c11i := lv_neT c11 (by rfl : (5 : Int32).toInt = 5)
                      have c13i := lv_neT c13 (by rfl : (6 : Int32).toInt = 6)
                      have c15i := lv_neT c15 (by rfl : (7 : Int32).toInt = 7)
                      have c16i := lv_neT c16 (by rfl : (8 : Int32).toInt = 8)
                      have c17i := lv_neT c17 (by rfl : (9 : Int32).toInt = 9)
                      refine lv_tableOut (tgt := 86) hx hb dX8_count_1 (by omega) (by decide) ?_
                      refine g_ldc C kc_X8_59 dX8_count_86 ?_
                      exact g_iret (post := fun r (_ : Unit) => Q r) (P' := fun _ _ => True) (r := (-1000001)) (u := ()) C hr hK hS h trivial dX8_count_88
theorem dX8_undo_0 : decode cX8_undo 0 = .ok (.aload_n 0, 1) := by decide +kernel
theorem dX8_undo_1 : decode cX8_undo 1 = .ok (.getfield 31, 3) := by decide +kernel
theorem dX8_undo_4 : decode cX8_undo 4 = .ok (.ifCond .ne 6, 3) := by decide +kernel
theorem dX8_undo_7 : decode cX8_undo 7 = .ok (.ldc 63, 2) := by decide +kernel
theorem dX8_undo_9 : decode cX8_undo 9 = .ok (.ireturn, 1) := by decide +kernel
theorem dX8_undo_10 : decode cX8_undo 10 = .ok (.aload_n 0, 1) := by decide +kernel
theorem dX8_undo_11 : decode cX8_undo 11 = .ok (.dup, 1) := by decide +kernel
theorem dX8_undo_12 : decode cX8_undo 12 = .ok (.getfield 31, 3) := by decide +kernel
theorem dX8_undo_15 : decode cX8_undo 15 = .ok (.iconst 1, 1) := by decide +kernel
theorem dX8_undo_16 : decode cX8_undo 16 = .ok (.isub, 1) := by decide +kernel
theorem dX8_undo_17 : decode cX8_undo 17 = .ok (.putfield 31, 3) := by decide +kernel
theorem dX8_undo_20 : decode cX8_undo 20 = .ok (.iconst 0, 1) := by decide +kernel
theorem dX8_undo_21 : decode cX8_undo 21 = .ok (.istore_n 1, 1) := by decide +kernel
theorem dX8_undo_22 : decode cX8_undo 22 = .ok (.iload_n 1, 1) := by decide +kernel
theorem dX8_undo_23 : decode cX8_undo 23 = .ok (.sipush 164, 3) := by decide +kernel
theorem dX8_undo_26 : decode cX8_undo 26 = .ok (.if_icmp .ge 30, 3) := by decide +kernel
theorem dX8_undo_29 : decode cX8_undo 29 = .ok (.aload_n 0, 1) := by decide +kernel
theorem dX8_undo_30 : decode cX8_undo 30 = .ok (.getfield 7, 3) := by decide +kernel
theorem dX8_undo_33 : decode cX8_undo 33 = .ok (.iload_n 1, 1) := by decide +kernel
theorem dX8_undo_34 : decode cX8_undo 34 = .ok (.aload_n 0, 1) := by decide +kernel
theorem dX8_undo_35 : decode cX8_undo 35 = .ok (.getfield 13, 3) := by decide +kernel
theorem dX8_undo_38 : decode cX8_undo 38 = .ok (.sipush 164, 3) := by decide +kernel
theorem dX8_undo_41 : decode cX8_undo 41 = .ok (.aload_n 0, 1) := by decide +kernel
theorem dX8_undo_42 : decode cX8_undo 42 = .ok (.getfield 31, 3) := by decide +kernel
theorem dX8_undo_45 : decode cX8_undo 45 = .ok (.imul, 1) := by decide +kernel
theorem dX8_undo_46 : decode cX8_undo 46 = .ok (.iload_n 1, 1) := by decide +kernel
theorem dX8_undo_47 : decode cX8_undo 47 = .ok (.iadd, 1) := by decide +kernel
theorem dX8_undo_48 : decode cX8_undo 48 = .ok (.iaload, 1) := by decide +kernel
theorem dX8_undo_49 : decode cX8_undo 49 = .ok (.iastore, 1) := by decide +kernel
theorem dX8_undo_50 : decode cX8_undo 50 = .ok (.iinc 1 1, 3) := by decide +kernel
theorem dX8_undo_53 : decode cX8_undo 53 = .ok (.goto (-31), 3) := by decide +kernel
theorem dX8_undo_56 : decode cX8_undo 56 = .ok (.aload_n 0, 1) := by decide +kernel
theorem dX8_undo_57 : decode cX8_undo 57 = .ok (.getfield 31, 3) := by decide +kernel
theorem dX8_undo_60 : decode cX8_undo 60 = .ok (.ireturn, 1) := by decide +kernel
def vb_X8_undo_22 (Q : Int32 → Mem → Prop) (rec : Nat → Mem → Int32 → Prop) (ρ : Mem) (w1 : Int32) : Prop :=
  ((164 ≤ w1) → (Q (ρ 0 4) ρ)) ∧ ((¬ 164 ≤ w1) → (vp_in ((164 * (ρ 0 4)) + w1) 656 ∧ (vp_in w1 164 ∧ (∀ ρ6 : Mem, ρ6 = up ρ 1 w1.toNatClampNeg (ρ 2 ((164 * (ρ 0 4)) + w1).toNatClampNeg) → (∀ v7 : Int32, v7 = w1 + 1 → (rec 0 ρ6 v7))))))
def vl_X8_undo (Q : Int32 → Mem → Prop) : Nat → Nat → Mem → Int32 → Prop
  | 0, _, _, _ => False
  | n + 1, 0, ρ, w1 => vb_X8_undo_22 Q (vl_X8_undo Q n) ρ w1
  | _ + 1, _, _, _ => False
def vc_X8_undo (Q : Int32 → Mem → Prop) (ρ : Mem) : Prop :=
  ∃ n : Nat, ((¬ (ρ 0 4) = 0) → (∀ ρ2 : Mem, ρ2 = up ρ 0 4 ((ρ 0 4) - 1) → (vl_X8_undo Q n 0 ρ2 0))) ∧ (((ρ 0 4) = 0) → (Q (-1000002) ρ))
set_option maxHeartbeats 8000000 in
set_option maxRecDepth 100000 in
theorem m_X8_undo (l : Launch) (G : GG) (aM : Nat) (ρ : Mem) (Q : Int32 → Mem → Prop) (h : vc_X8_undo Q ρ) : CtI l yX8_undo cX8_undo 2 (some .int) { frames := 0, cells := 0, slots := 0, locals := 0 } [.ref (aM + 0)] G (fun H => rg G LM aM ρ H) (Q) (fun u H => rg G LM aM u H) (RA aM 8) := by
  unfold CtI
  refine met_start (y := yX8_undo) (maxL := 2) (av := [.ref (aM + 0)]) (G := G) (P := fun H => rg G LM aM ρ H) (by decide) rfl (Nat.le_of_ble_eq_true rfl) (fun p e s m below meth c ls C hr hP hK hl => ?_)
  obtain ⟨hx, hb, hml, hown, hts, hlocks⟩ := id C
  have hM : rg G LM aM ρ s.heap := hP
  have hS : va_S (RA aM 8) s.heap s.heap [] := va_S.rf
  have hl : lv_has ls 2 [(0, .ref (aM + 0))] := hl
  have K : ∀ n : Nat, (∀ (ρ : Mem) (w1 : Int32) (H : Heap) (locs : List Loc) (ls : Array Slot), rg G LM aM ρ H → va_S (RA aM 8) s.heap H locs → lv_has ls 2 [(0, .ref (aM + 0)), (1, .int w1)] → vl_X8_undo Q n 0 ρ w1 → W p l e { frames := 0, cells := 0, slots := 0, locals := 0 } s m [.ref (aM + 0)].toArray below meth c H locs 0 0 (MQ below (va_Qi (Q) (fun u t => (fun u H => rg G LM aM u H) u t.heap ∧ KK G t) (RA aM 8)) [.ref (aM + 0)].toArray s 0 0 (RA aM 8)) (F0 m 22 ls [])) := by
    intro n
    induction n with
    | zero => exact fun _ _ _ _ _ _ _ _ h => h.elim
    | succ n ih =>
      · intro ρ w1 H locs ls hM hS hl h
        replace h : vb_X8_undo_22 Q (vl_X8_undo Q n) ρ w1 := h
        unfold vb_X8_undo_22 at h
        refine lv_iload_n hx hb dX8_undo_22 rfl (lv_at hl 1 rfl) ?_
        refine lv_sipush (v := 164) hx hb dX8_undo_23 (by decide) ?_
        refine lv_icmp_ge (tgt := 56) hx hb dX8_undo_26 (by decide) (fun c3 => ?_) (fun c3 => ?_)
        · replace h := h.1 c3
          refine lv_aload_n hx hb dX8_undo_56 rfl (lv_at hl 0 rfl) ?_
          refine g_getI (a := aM) (k := 0) C hK hM fl_X8_31 rfl rfl dX8_undo_57 ?_
          exact g_iret (post := Q) (P' := fun u H => rg G LM aM u H) (r := (ρ 0 4)) (u := ρ) C hr hK hS h hM dX8_undo_60
        · replace h := h.2 c3
          refine lv_aload_n hx hb dX8_undo_29 rfl (lv_at hl 0 rfl) ?_
          refine g_getR (a := aM) (k := 0) (o := 1) C hK hM fl_X8_7 rfl rfl dX8_undo_30 ?_
          refine lv_iload_n hx hb dX8_undo_33 rfl (lv_at hl 1 rfl) ?_
          refine lv_aload_n hx hb dX8_undo_34 rfl (lv_at hl 0 rfl) ?_
          refine g_getR (a := aM) (k := 0) (o := 2) C hK hM fl_X8_13 rfl rfl dX8_undo_35 ?_
          refine lv_sipush (v := 164) hx hb dX8_undo_38 (by decide) ?_
          refine lv_aload_n hx hb dX8_undo_41 rfl (lv_at hl 0 rfl) ?_
          refine g_getI (a := aM) (k := 0) C hK hM fl_X8_31 rfl rfl dX8_undo_42 ?_
          refine lv_imul hx hb dX8_undo_45 ?_
          refine lv_iload_n hx hb dX8_undo_46 rfl (lv_at hl 1 rfl) ?_
          refine lv_iadd hx hb dX8_undo_47 ?_
          obtain ⟨b4, h⟩ := h
          refine g_ald (a := aM) (k := 2) (n := 656) C hK hM rfl b4 dX8_undo_48 ?_
          obtain ⟨b5, h⟩ := h
          refine g_ast (a := aM) (k := 1) (n := 164) C hK hM hS rfl b5 (RA_in (by decide)) dX8_undo_49 (fun ρ6 H locs eρ6 hM hS hq => ?_)
          specialize h ρ6 eρ6
          obtain ⟨v7, ev7⟩ : ∃ y : Int32, y = w1 + 1 := ⟨_, rfl⟩
          specialize h v7 ev7
          refine lv_iinc (v := v7) (lv' := [(1, .int v7), (0, .ref (aM + 0))]) hx hb dX8_undo_50 hl (k := 1) rfl (by rw [ev7]; rfl) (by decide) rfl (fun ls hl => ?_)
          refine lv_goto (tgt := 22) hx hb dX8_undo_53 (by decide) ?_
          exact (ih) ρ6 v7 _ _ _ hM hS (lv_sub hl [1, 0] rfl) h
  unfold vc_X8_undo at h
  obtain ⟨n, h⟩ := h
  refine lv_aload_n hx hb dX8_undo_0 rfl (lv_at hl 0 rfl) ?_
  refine g_getI (a := aM) (k := 0) C hK hM fl_X8_31 rfl rfl dX8_undo_1 ?_
  refine lv_if_ne (tgt := 10) hx hb dX8_undo_4 (by decide) (fun c1 => ?_) (fun c1 => ?_)
  · replace h := h.1 c1
    refine lv_aload_n hx hb dX8_undo_10 rfl (lv_at hl 0 rfl) ?_
    refine lv_dup hx hb dX8_undo_11 rfl ?_
    refine g_getI (a := aM) (k := 0) C hK hM fl_X8_31 rfl rfl dX8_undo_12 ?_
    refine lv_iconst (v := 1) hx hb dX8_undo_15 (by decide) ?_
    refine lv_isub hx hb dX8_undo_16 ?_
    refine g_put (a := aM) (k := 0) C hK hM hS fl_X8_31 fp_X8_4 rfl rfl (by rfl) (by rfl) (RA_in (by decide)) dX8_undo_17 (fun ρ2 H locs eρ2 hM hS hq => ?_)
    specialize h ρ2 eρ2
    refine lv_iconst (v := 0) hx hb dX8_undo_20 (by decide) ?_
    refine lv_istore_n (lv' := [(1, .int 0), (0, .ref (aM + 0))]) hx hb dX8_undo_21 rfl hl (by decide) rfl (fun ls hl => ?_)
    exact ((K n)) ρ2 0 _ _ _ hM hS (lv_sub hl [1, 0] rfl) h
  · replace h := h.2 c1
    refine g_ldc C kc_X8_63 dX8_undo_7 ?_
    exact g_iret (post := Q) (P' := fun u H => rg G LM aM u H) (r := (-1000002)) (u := ρ) C hr hK hS h hM dX8_undo_9
theorem dX8_type_0 : decode cX8_type 0 = .ok (.iload_n 1, 1) := by decide +kernel
theorem dX8_type_1 : decode cX8_type 1 = .ok (.bipush 32, 2) := by decide +kernel
theorem dX8_type_3 : decode cX8_type 3 = .ok (.bipush 126, 2) := by decide +kernel
theorem dX8_type_5 : decode cX8_type 5 = .ok (.invokestatic 43, 3) := by decide +kernel
theorem dX8_type_8 : decode cX8_type 8 = .ok (.ifCond .ne 6, 3) := by decide +kernel
theorem dX8_type_11 : decode cX8_type 11 = .ok (.ldc 59, 2) := by decide +kernel
theorem dX8_type_13 : decode cX8_type 13 = .ok (.ireturn, 1) := by decide +kernel
theorem dX8_type_14 : decode cX8_type 14 = .ok (.aload_n 0, 1) := by decide +kernel
theorem dX8_type_15 : decode cX8_type 15 = .ok (.getfield 146, 3) := by decide +kernel
theorem dX8_type_18 : decode cX8_type 18 = .ok (.bipush 60, 2) := by decide +kernel
theorem dX8_type_20 : decode cX8_type 20 = .ok (.if_icmp .ne 6, 3) := by decide +kernel
theorem dX8_type_23 : decode cX8_type 23 = .ok (.ldc 51, 2) := by decide +kernel
theorem dX8_type_25 : decode cX8_type 25 = .ok (.ireturn, 1) := by decide +kernel
theorem dX8_type_26 : decode cX8_type 26 = .ok (.aload_n 0, 1) := by decide +kernel
theorem dX8_type_27 : decode cX8_type 27 = .ok (.getfield 22, 3) := by decide +kernel
theorem dX8_type_30 : decode cX8_type 30 = .ok (.aload_n 0, 1) := by decide +kernel
theorem dX8_type_31 : decode cX8_type 31 = .ok (.getfield 146, 3) := by decide +kernel
theorem dX8_type_34 : decode cX8_type 34 = .ok (.iload_n 1, 1) := by decide +kernel
theorem dX8_type_35 : decode cX8_type 35 = .ok (.iastore, 1) := by decide +kernel
theorem dX8_type_36 : decode cX8_type 36 = .ok (.aload_n 0, 1) := by decide +kernel
theorem dX8_type_37 : decode cX8_type 37 = .ok (.dup, 1) := by decide +kernel
theorem dX8_type_38 : decode cX8_type 38 = .ok (.getfield 146, 3) := by decide +kernel
theorem dX8_type_41 : decode cX8_type 41 = .ok (.iconst 1, 1) := by decide +kernel
theorem dX8_type_42 : decode cX8_type 42 = .ok (.iadd, 1) := by decide +kernel
theorem dX8_type_43 : decode cX8_type 43 = .ok (.putfield 146, 3) := by decide +kernel
theorem dX8_type_46 : decode cX8_type 46 = .ok (.aload_n 0, 1) := by decide +kernel
theorem dX8_type_47 : decode cX8_type 47 = .ok (.getfield 146, 3) := by decide +kernel
theorem dX8_type_50 : decode cX8_type 50 = .ok (.ireturn, 1) := by decide +kernel
def vc_X8_type (Q : Int32 → Mem → Prop) (ρ : Mem) (x1 : Int32) : Prop :=
  vc_X8_in (fun r1 => ((¬ r1 = 0) → (((¬ (ρ 0 7) = 60) → (vp_in (ρ 0 7) 60 ∧ (∀ ρ5 : Mem, ρ5 = up ρ 5 (ρ 0 7).toNatClampNeg x1 → (∀ ρ6 : Mem, ρ6 = up ρ5 0 7 ((ρ5 0 7) + 1) → (Q (ρ6 0 7) ρ6))))) ∧ (((ρ 0 7) = 60) → (Q (-1000003) ρ)))) ∧ ((r1 = 0) → (Q (-1000001) ρ))) x1 32 126
set_option maxHeartbeats 8000000 in
set_option maxRecDepth 100000 in
theorem m_X8_type (l : Launch) (G : GG) (aM : Nat) (ρ : Mem) (x1 : Int32) (Q : Int32 → Mem → Prop) (h : vc_X8_type Q ρ x1) : CtI l yX8_type cX8_type 2 (some .int) { frames := 1, cells := 0, slots := 0, locals := 22 } [.ref (aM + 0), .int x1] G (fun H => rg G LM aM ρ H) (Q) (fun u H => rg G LM aM u H) (RA aM 8) := by
  unfold CtI
  refine met_start (y := yX8_type) (maxL := 2) (av := [.ref (aM + 0), .int x1]) (G := G) (P := fun H => rg G LM aM ρ H) (by decide) rfl (Nat.le_of_ble_eq_true rfl) (fun p e s m below meth c ls C hr hP hK hl => ?_)
  obtain ⟨hx, hb, hml, hown, hts, hlocks⟩ := id C
  have hM : rg G LM aM ρ s.heap := hP
  have hS : va_S (RA aM 8) s.heap s.heap [] := va_S.rf
  have hl : lv_has ls 2 [(0, .ref (aM + 0)), (1, .int x1)] := hl
  unfold vc_X8_type at h
  refine lv_iload_n hx hb dX8_type_0 rfl (lv_at hl 1 rfl) ?_
  refine lv_bipush (v := 32) hx hb dX8_type_1 (by decide) ?_
  refine lv_bipush (v := 126) hx hb dX8_type_3 (by decide) ?_
  refine g_sI C hK hl.1 (m_X8_in l G x1 32 126 _ h) mw_X8_in ms_X8_in ml_X8_43 rfl ⟨rfl, rfl, Nat.le_of_ble_eq_true rfl, Nat.le_of_ble_eq_true rfl⟩ ⟨Nat.zero_le _, Nat.zero_le _⟩ trivial hS (fun _ h => h.elim) rfl (Nat.le_of_ble_eq_true rfl) dX8_type_5 (fun r1 u H locs h hu _ hq hS => ?_)
  have hM := hM.past hq (fun _ _ h => h)
  refine lv_if_ne (tgt := 14) hx hb dX8_type_8 (by decide) (fun c2 => ?_) (fun c2 => ?_)
  · replace h := h.1 c2
    refine lv_aload_n hx hb dX8_type_14 rfl (lv_at hl 0 rfl) ?_
    refine g_getI (a := aM) (k := 0) C hK hM fl_X8_146 rfl rfl dX8_type_15 ?_
    refine lv_bipush (v := 60) hx hb dX8_type_18 (by decide) ?_
    refine lv_icmp_ne (tgt := 26) hx hb dX8_type_20 (by decide) (fun c3 => ?_) (fun c3 => ?_)
    · replace h := h.1 c3
      refine lv_aload_n hx hb dX8_type_26 rfl (lv_at hl 0 rfl) ?_
      refine g_getR (a := aM) (k := 0) (o := 5) C hK hM fl_X8_22 rfl rfl dX8_type_27 ?_
      refine lv_aload_n hx hb dX8_type_30 rfl (lv_at hl 0 rfl) ?_
      refine g_getI (a := aM) (k := 0) C hK hM fl_X8_146 rfl rfl dX8_type_31 ?_
      refine lv_iload_n hx hb dX8_type_34 rfl (lv_at hl 1 rfl) ?_
      obtain ⟨b4, h⟩ := h
      refine g_ast (a := aM) (k := 5) (n := 60) C hK hM hS rfl b4 (RA_in (by decide)) dX8_type_35 (fun ρ5 H locs eρ5 hM hS hq => ?_)
      specialize h ρ5 eρ5
      refine lv_aload_n hx hb dX8_type_36 rfl (lv_at hl 0 rfl) ?_
      refine lv_dup hx hb dX8_type_37 rfl ?_
      refine g_getI (a := aM) (k := 0) C hK hM fl_X8_146 rfl rfl dX8_type_38 ?_
      refine lv_iconst (v := 1) hx hb dX8_type_41 (by decide) ?_
      refine lv_iadd hx hb dX8_type_42 ?_
      refine g_put (a := aM) (k := 0) C hK hM hS fl_X8_146 fp_X8_7 rfl rfl (by rfl) (by rfl) (RA_in (by decide)) dX8_type_43 (fun ρ6 H locs eρ6 hM hS hq => ?_)
      specialize h ρ6 eρ6
      refine lv_aload_n hx hb dX8_type_46 rfl (lv_at hl 0 rfl) ?_
      refine g_getI (a := aM) (k := 0) C hK hM fl_X8_146 rfl rfl dX8_type_47 ?_
      exact g_iret (post := Q) (P' := fun u H => rg G LM aM u H) (r := (ρ6 0 7)) (u := ρ6) C hr hK hS h hM dX8_type_50
    · replace h := h.2 c3
      refine g_ldc C kc_X8_51 dX8_type_23 ?_
      exact g_iret (post := Q) (P' := fun u H => rg G LM aM u H) (r := (-1000003)) (u := ρ) C hr hK hS h hM dX8_type_25
  · replace h := h.2 c2
    refine g_ldc C kc_X8_59 dX8_type_11 ?_
    exact g_iret (post := Q) (P' := fun u H => rg G LM aM u H) (r := (-1000001)) (u := ρ) C hr hK hS h hM dX8_type_13
theorem dX8_clearText_0 : decode cX8_clearText 0 = .ok (.aload_n 0, 1) := by decide +kernel
theorem dX8_clearText_1 : decode cX8_clearText 1 = .ok (.getfield 146, 3) := by decide +kernel
theorem dX8_clearText_4 : decode cX8_clearText 4 = .ok (.istore_n 1, 1) := by decide +kernel
theorem dX8_clearText_5 : decode cX8_clearText 5 = .ok (.aload_n 0, 1) := by decide +kernel
theorem dX8_clearText_6 : decode cX8_clearText 6 = .ok (.iconst 0, 1) := by decide +kernel
theorem dX8_clearText_7 : decode cX8_clearText 7 = .ok (.putfield 146, 3) := by decide +kernel
theorem dX8_clearText_10 : decode cX8_clearText 10 = .ok (.iload_n 1, 1) := by decide +kernel
theorem dX8_clearText_11 : decode cX8_clearText 11 = .ok (.ireturn, 1) := by decide +kernel
def vc_X8_clearText (Q : Int32 → Mem → Prop) (ρ : Mem) : Prop :=
  ∀ v1 : Int32, v1 = (ρ 0 7) → (∀ ρ2 : Mem, ρ2 = up ρ 0 7 0 → (Q v1 ρ2))
set_option maxHeartbeats 8000000 in
set_option maxRecDepth 100000 in
theorem m_X8_clearText (l : Launch) (G : GG) (aM : Nat) (ρ : Mem) (Q : Int32 → Mem → Prop) (h : vc_X8_clearText Q ρ) : CtI l yX8_clearText cX8_clearText 2 (some .int) { frames := 0, cells := 0, slots := 0, locals := 0 } [.ref (aM + 0)] G (fun H => rg G LM aM ρ H) (Q) (fun u H => rg G LM aM u H) (RA aM 8) := by
  unfold CtI
  refine met_start (y := yX8_clearText) (maxL := 2) (av := [.ref (aM + 0)]) (G := G) (P := fun H => rg G LM aM ρ H) (by decide) rfl (Nat.le_of_ble_eq_true rfl) (fun p e s m below meth c ls C hr hP hK hl => ?_)
  obtain ⟨hx, hb, hml, hown, hts, hlocks⟩ := id C
  have hM : rg G LM aM ρ s.heap := hP
  have hS : va_S (RA aM 8) s.heap s.heap [] := va_S.rf
  have hl : lv_has ls 2 [(0, .ref (aM + 0))] := hl
  unfold vc_X8_clearText at h
  refine lv_aload_n hx hb dX8_clearText_0 rfl (lv_at hl 0 rfl) ?_
  refine g_getI (a := aM) (k := 0) C hK hM fl_X8_146 rfl rfl dX8_clearText_1 ?_
  refine lv_topi (fun v1 ev1 => ?_)
  specialize h v1 ev1
  refine lv_istore_n (lv' := [(1, .int v1), (0, .ref (aM + 0))]) hx hb dX8_clearText_4 rfl hl (by decide) rfl (fun ls hl => ?_)
  refine lv_aload_n hx hb dX8_clearText_5 rfl (lv_at hl 1 rfl) ?_
  refine lv_iconst (v := 0) hx hb dX8_clearText_6 (by decide) ?_
  refine g_put (a := aM) (k := 0) C hK hM hS fl_X8_146 fp_X8_7 rfl rfl (by rfl) (by rfl) (RA_in (by decide)) dX8_clearText_7 (fun ρ2 H locs eρ2 hM hS hq => ?_)
  specialize h ρ2 eρ2
  refine lv_iload_n hx hb dX8_clearText_10 rfl (lv_at hl 0 rfl) ?_
  exact g_iret (post := Q) (P' := fun u H => rg G LM aM u H) (r := v1) (u := ρ2) C hr hK hS h hM dX8_clearText_11
theorem dX8_isAt_0 : decode cX8_isAt 0 = .ok (.aload_n 0, 1) := by decide +kernel
theorem dX8_isAt_1 : decode cX8_isAt 1 = .ok (.getfield 149, 3) := by decide +kernel
theorem dX8_isAt_4 : decode cX8_isAt 4 = .ok (.aload_n 0, 1) := by decide +kernel
theorem dX8_isAt_5 : decode cX8_isAt 5 = .ok (.getfield 146, 3) := by decide +kernel
theorem dX8_isAt_8 : decode cX8_isAt 8 = .ok (.if_icmp .ge 24, 3) := by decide +kernel
theorem dX8_isAt_11 : decode cX8_isAt 11 = .ok (.aload_n 0, 1) := by decide +kernel
theorem dX8_isAt_12 : decode cX8_isAt 12 = .ok (.getfield 22, 3) := by decide +kernel
theorem dX8_isAt_15 : decode cX8_isAt 15 = .ok (.aload_n 0, 1) := by decide +kernel
theorem dX8_isAt_16 : decode cX8_isAt 16 = .ok (.getfield 149, 3) := by decide +kernel
theorem dX8_isAt_19 : decode cX8_isAt 19 = .ok (.iaload, 1) := by decide +kernel
theorem dX8_isAt_20 : decode cX8_isAt 20 = .ok (.iload_n 1, 1) := by decide +kernel
theorem dX8_isAt_21 : decode cX8_isAt 21 = .ok (.iload_n 2, 1) := by decide +kernel
theorem dX8_isAt_22 : decode cX8_isAt 22 = .ok (.invokestatic 43, 3) := by decide +kernel
theorem dX8_isAt_25 : decode cX8_isAt 25 = .ok (.ifCond .eq 7, 3) := by decide +kernel
theorem dX8_isAt_28 : decode cX8_isAt 28 = .ok (.iconst 1, 1) := by decide +kernel
theorem dX8_isAt_29 : decode cX8_isAt 29 = .ok (.goto 4, 3) := by decide +kernel
theorem dX8_isAt_32 : decode cX8_isAt 32 = .ok (.iconst 0, 1) := by decide +kernel
theorem dX8_isAt_33 : decode cX8_isAt 33 = .ok (.ireturn, 1) := by decide +kernel
def vc_X8_isAt (Q : Int32 → Prop) (ρ : Mem) (x1 : Int32) (x2 : Int32) : Prop :=
  (((ρ 0 7) ≤ (ρ 0 10)) → (Q 0 )) ∧ ((¬ (ρ 0 7) ≤ (ρ 0 10)) → (vp_in (ρ 0 10) 60 ∧ (vc_X8_in (fun r3 => ((r3 = 0) → (Q 0 )) ∧ ((¬ r3 = 0) → (Q 1 ))) (ρ 5 (ρ 0 10).toNatClampNeg) x1 x2)))
set_option maxHeartbeats 8000000 in
set_option maxRecDepth 100000 in
theorem m_X8_isAt (l : Launch) (G : GG) (aM : Nat) (ρ : Mem) (x1 : Int32) (x2 : Int32) (Q : Int32 → Prop) (h : vc_X8_isAt Q ρ x1 x2) : CtI l yX8_isAt cX8_isAt 3 (some .boolean) { frames := 1, cells := 0, slots := 0, locals := 22 } [.ref (aM + 0), .int x1, .int x2] G (fun H => rg G LM aM ρ H) (fun r (_ : Unit) => Q r) (fun _ _ => True) (fun _ => False) := by
  unfold CtI
  refine met_start (y := yX8_isAt) (maxL := 3) (av := [.ref (aM + 0), .int x1, .int x2]) (G := G) (P := fun H => rg G LM aM ρ H) (by decide) rfl (Nat.le_of_ble_eq_true rfl) (fun p e s m below meth c ls C hr hP hK hl => ?_)
  obtain ⟨hx, hb, hml, hown, hts, hlocks⟩ := id C
  have hM : rg G LM aM ρ s.heap := hP
  have hS : va_S (fun _ => False) s.heap s.heap [] := va_S.rf
  have hl : lv_has ls 3 [(0, .ref (aM + 0)), (1, .int x1), (2, .int x2)] := hl
  unfold vc_X8_isAt at h
  refine lv_aload_n hx hb dX8_isAt_0 rfl (lv_at hl 0 rfl) ?_
  refine g_getI (a := aM) (k := 0) C hK hM fl_X8_149 rfl rfl dX8_isAt_1 ?_
  refine lv_aload_n hx hb dX8_isAt_4 rfl (lv_at hl 0 rfl) ?_
  refine g_getI (a := aM) (k := 0) C hK hM fl_X8_146 rfl rfl dX8_isAt_5 ?_
  refine lv_icmp_ge (tgt := 32) hx hb dX8_isAt_8 (by decide) (fun c1 => ?_) (fun c1 => ?_)
  · replace h := h.1 c1
    refine lv_iconst (v := 0) hx hb dX8_isAt_32 (by decide) ?_
    exact g_zret (post := fun r (_ : Unit) => Q r) (P' := fun _ _ => True) (r := 0) (u := ()) C hr hK hS (by rfl) h trivial dX8_isAt_33
  · replace h := h.2 c1
    refine lv_aload_n hx hb dX8_isAt_11 rfl (lv_at hl 0 rfl) ?_
    refine g_getR (a := aM) (k := 0) (o := 5) C hK hM fl_X8_22 rfl rfl dX8_isAt_12 ?_
    refine lv_aload_n hx hb dX8_isAt_15 rfl (lv_at hl 0 rfl) ?_
    refine g_getI (a := aM) (k := 0) C hK hM fl_X8_149 rfl rfl dX8_isAt_16 ?_
    obtain ⟨b2, h⟩ := h
    refine g_ald (a := aM) (k := 5) (n := 60) C hK hM rfl b2 dX8_isAt_19 ?_
    refine lv_iload_n hx hb dX8_isAt_20 rfl (lv_at hl 1 rfl) ?_
    refine lv_iload_n hx hb dX8_isAt_21 rfl (lv_at hl 2 rfl) ?_
    refine g_sI C hK hl.1 (m_X8_in l G (ρ 5 (ρ 0 10).toNatClampNeg) x1 x2 _ h) mw_X8_in ms_X8_in ml_X8_43 rfl ⟨rfl, rfl, Nat.le_of_ble_eq_true rfl, Nat.le_of_ble_eq_true rfl⟩ ⟨Nat.zero_le _, Nat.zero_le _⟩ trivial hS (fun _ h => h.elim) rfl (Nat.le_of_ble_eq_true rfl) dX8_isAt_22 (fun r3 u H locs h hu _ hq hS => ?_)
    have hM := hM.past hq (fun _ _ h => h)
    refine lv_if_eq (tgt := 32) hx hb dX8_isAt_25 (by decide) (fun c4 => ?_) (fun c4 => ?_)
    · replace h := h.1 c4
      refine lv_iconst (v := 0) hx hb dX8_isAt_32 (by decide) ?_
      exact g_zret (post := fun r (_ : Unit) => Q r) (P' := fun _ _ => True) (r := 0) (u := ()) C hr hK hS (by rfl) h trivial dX8_isAt_33
    · replace h := h.2 c4
      refine lv_iconst (v := 1) hx hb dX8_isAt_28 (by decide) ?_
      refine lv_goto (tgt := 33) hx hb dX8_isAt_29 (by decide) ?_
      exact g_zret (post := fun r (_ : Unit) => Q r) (P' := fun _ _ => True) (r := 1) (u := ()) C hr hK hS (by rfl) h trivial dX8_isAt_33
theorem dX8_sign_0 : decode cX8_sign 0 = .ok (.aload_n 0, 1) := by decide +kernel
theorem dX8_sign_1 : decode cX8_sign 1 = .ok (.iload_n 1, 1) := by decide +kernel
theorem dX8_sign_2 : decode cX8_sign 2 = .ok (.iload_n 1, 1) := by decide +kernel
theorem dX8_sign_3 : decode cX8_sign 3 = .ok (.invokevirtual 152, 3) := by decide +kernel
theorem dX8_sign_6 : decode cX8_sign 6 = .ok (.istore_n 2, 1) := by decide +kernel
theorem dX8_sign_7 : decode cX8_sign 7 = .ok (.aload_n 0, 1) := by decide +kernel
theorem dX8_sign_8 : decode cX8_sign 8 = .ok (.dup, 1) := by decide +kernel
theorem dX8_sign_9 : decode cX8_sign 9 = .ok (.getfield 149, 3) := by decide +kernel
theorem dX8_sign_12 : decode cX8_sign 12 = .ok (.iload_n 2, 1) := by decide +kernel
theorem dX8_sign_13 : decode cX8_sign 13 = .ok (.ifCond .eq 7, 3) := by decide +kernel
theorem dX8_sign_16 : decode cX8_sign 16 = .ok (.iconst 1, 1) := by decide +kernel
theorem dX8_sign_17 : decode cX8_sign 17 = .ok (.goto 4, 3) := by decide +kernel
theorem dX8_sign_20 : decode cX8_sign 20 = .ok (.iconst 0, 1) := by decide +kernel
theorem dX8_sign_21 : decode cX8_sign 21 = .ok (.iadd, 1) := by decide +kernel
theorem dX8_sign_22 : decode cX8_sign 22 = .ok (.putfield 149, 3) := by decide +kernel
theorem dX8_sign_25 : decode cX8_sign 25 = .ok (.iload_n 2, 1) := by decide +kernel
theorem dX8_sign_26 : decode cX8_sign 26 = .ok (.ireturn, 1) := by decide +kernel
def vc_X8_sign (Q : Int32 → Mem → Prop) (ρ : Mem) (x1 : Int32) : Prop :=
  vc_X8_isAt (fun r1 => ((r1 = 0) → (∀ ρ3 : Mem, ρ3 = up ρ 0 10 ((ρ 0 10) + 0) → (narrow .boolean (.int r1) = .int r1 ∧ Q r1 ρ3))) ∧ ((¬ r1 = 0) → (∀ ρ4 : Mem, ρ4 = up ρ 0 10 ((ρ 0 10) + 1) → (narrow .boolean (.int r1) = .int r1 ∧ Q r1 ρ4)))) ρ x1 x1
set_option maxHeartbeats 8000000 in
set_option maxRecDepth 100000 in
theorem m_X8_sign (l : Launch) (G : GG) (aM : Nat) (ρ : Mem) (x1 : Int32) (Q : Int32 → Mem → Prop) (h : vc_X8_sign Q ρ x1) : CtI l yX8_sign cX8_sign 3 (some .boolean) { frames := 2, cells := 0, slots := 0, locals := 44 } [.ref (aM + 0), .int x1] G (fun H => rg G LM aM ρ H) (Q) (fun u H => rg G LM aM u H) (RA aM 8) := by
  unfold CtI
  refine met_start (y := yX8_sign) (maxL := 3) (av := [.ref (aM + 0), .int x1]) (G := G) (P := fun H => rg G LM aM ρ H) (by decide) rfl (Nat.le_of_ble_eq_true rfl) (fun p e s m below meth c ls C hr hP hK hl => ?_)
  obtain ⟨hx, hb, hml, hown, hts, hlocks⟩ := id C
  have hM : rg G LM aM ρ s.heap := hP
  have hS : va_S (RA aM 8) s.heap s.heap [] := va_S.rf
  have hl : lv_has ls 3 [(0, .ref (aM + 0)), (1, .int x1)] := hl
  unfold vc_X8_sign at h
  refine lv_aload_n hx hb dX8_sign_0 rfl (lv_at hl 0 rfl) ?_
  refine lv_iload_n hx hb dX8_sign_1 rfl (lv_at hl 1 rfl) ?_
  refine lv_iload_n hx hb dX8_sign_2 rfl (lv_at hl 1 rfl) ?_
  refine g_vI C hK hl.1 (m_X8_isAt l G aM ρ x1 x1 _ h) mw_X8_isAt mi_X8_isAt ml_X8_152 rfl ⟨rfl, rfl, Nat.le_of_ble_eq_true rfl, Nat.le_of_ble_eq_true rfl⟩ ⟨Nat.zero_le _, Nat.zero_le _⟩ (g_recv (a := aM) (k := 0) hK hM rfl rfl) hM hS (fun _ h => h.elim) rfl (Nat.le_of_ble_eq_true rfl) dX8_sign_3 (fun r1 u H locs h hu _ hq hS => ?_)
  have hM := hM.past hq (fun _ _ h => h)
  refine lv_istore_n (lv' := [(2, .int r1), (0, .ref (aM + 0)), (1, .int x1)]) hx hb dX8_sign_6 rfl hl (by decide) rfl (fun ls hl => ?_)
  refine lv_aload_n hx hb dX8_sign_7 rfl (lv_at hl 1 rfl) ?_
  refine lv_dup hx hb dX8_sign_8 rfl ?_
  refine g_getI (a := aM) (k := 0) C hK hM fl_X8_149 rfl rfl dX8_sign_9 ?_
  refine lv_iload_n hx hb dX8_sign_12 rfl (lv_at hl 0 rfl) ?_
  refine lv_if_eq (tgt := 20) hx hb dX8_sign_13 (by decide) (fun c2 => ?_) (fun c2 => ?_)
  · replace h := h.1 c2
    refine lv_iconst (v := 0) hx hb dX8_sign_20 (by decide) ?_
    refine lv_iadd hx hb dX8_sign_21 ?_
    refine g_put (a := aM) (k := 0) C hK hM hS fl_X8_149 fp_X8_10 rfl rfl (by rfl) (by rfl) (RA_in (by decide)) dX8_sign_22 (fun ρ3 H locs eρ3 hM hS hq => ?_)
    specialize h ρ3 eρ3
    refine lv_iload_n hx hb dX8_sign_25 rfl (lv_at hl 0 rfl) ?_
    exact g_zret (post := Q) (P' := fun u H => rg G LM aM u H) (r := r1) (u := ρ3) C hr hK hS h.1 h.2 hM dX8_sign_26
  · replace h := h.2 c2
    refine lv_iconst (v := 1) hx hb dX8_sign_16 (by decide) ?_
    refine lv_goto (tgt := 21) hx hb dX8_sign_17 (by decide) ?_
    refine lv_iadd hx hb dX8_sign_21 ?_
    refine g_put (a := aM) (k := 0) C hK hM hS fl_X8_149 fp_X8_10 rfl rfl (by rfl) (by rfl) (RA_in (by decide)) dX8_sign_22 (fun ρ4 H locs eρ4 hM hS hq => ?_)
    specialize h ρ4 eρ4
    refine lv_iload_n hx hb dX8_sign_25 rfl (lv_at hl 0 rfl) ?_
    exact g_zret (post := Q) (P' := fun u H => rg G LM aM u H) (r := r1) (u := ρ4) C hr hK hS h.1 h.2 hM dX8_sign_26
theorem dX8_number_0 : decode cX8_number 0 = .ok (.aload_n 0, 1) := by decide +kernel
theorem dX8_number_1 : decode cX8_number 1 = .ok (.getfield 149, 3) := by decide +kernel
theorem dX8_number_4 : decode cX8_number 4 = .ok (.istore_n 2, 1) := by decide +kernel
theorem dX8_number_5 : decode cX8_number 5 = .ok (.aload_n 0, 1) := by decide +kernel
theorem dX8_number_6 : decode cX8_number 6 = .ok (.getfield 28, 3) := by decide +kernel
theorem dX8_number_9 : decode cX8_number 9 = .ok (.iload_n 1, 1) := by decide +kernel
theorem dX8_number_10 : decode cX8_number 10 = .ok (.iconst 0, 1) := by decide +kernel
theorem dX8_number_11 : decode cX8_number 11 = .ok (.iastore, 1) := by decide +kernel
theorem dX8_number_12 : decode cX8_number 12 = .ok (.aload_n 0, 1) := by decide +kernel
theorem dX8_number_13 : decode cX8_number 13 = .ok (.bipush 48, 2) := by decide +kernel
theorem dX8_number_15 : decode cX8_number 15 = .ok (.bipush 57, 2) := by decide +kernel
theorem dX8_number_17 : decode cX8_number 17 = .ok (.invokevirtual 152, 3) := by decide +kernel
theorem dX8_number_20 : decode cX8_number 20 = .ok (.ifCond .eq 54, 3) := by decide +kernel
theorem dX8_number_23 : decode cX8_number 23 = .ok (.aload_n 0, 1) := by decide +kernel
theorem dX8_number_24 : decode cX8_number 24 = .ok (.getfield 149, 3) := by decide +kernel
theorem dX8_number_27 : decode cX8_number 27 = .ok (.iload_n 2, 1) := by decide +kernel
theorem dX8_number_28 : decode cX8_number 28 = .ok (.isub, 1) := by decide +kernel
theorem dX8_number_29 : decode cX8_number 29 = .ok (.iconst 3, 1) := by decide +kernel
theorem dX8_number_30 : decode cX8_number 30 = .ok (.if_icmp .ge 44, 3) := by decide +kernel
theorem dX8_number_33 : decode cX8_number 33 = .ok (.aload_n 0, 1) := by decide +kernel
theorem dX8_number_34 : decode cX8_number 34 = .ok (.getfield 28, 3) := by decide +kernel
theorem dX8_number_37 : decode cX8_number 37 = .ok (.iload_n 1, 1) := by decide +kernel
theorem dX8_number_38 : decode cX8_number 38 = .ok (.bipush 10, 2) := by decide +kernel
theorem dX8_number_40 : decode cX8_number 40 = .ok (.aload_n 0, 1) := by decide +kernel
theorem dX8_number_41 : decode cX8_number 41 = .ok (.getfield 28, 3) := by decide +kernel
theorem dX8_number_44 : decode cX8_number 44 = .ok (.iload_n 1, 1) := by decide +kernel
theorem dX8_number_45 : decode cX8_number 45 = .ok (.iaload, 1) := by decide +kernel
theorem dX8_number_46 : decode cX8_number 46 = .ok (.imul, 1) := by decide +kernel
theorem dX8_number_47 : decode cX8_number 47 = .ok (.aload_n 0, 1) := by decide +kernel
theorem dX8_number_48 : decode cX8_number 48 = .ok (.getfield 22, 3) := by decide +kernel
theorem dX8_number_51 : decode cX8_number 51 = .ok (.aload_n 0, 1) := by decide +kernel
theorem dX8_number_52 : decode cX8_number 52 = .ok (.getfield 149, 3) := by decide +kernel
theorem dX8_number_55 : decode cX8_number 55 = .ok (.iaload, 1) := by decide +kernel
theorem dX8_number_56 : decode cX8_number 56 = .ok (.iadd, 1) := by decide +kernel
theorem dX8_number_57 : decode cX8_number 57 = .ok (.bipush 48, 2) := by decide +kernel
theorem dX8_number_59 : decode cX8_number 59 = .ok (.isub, 1) := by decide +kernel
theorem dX8_number_60 : decode cX8_number 60 = .ok (.iastore, 1) := by decide +kernel
theorem dX8_number_61 : decode cX8_number 61 = .ok (.aload_n 0, 1) := by decide +kernel
theorem dX8_number_62 : decode cX8_number 62 = .ok (.dup, 1) := by decide +kernel
theorem dX8_number_63 : decode cX8_number 63 = .ok (.getfield 149, 3) := by decide +kernel
theorem dX8_number_66 : decode cX8_number 66 = .ok (.iconst 1, 1) := by decide +kernel
theorem dX8_number_67 : decode cX8_number 67 = .ok (.iadd, 1) := by decide +kernel
theorem dX8_number_68 : decode cX8_number 68 = .ok (.putfield 149, 3) := by decide +kernel
theorem dX8_number_71 : decode cX8_number 71 = .ok (.goto (-59), 3) := by decide +kernel
theorem dX8_number_74 : decode cX8_number 74 = .ok (.aload_n 0, 1) := by decide +kernel
theorem dX8_number_75 : decode cX8_number 75 = .ok (.getfield 149, 3) := by decide +kernel
theorem dX8_number_78 : decode cX8_number 78 = .ok (.iload_n 2, 1) := by decide +kernel
theorem dX8_number_79 : decode cX8_number 79 = .ok (.if_icmp .le 7, 3) := by decide +kernel
theorem dX8_number_82 : decode cX8_number 82 = .ok (.iconst 1, 1) := by decide +kernel
theorem dX8_number_83 : decode cX8_number 83 = .ok (.goto 4, 3) := by decide +kernel
theorem dX8_number_86 : decode cX8_number 86 = .ok (.iconst 0, 1) := by decide +kernel
theorem dX8_number_87 : decode cX8_number 87 = .ok (.ireturn, 1) := by decide +kernel
def vb_X8_number_12 (Q : Int32 → Mem → Prop) (rec : Nat → Mem → Int32 → Int32 → Prop) (ρ : Mem) (w1 : Int32) (w2 : Int32) : Prop :=
  vc_X8_isAt (fun r4 => ((r4 = 0) → ((((ρ 0 10) ≤ w2) → (Q 0 ρ)) ∧ ((¬ (ρ 0 10) ≤ w2) → (Q 1 ρ)))) ∧ ((¬ r4 = 0) → (((3 ≤ ((ρ 0 10) - w2)) → ((((ρ 0 10) ≤ w2) → (Q 0 ρ)) ∧ ((¬ (ρ 0 10) ≤ w2) → (Q 1 ρ)))) ∧ ((¬ 3 ≤ ((ρ 0 10) - w2)) → (vp_in w1 4 ∧ (vp_in (ρ 0 10) 60 ∧ ((∀ ρ11 : Mem, ρ11 = up ρ 7 w1.toNatClampNeg (((10 * (ρ 7 w1.toNatClampNeg)) + (ρ 5 (ρ 0 10).toNatClampNeg)) - 48) → (∀ ρ12 : Mem, ρ12 = up ρ11 0 10 ((ρ11 0 10) + 1) → (rec 0 ρ12 w1 w2)))))))))) ρ 48 57
def vl_X8_number (Q : Int32 → Mem → Prop) : Nat → Nat → Mem → Int32 → Int32 → Prop
  | 0, _, _, _, _ => False
  | n + 1, 0, ρ, w1, w2 => vb_X8_number_12 Q (vl_X8_number Q n) ρ w1 w2
  | _ + 1, _, _, _, _ => False
def vc_X8_number (Q : Int32 → Mem → Prop) (ρ : Mem) (x1 : Int32) : Prop :=
  ∃ n : Nat, ∀ v1 : Int32, v1 = (ρ 0 10) → (vp_in x1 4 ∧ (∀ ρ3 : Mem, ρ3 = up ρ 7 x1.toNatClampNeg 0 → (vl_X8_number Q n 0 ρ3 x1 v1)))
set_option maxHeartbeats 8000000 in
set_option maxRecDepth 100000 in
theorem m_X8_number (l : Launch) (G : GG) (aM : Nat) (ρ : Mem) (x1 : Int32) (Q : Int32 → Mem → Prop) (h : vc_X8_number Q ρ x1) : CtI l yX8_number cX8_number 3 (some .boolean) { frames := 2, cells := 0, slots := 0, locals := 44 } [.ref (aM + 0), .int x1] G (fun H => rg G LM aM ρ H) (Q) (fun u H => rg G LM aM u H) (RA aM 8) := by
  unfold CtI
  refine met_start (y := yX8_number) (maxL := 3) (av := [.ref (aM + 0), .int x1]) (G := G) (P := fun H => rg G LM aM ρ H) (by decide) rfl (Nat.le_of_ble_eq_true rfl) (fun p e s m below meth c ls C hr hP hK hl => ?_)
  obtain ⟨hx, hb, hml, hown, hts, hlocks⟩ := id C
  have hM : rg G LM aM ρ s.heap := hP
  have hS : va_S (RA aM 8) s.heap s.heap [] := va_S.rf
  have hl : lv_has ls 3 [(0, .ref (aM + 0)), (1, .int x1)] := hl
  have K : ∀ n : Nat, (∀ (ρ : Mem) (w1 : Int32) (w2 : Int32) (H : Heap) (locs : List Loc) (ls : Array Slot), rg G LM aM ρ H → va_S (RA aM 8) s.heap H locs → lv_has ls 3 [(0, .ref (aM + 0)), (1, .int w1), (2, .int w2)] → vl_X8_number Q n 0 ρ w1 w2 → W p l e { frames := 2, cells := 0, slots := 0, locals := 44 } s m [.ref (aM + 0), .int x1].toArray below meth c H locs 0 0 (MQ below (va_Qi (Q) (fun u t => (fun u H => rg G LM aM u H) u t.heap ∧ KK G t) (RA aM 8)) [.ref (aM + 0), .int x1].toArray s 0 0 (RA aM 8)) (F0 m 12 ls [])) := by
    intro n
    induction n with
    | zero => exact fun _ _ _ _ _ _ _ _ _ h => h.elim
    | succ n ih =>
      · intro ρ w1 w2 H locs ls hM hS hl h
        replace h : vb_X8_number_12 Q (vl_X8_number Q n) ρ w1 w2 := h
        unfold vb_X8_number_12 at h
        refine lv_aload_n hx hb dX8_number_12 rfl (lv_at hl 0 rfl) ?_
        refine lv_bipush (v := 48) hx hb dX8_number_13 (by decide) ?_
        refine lv_bipush (v := 57) hx hb dX8_number_15 (by decide) ?_
        refine g_vI C hK hl.1 (m_X8_isAt l G aM ρ 48 57 _ h) mw_X8_isAt mi_X8_isAt ml_X8_152 rfl ⟨rfl, rfl, Nat.le_of_ble_eq_true rfl, Nat.le_of_ble_eq_true rfl⟩ ⟨Nat.zero_le _, Nat.zero_le _⟩ (g_recv (a := aM) (k := 0) hK hM rfl rfl) hM hS (fun _ h => h.elim) rfl (Nat.le_of_ble_eq_true rfl) dX8_number_17 (fun r4 u H locs h hu _ hq hS => ?_)
        have hM := hM.past hq (fun _ _ h => h)
        refine lv_if_eq (tgt := 74) hx hb dX8_number_20 (by decide) (fun c5 => ?_) (fun c5 => ?_)
        · replace h := h.1 c5
          refine lv_aload_n hx hb dX8_number_74 rfl (lv_at hl 0 rfl) ?_
          refine g_getI (a := aM) (k := 0) C hK hM fl_X8_149 rfl rfl dX8_number_75 ?_
          refine lv_iload_n hx hb dX8_number_78 rfl (lv_at hl 2 rfl) ?_
          refine lv_icmp_le (tgt := 86) hx hb dX8_number_79 (by decide) (fun c6 => ?_) (fun c6 => ?_)
          · replace h := h.1 c6
            refine lv_iconst (v := 0) hx hb dX8_number_86 (by decide) ?_
            exact g_zret (post := Q) (P' := fun u H => rg G LM aM u H) (r := 0) (u := ρ) C hr hK hS (by rfl) h hM dX8_number_87
          · replace h := h.2 c6
            refine lv_iconst (v := 1) hx hb dX8_number_82 (by decide) ?_
            refine lv_goto (tgt := 87) hx hb dX8_number_83 (by decide) ?_
            exact g_zret (post := Q) (P' := fun u H => rg G LM aM u H) (r := 1) (u := ρ) C hr hK hS (by rfl) h hM dX8_number_87
        · replace h := h.2 c5
          refine lv_aload_n hx hb dX8_number_23 rfl (lv_at hl 0 rfl) ?_
          refine g_getI (a := aM) (k := 0) C hK hM fl_X8_149 rfl rfl dX8_number_24 ?_
          refine lv_iload_n hx hb dX8_number_27 rfl (lv_at hl 2 rfl) ?_
          refine lv_isub hx hb dX8_number_28 ?_
          refine lv_iconst (v := 3) hx hb dX8_number_29 (by decide) ?_
          refine lv_icmp_ge (tgt := 74) hx hb dX8_number_30 (by decide) (fun c7 => ?_) (fun c7 => ?_)
          · replace h := h.1 c7
            refine lv_aload_n hx hb dX8_number_74 rfl (lv_at hl 0 rfl) ?_
            refine g_getI (a := aM) (k := 0) C hK hM fl_X8_149 rfl rfl dX8_number_75 ?_
            refine lv_iload_n hx hb dX8_number_78 rfl (lv_at hl 2 rfl) ?_
            refine lv_icmp_le (tgt := 86) hx hb dX8_number_79 (by decide) (fun c8 => ?_) (fun c8 => ?_)
            · replace h := h.1 c8
              refine lv_iconst (v := 0) hx hb dX8_number_86 (by decide) ?_
              exact g_zret (post := Q) (P' := fun u H => rg G LM aM u H) (r := 0) (u := ρ) C hr hK hS (by rfl) h hM dX8_number_87
            · replace h := h.2 c8
              refine lv_iconst (v := 1) hx hb dX8_number_82 (by decide) ?_
              refine lv_goto (tgt := 87) hx hb dX8_number_83 (by decide) ?_
              exact g_zret (post := Q) (P' := fun u H => rg G LM aM u H) (r := 1) (u := ρ) C hr hK hS (by rfl) h hM dX8_number_87
          · replace h := h.2 c7
            refine lv_aload_n hx hb dX8_number_33 rfl (lv_at hl 0 rfl) ?_
            refine g_getR (a := aM) (k := 0) (o := 7) C hK hM fl_X8_28 rfl rfl dX8_number_34 ?_
            refine lv_iload_n hx hb dX8_number_37 rfl (lv_at hl 1 rfl) ?_
            refine lv_bipush (v := 10) hx hb dX8_number_38 (by decide) ?_
            refine lv_aload_n hx hb dX8_number_40 rfl (lv_at hl 0 rfl) ?_
            refine g_getR (a := aM) (k := 0) (o := 7) C hK hM fl_X8_28 rfl rfl dX8_number_41 ?_
            refine lv_iload_n hx hb dX8_number_44 rfl (lv_at hl 1 rfl) ?_
            obtain ⟨b9, h⟩ := h
            refine g_ald (a := aM) (k := 7) (n := 4) C hK hM rfl b9 dX8_number_45 ?_
            refine lv_imul hx hb dX8_number_46 ?_
            refine lv_aload_n hx hb dX8_number_47 rfl (lv_at hl 0 rfl) ?_
            refine g_getR (a := aM) (k := 0) (o := 5) C hK hM fl_X8_22 rfl rfl dX8_number_48 ?_
            refine lv_aload_n hx hb dX8_number_51 rfl (lv_at hl 0 rfl) ?_
            refine g_getI (a := aM) (k := 0) C hK hM fl_X8_149 rfl rfl dX8_number_52 ?_
            obtain ⟨b10, h⟩ := h
            refine g_ald (a := aM) (k := 5) (n := 60) C hK hM rfl b10 dX8_number_55 ?_
            refine lv_iadd hx hb dX8_number_56 ?_
            refine lv_bipush (v := 48) hx hb dX8_number_57 (by decide) ?_
            refine lv_isub hx hb dX8_number_59 ?_
            refine g_ast (a := aM) (k := 7) (n := 4) C hK hM hS rfl b9 (RA_in (by decide)) dX8_number_60 (fun ρ11 H locs eρ11 hM hS hq => ?_)
            specialize h ρ11 eρ11
            refine lv_aload_n hx hb dX8_number_61 rfl (lv_at hl 0 rfl) ?_
            refine lv_dup hx hb dX8_number_62 rfl ?_
            refine g_getI (a := aM) (k := 0) C hK hM fl_X8_149 rfl rfl dX8_number_63 ?_
            refine lv_iconst (v := 1) hx hb dX8_number_66 (by decide) ?_
            refine lv_iadd hx hb dX8_number_67 ?_
            refine g_put (a := aM) (k := 0) C hK hM hS fl_X8_149 fp_X8_10 rfl rfl (by rfl) (by rfl) (RA_in (by decide)) dX8_number_68 (fun ρ12 H locs eρ12 hM hS hq => ?_)
            specialize h ρ12 eρ12
            refine lv_goto (tgt := 12) hx hb dX8_number_71 (by decide) ?_
            exact (ih) ρ12 w1 w2 _ _ _ hM hS (lv_sub hl [0, 1, 2] rfl) h
  unfold vc_X8_number at h
  obtain ⟨n, h⟩ := h
  refine lv_aload_n hx hb dX8_number_0 rfl (lv_at hl 0 rfl) ?_
  refine g_getI (a := aM) (k := 0) C hK hM fl_X8_149 rfl rfl dX8_number_1 ?_
  refine lv_topi (fun v1 ev1 => ?_)
  specialize h v1 ev1
  refine lv_istore_n (lv' := [(2, .int v1), (0, .ref (aM + 0)), (1, .int x1)]) hx hb dX8_number_4 rfl hl (by decide) rfl (fun ls hl => ?_)
  refine lv_aload_n hx hb dX8_number_5 rfl (lv_at hl 1 rfl) ?_
  refine g_getR (a := aM) (k := 0) (o := 7) C hK hM fl_X8_28 rfl rfl dX8_number_6 ?_
  refine lv_iload_n hx hb dX8_number_9 rfl (lv_at hl 2 rfl) ?_
  refine lv_iconst (v := 0) hx hb dX8_number_10 (by decide) ?_
  obtain ⟨b2, h⟩ := h
  refine g_ast (a := aM) (k := 7) (n := 4) C hK hM hS rfl b2 (RA_in (by decide)) dX8_number_11 (fun ρ3 H locs eρ3 hM hS hq => ?_)
  specialize h ρ3 eρ3
  exact ((K n)) ρ3 x1 v1 _ _ _ hM hS (lv_sub hl [1, 2, 0] rfl) h
