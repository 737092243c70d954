theorem dX2_flipOne_0 : decode cX2_flipOne 0 = .ok (.aload_n 0, 1) := by decide +kernel
theorem dX2_flipOne_1 : decode cX2_flipOne 1 = .ok (.getfield 18, 3) := by decide +kernel
theorem dX2_flipOne_4 : decode cX2_flipOne 4 = .ok (.iload_n 1, 1) := by decide +kernel
theorem dX2_flipOne_5 : decode cX2_flipOne 5 = .ok (.aload_n 0, 1) := by decide +kernel
theorem dX2_flipOne_6 : decode cX2_flipOne 6 = .ok (.getfield 9, 3) := by decide +kernel
theorem dX2_flipOne_9 : decode cX2_flipOne 9 = .ok (.iload_n 1, 1) := by decide +kernel
theorem dX2_flipOne_10 : decode cX2_flipOne 10 = .ok (.iaload, 1) := by decide +kernel
theorem dX2_flipOne_11 : decode cX2_flipOne 11 = .ok (.aload_n 0, 1) := by decide +kernel
theorem dX2_flipOne_12 : decode cX2_flipOne 12 = .ok (.getfield 18, 3) := by decide +kernel
theorem dX2_flipOne_15 : decode cX2_flipOne 15 = .ok (.iload_n 1, 1) := by decide +kernel
theorem dX2_flipOne_16 : decode cX2_flipOne 16 = .ok (.iaload, 1) := by decide +kernel
theorem dX2_flipOne_17 : decode cX2_flipOne 17 = .ok (.isub, 1) := by decide +kernel
theorem dX2_flipOne_18 : decode cX2_flipOne 18 = .ok (.iastore, 1) := by decide +kernel
theorem dX2_flipOne_19 : decode cX2_flipOne 19 = .ok (.aload_n 0, 1) := by decide +kernel
theorem dX2_flipOne_20 : decode cX2_flipOne 20 = .ok (.getfield 30, 3) := by decide +kernel
theorem dX2_flipOne_23 : decode cX2_flipOne 23 = .ok (.iload_n 1, 1) := by decide +kernel
theorem dX2_flipOne_24 : decode cX2_flipOne 24 = .ok (.dup2, 1) := by decide +kernel
theorem dX2_flipOne_25 : decode cX2_flipOne 25 = .ok (.iaload, 1) := by decide +kernel
theorem dX2_flipOne_26 : decode cX2_flipOne 26 = .ok (.iconst 1, 1) := by decide +kernel
theorem dX2_flipOne_27 : decode cX2_flipOne 27 = .ok (.iadd, 1) := by decide +kernel
theorem dX2_flipOne_28 : decode cX2_flipOne 28 = .ok (.iastore, 1) := by decide +kernel
theorem dX2_flipOne_29 : decode cX2_flipOne 29 = .ok (.return_, 1) := by decide +kernel
def vc_X2_flipOne (Q : Mem → Prop) (γ : Mem) (x1 : Int32) : Prop :=
  vp_in x1 12 ∧ (((∀ γ2 : Mem, γ2 = up γ 7 x1.toNatClampNeg ((γ 5 x1.toNatClampNeg) - (γ 7 x1.toNatClampNeg)) → (((∀ γ3 : Mem, γ3 = up γ2 11 x1.toNatClampNeg ((γ2 11 x1.toNatClampNeg) + 1) → (Q γ3)))))))
set_option maxHeartbeats 8000000 in
set_option maxRecDepth 100000 in
theorem m_X2_flipOne (l : Launch) (G : GG) (aG : Nat) (γ : Mem) (x1 : Int32) (Q : Mem → Prop) (h : vc_X2_flipOne Q γ x1) : CtV l yX2_flipOne cX2_flipOne 2 { frames := 0, cells := 0, slots := 0, locals := 0 } [.ref (aG + 4), .int x1] G (fun H => rg G LG aG γ H) (Q) (fun u H => rg G LG aG u H) (RA aG 22) := by
  unfold CtV
  refine met_start (y := yX2_flipOne) (maxL := 2) (av := [.ref (aG + 4), .int x1]) (G := G) (P := fun H => rg G LG aG γ H) (by decide) rfl (Nat.le_of_ble_eq_true rfl) (fun p e s m below meth c ls C hr hP hK hl => ?_)
  obtain ⟨hx, hb, hml, hown, hts, hlocks⟩ := id C
  have hG : rg G LG aG γ s.heap := hP
  have hS : va_S (RA aG 22) s.heap s.heap [] := va_S.rf
  have hl : lv_has ls 2 [(0, .ref (aG + 4)), (1, .int x1)] := hl
  unfold vc_X2_flipOne at h
  refine lv_aload_n hx hb dX2_flipOne_0 rfl (lv_at hl 0 rfl) ?_
  refine g_getR (a := aG) (k := 4) (o := 7) C hK hG fl_X2_18 rfl rfl dX2_flipOne_1 ?_
  refine lv_iload_n hx hb dX2_flipOne_4 rfl (lv_at hl 1 rfl) ?_
  refine lv_aload_n hx hb dX2_flipOne_5 rfl (lv_at hl 0 rfl) ?_
  refine g_getR (a := aG) (k := 4) (o := 5) C hK hG fl_X2_9 rfl rfl dX2_flipOne_6 ?_
  refine lv_iload_n hx hb dX2_flipOne_9 rfl (lv_at hl 1 rfl) ?_
  obtain ⟨b1, h⟩ := h
  refine g_ald (a := aG) (k := 5) (n := 12) C hK hG rfl b1 dX2_flipOne_10 ?_
  refine lv_aload_n hx hb dX2_flipOne_11 rfl (lv_at hl 0 rfl) ?_
  refine g_getR (a := aG) (k := 4) (o := 7) C hK hG fl_X2_18 rfl rfl dX2_flipOne_12 ?_
  refine lv_iload_n hx hb dX2_flipOne_15 rfl (lv_at hl 1 rfl) ?_
  refine g_ald (a := aG) (k := 7) (n := 12) C hK hG rfl b1 dX2_flipOne_16 ?_
  refine lv_isub hx hb dX2_flipOne_17 ?_
  refine g_ast (a := aG) (k := 7) (n := 12) C hK hG hS rfl b1 (RA_in (by decide)) dX2_flipOne_18 (fun γ2 H locs eγ2 hG hS hq => ?_)
  specialize h γ2 eγ2
  refine lv_aload_n hx hb dX2_flipOne_19 rfl (lv_at hl 0 rfl) ?_
  refine g_getR (a := aG) (k := 4) (o := 11) C hK hG fl_X2_30 rfl rfl dX2_flipOne_20 ?_
  refine lv_iload_n hx hb dX2_flipOne_23 rfl (lv_at hl 1 rfl) ?_
  refine lv_dup2_11 hx hb dX2_flipOne_24 rfl rfl ?_
  refine g_ald (a := aG) (k := 11) (n := 12) C hK hG rfl b1 dX2_flipOne_25 ?_
  refine lv_iconst (v := 1) hx hb dX2_flipOne_26 (by decide) ?_
  refine lv_iadd hx hb dX2_flipOne_27 ?_
  refine g_ast (a := aG) (k := 11) (n := 12) C hK hG hS rfl b1 (RA_in (by decide)) dX2_flipOne_28 (fun γ3 H locs eγ3 hG hS hq => ?_)
  specialize h γ3 eγ3
  exact g_vret (post := Q) (P' := fun u H => rg G LG aG u H) (u := γ3) C hr hK hS h hG dX2_flipOne_29
theorem dX2_numberOn_0 : decode cX2_numberOn 0 = .ok (.iconst 0, 1) := by decide +kernel
theorem dX2_numberOn_1 : decode cX2_numberOn 1 = .ok (.istore_n 2, 1) := by decide +kernel
theorem dX2_numberOn_2 : decode cX2_numberOn 2 = .ok (.iconst 0, 1) := by decide +kernel
theorem dX2_numberOn_3 : decode cX2_numberOn 3 = .ok (.istore_n 3, 1) := by decide +kernel
theorem dX2_numberOn_4 : decode cX2_numberOn 4 = .ok (.iload_n 3, 1) := by decide +kernel
theorem dX2_numberOn_5 : decode cX2_numberOn 5 = .ok (.bipush 12, 2) := by decide +kernel
theorem dX2_numberOn_7 : decode cX2_numberOn 7 = .ok (.if_icmp .ge 22, 3) := by decide +kernel
theorem dX2_numberOn_10 : decode cX2_numberOn 10 = .ok (.aload_n 0, 1) := by decide +kernel
theorem dX2_numberOn_11 : decode cX2_numberOn 11 = .ok (.getfield 15, 3) := by decide +kernel
theorem dX2_numberOn_14 : decode cX2_numberOn 14 = .ok (.iload_n 3, 1) := by decide +kernel
theorem dX2_numberOn_15 : decode cX2_numberOn 15 = .ok (.iaload, 1) := by decide +kernel
theorem dX2_numberOn_16 : decode cX2_numberOn 16 = .ok (.iload_n 1, 1) := by decide +kernel
theorem dX2_numberOn_17 : decode cX2_numberOn 17 = .ok (.if_icmp .ne 6, 3) := by decide +kernel
theorem dX2_numberOn_20 : decode cX2_numberOn 20 = .ok (.iinc 2 1, 3) := by decide +kernel
theorem dX2_numberOn_23 : decode cX2_numberOn 23 = .ok (.iinc 3 1, 3) := by decide +kernel
theorem dX2_numberOn_26 : decode cX2_numberOn 26 = .ok (.goto (-22), 3) := by decide +kernel
theorem dX2_numberOn_29 : decode cX2_numberOn 29 = .ok (.iload_n 2, 1) := by decide +kernel
theorem dX2_numberOn_30 : decode cX2_numberOn 30 = .ok (.ireturn, 1) := by decide +kernel
def vb_X2_numberOn_4 (Q : Int32 → Prop) (γ : Mem) (rec : Nat → Int32 → Int32 → Int32 → Prop) (w1 : Int32) (w2 : Int32) (w3 : Int32) : Prop :=
  ((12 ≤ w3) → (Q w2 )) ∧ ((¬ 12 ≤ w3) → (vp_in w3 12 ∧ (((¬ (γ 6 w3.toNatClampNeg) = w1) → (∀ v4 : Int32, v4 = w3 + 1 → (rec 0 w1 w2 v4))) ∧ (((γ 6 w3.toNatClampNeg) = w1) → (∀ v5 : Int32, v5 = w2 + 1 → (∀ v6 : Int32, v6 = w3 + 1 → (rec 0 w1 v5 v6)))))))
def vl_X2_numberOn (Q : Int32 → Prop) (γ : Mem) : Nat → Nat → Int32 → Int32 → Int32 → Prop
  | 0, _, _, _, _ => False
  | n + 1, 0, w1, w2, w3 => vb_X2_numberOn_4 Q γ (vl_X2_numberOn Q γ n) w1 w2 w3
  | _ + 1, _, _, _, _ => False
def vc_X2_numberOn (Q : Int32 → Prop) (γ : Mem) (x1 : Int32) : Prop :=
  ∃ n : Nat, vl_X2_numberOn Q γ n 0 x1 0 0
set_option maxHeartbeats 8000000 in
set_option maxRecDepth 100000 in
theorem m_X2_numberOn (l : Launch) (G : GG) (aG : Nat) (γ : Mem) (x1 : Int32) (Q : Int32 → Prop) (h : vc_X2_numberOn Q γ x1) : CtI l yX2_numberOn cX2_numberOn 4 (some .int) { frames := 0, cells := 0, slots := 0, locals := 0 } [.ref (aG + 4), .int x1] G (fun H => rg G LG aG γ H) (fun r (_ : Unit) => Q r) (fun _ _ => True) (fun _ => False) := by
  unfold CtI
  refine met_start (y := yX2_numberOn) (maxL := 4) (av := [.ref (aG + 4), .int x1]) (G := G) (P := fun H => rg G LG aG γ H) (by decide) rfl (Nat.le_of_ble_eq_true rfl) (fun p e s m below meth c ls C hr hP hK hl => ?_)
  obtain ⟨hx, hb, hml, hown, hts, hlocks⟩ := id C
  have hG : rg G LG aG γ s.heap := hP
  have hS : va_S (fun _ => False) s.heap s.heap [] := va_S.rf
  have hl : lv_has ls 4 [(0, .ref (aG + 4)), (1, .int x1)] := hl
  have K : ∀ n : Nat, (∀ (w1 : Int32) (w2 : Int32) (w3 : Int32) (H : Heap) (locs : List Loc) (ls : Array Slot), rg G LG aG γ H → va_S (fun _ => False) s.heap H locs → lv_has ls 4 [(0, .ref (aG + 4)), (1, .int w1), (2, .int w2), (3, .int w3)] → vl_X2_numberOn Q γ n 0 w1 w2 w3 → W p l e { frames := 0, cells := 0, slots := 0, locals := 0 } s m [.ref (aG + 4), .int x1].toArray below meth c H locs 0 0 (MQ below (va_Qi (fun r (_ : Unit) => Q r) (fun u t => (fun _ _ => True) u t.heap ∧ KK G t) (fun _ => False)) [.ref (aG + 4), .int x1].toArray s 0 0 (fun _ => False)) (F0 m 4 ls [])) := by
    intro n
    induction n with
    | zero => exact fun _ _ _ _ _ _ _ _ _ h => h.elim
    | succ n ih =>
      · intro w1 w2 w3 H locs ls hG hS hl h
        replace h : vb_X2_numberOn_4 Q γ (vl_X2_numberOn Q γ n) w1 w2 w3 := h
        unfold vb_X2_numberOn_4 at h
        refine lv_iload_n hx hb dX2_numberOn_4 rfl (lv_at hl 3 rfl) ?_
        refine lv_bipush (v := 12) hx hb dX2_numberOn_5 (by decide) ?_
        refine lv_icmp_ge (tgt := 29) hx hb dX2_numberOn_7 (by decide) (fun c1 => ?_) (fun c1 => ?_)
        · replace h := h.1 c1
          refine lv_iload_n hx hb dX2_numberOn_29 rfl (lv_at hl 2 rfl) ?_
          exact g_iret (post := fun r (_ : Unit) => Q r) (P' := fun _ _ => True) (r := w2) (u := ()) C hr hK hS h trivial dX2_numberOn_30
        · replace h := h.2 c1
          refine lv_aload_n hx hb dX2_numberOn_10 rfl (lv_at hl 0 rfl) ?_
          refine g_getR (a := aG) (k := 4) (o := 6) C hK hG fl_X2_15 rfl rfl dX2_numberOn_11 ?_
          refine lv_iload_n hx hb dX2_numberOn_14 rfl (lv_at hl 3 rfl) ?_
          obtain ⟨b2, h⟩ := h
          refine g_ald (a := aG) (k := 6) (n := 12) C hK hG rfl b2 dX2_numberOn_15 ?_
          refine lv_iload_n hx hb dX2_numberOn_16 rfl (lv_at hl 1 rfl) ?_
          refine lv_icmp_ne (tgt := 23) hx hb dX2_numberOn_17 (by decide) (fun c3 => ?_) (fun c3 => ?_)
          · replace h := h.1 c3
            obtain ⟨v4, ev4⟩ : ∃ y : Int32, y = w3 + 1 := ⟨_, rfl⟩
            specialize h v4 ev4
            refine lv_iinc (v := v4) (lv' := [(3, .int v4), (0, .ref (aG + 4)), (1, .int w1), (2, .int w2)]) hx hb dX2_numberOn_23 hl (k := 3) rfl (by rw [ev4]; rfl) (by decide) rfl (fun ls hl => ?_)
            refine lv_goto (tgt := 4) hx hb dX2_numberOn_26 (by decide) ?_
            exact (ih) w1 w2 v4 _ _ _ hG hS (lv_sub hl [1, 2, 3, 0] rfl) h
          · replace h := h.2 c3
            obtain ⟨v5, ev5⟩ : ∃ y : Int32, y = w2 + 1 := ⟨_, rfl⟩
            specialize h v5 ev5
            refine lv_iinc (v := v5) (lv' := [(2, .int v5), (0, .ref (aG + 4)), (1, .int w1), (3, .int w3)]) hx hb dX2_numberOn_20 hl (k := 2) rfl (by rw [ev5]; rfl) (by decide) rfl (fun ls hl => ?_)
            obtain ⟨v6, ev6⟩ : ∃ y : Int32, y = w3 + 1 := ⟨_, rfl⟩
            specialize h v6 ev6
            refine lv_iinc (v := v6) (lv' := [(3, .int v6), (2, .int v5), (0, .ref (aG + 4)), (1, .int w1)]) hx hb dX2_numberOn_23 hl (k := 3) rfl (by rw [ev6]; rfl) (by decide) rfl (fun ls hl => ?_)
            refine lv_goto (tgt := 4) hx hb dX2_numberOn_26 (by decide) ?_
            exact (ih) w1 v5 v6 _ _ _ hG hS (lv_sub hl [2, 3, 1, 0] rfl) h
  unfold vc_X2_numberOn at h
  obtain ⟨n, h⟩ := h
  refine lv_iconst (v := 0) hx hb dX2_numberOn_0 (by decide) ?_
  refine lv_istore_n (lv' := [(2, .int 0), (0, .ref (aG + 4)), (1, .int x1)]) hx hb dX2_numberOn_1 rfl hl (by decide) rfl (fun ls hl => ?_)
  refine lv_iconst (v := 0) hx hb dX2_numberOn_2 (by decide) ?_
  refine lv_istore_n (lv' := [(3, .int 0), (2, .int 0), (0, .ref (aG + 4)), (1, .int x1)]) hx hb dX2_numberOn_3 rfl hl (by decide) rfl (fun ls hl => ?_)
  exact ((K n)) x1 0 0 _ _ _ hG hS (lv_sub hl [2, 3, 1, 0] rfl) h
theorem dX2_aheadOnTask_0 : decode cX2_aheadOnTask 0 = .ok (.iconst 0, 1) := by decide +kernel
theorem dX2_aheadOnTask_1 : decode cX2_aheadOnTask 1 = .ok (.istore_n 2, 1) := by decide +kernel
theorem dX2_aheadOnTask_2 : decode cX2_aheadOnTask 2 = .ok (.iconst 0, 1) := by decide +kernel
theorem dX2_aheadOnTask_3 : decode cX2_aheadOnTask 3 = .ok (.istore_n 3, 1) := by decide +kernel
theorem dX2_aheadOnTask_4 : decode cX2_aheadOnTask 4 = .ok (.iload_n 3, 1) := by decide +kernel
theorem dX2_aheadOnTask_5 : decode cX2_aheadOnTask 5 = .ok (.bipush 12, 2) := by decide +kernel
theorem dX2_aheadOnTask_7 : decode cX2_aheadOnTask 7 = .ok (.if_icmp .ge 42, 3) := by decide +kernel
theorem dX2_aheadOnTask_10 : decode cX2_aheadOnTask 10 = .ok (.aload_n 0, 1) := by decide +kernel
theorem dX2_aheadOnTask_11 : decode cX2_aheadOnTask 11 = .ok (.getfield 15, 3) := by decide +kernel
theorem dX2_aheadOnTask_14 : decode cX2_aheadOnTask 14 = .ok (.iload_n 3, 1) := by decide +kernel
theorem dX2_aheadOnTask_15 : decode cX2_aheadOnTask 15 = .ok (.iaload, 1) := by decide +kernel
theorem dX2_aheadOnTask_16 : decode cX2_aheadOnTask 16 = .ok (.aload_n 0, 1) := by decide +kernel
theorem dX2_aheadOnTask_17 : decode cX2_aheadOnTask 17 = .ok (.getfield 15, 3) := by decide +kernel
theorem dX2_aheadOnTask_20 : decode cX2_aheadOnTask 20 = .ok (.iload_n 1, 1) := by decide +kernel
theorem dX2_aheadOnTask_21 : decode cX2_aheadOnTask 21 = .ok (.iaload, 1) := by decide +kernel
theorem dX2_aheadOnTask_22 : decode cX2_aheadOnTask 22 = .ok (.if_icmp .ne 21, 3) := by decide +kernel
theorem dX2_aheadOnTask_25 : decode cX2_aheadOnTask 25 = .ok (.aload_n 0, 1) := by decide +kernel
theorem dX2_aheadOnTask_26 : decode cX2_aheadOnTask 26 = .ok (.getfield 21, 3) := by decide +kernel
theorem dX2_aheadOnTask_29 : decode cX2_aheadOnTask 29 = .ok (.iload_n 3, 1) := by decide +kernel
theorem dX2_aheadOnTask_30 : decode cX2_aheadOnTask 30 = .ok (.iaload, 1) := by decide +kernel
theorem dX2_aheadOnTask_31 : decode cX2_aheadOnTask 31 = .ok (.aload_n 0, 1) := by decide +kernel
theorem dX2_aheadOnTask_32 : decode cX2_aheadOnTask 32 = .ok (.getfield 21, 3) := by decide +kernel
theorem dX2_aheadOnTask_35 : decode cX2_aheadOnTask 35 = .ok (.iload_n 1, 1) := by decide +kernel
theorem dX2_aheadOnTask_36 : decode cX2_aheadOnTask 36 = .ok (.iaload, 1) := by decide +kernel
theorem dX2_aheadOnTask_37 : decode cX2_aheadOnTask 37 = .ok (.if_icmp .ge 6, 3) := by decide +kernel
theorem dX2_aheadOnTask_40 : decode cX2_aheadOnTask 40 = .ok (.iinc 2 1, 3) := by decide +kernel
theorem dX2_aheadOnTask_43 : decode cX2_aheadOnTask 43 = .ok (.iinc 3 1, 3) := by decide +kernel
theorem dX2_aheadOnTask_46 : decode cX2_aheadOnTask 46 = .ok (.goto (-42), 3) := by decide +kernel
theorem dX2_aheadOnTask_49 : decode cX2_aheadOnTask 49 = .ok (.iload_n 2, 1) := by decide +kernel
theorem dX2_aheadOnTask_50 : decode cX2_aheadOnTask 50 = .ok (.ireturn, 1) := by decide +kernel
def vb_X2_aheadOnTask_4 (Q : Int32 → Prop) (γ : Mem) (rec : Nat → Int32 → Int32 → Int32 → Prop) (w1 : Int32) (w2 : Int32) (w3 : Int32) : Prop :=
  ((12 ≤ w3) → (Q w2 )) ∧ ((¬ 12 ≤ w3) → (vp_in w3 12 ∧ (vp_in w1 12 ∧ (((¬ (γ 6 w3.toNatClampNeg) = (γ 6 w1.toNatClampNeg)) → (∀ v5 : Int32, v5 = w3 + 1 → (rec 0 w1 w2 v5))) ∧ (((γ 6 w3.toNatClampNeg) = (γ 6 w1.toNatClampNeg)) → ((((((γ 8 w1.toNatClampNeg) ≤ (γ 8 w3.toNatClampNeg)) → (∀ v7 : Int32, v7 = w3 + 1 → (rec 0 w1 w2 v7))) ∧ ((¬ (γ 8 w1.toNatClampNeg) ≤ (γ 8 w3.toNatClampNeg)) → (∀ v8 : Int32, v8 = w2 + 1 → (∀ v9 : Int32, v9 = w3 + 1 → (rec 0 w1 v8 v9))))))))))))
def vl_X2_aheadOnTask (Q : Int32 → Prop) (γ : Mem) : Nat → Nat → Int32 → Int32 → Int32 → Prop
  | 0, _, _, _, _ => False
  | n + 1, 0, w1, w2, w3 => vb_X2_aheadOnTask_4 Q γ (vl_X2_aheadOnTask Q γ n) w1 w2 w3
  | _ + 1, _, _, _, _ => False
def vc_X2_aheadOnTask (Q : Int32 → Prop) (γ : Mem) (x1 : Int32) : Prop :=
  ∃ n : Nat, vl_X2_aheadOnTask Q γ n 0 x1 0 0
set_option maxHeartbeats 8000000 in
set_option maxRecDepth 100000 in
theorem m_X2_aheadOnTask (l : Launch) (G : GG) (aG : Nat) (γ : Mem) (x1 : Int32) (Q : Int32 → Prop) (h : vc_X2_aheadOnTask Q γ x1) : CtI l yX2_aheadOnTask cX2_aheadOnTask 4 (some .int) { frames := 0, cells := 0, slots := 0, locals := 0 } [.ref (aG + 4), .int x1] G (fun H => rg G LG aG γ H) (fun r (_ : Unit) => Q r) (fun _ _ => True) (fun _ => False) := by
  unfold CtI
  refine met_start (y := yX2_aheadOnTask) (maxL := 4) (av := [.ref (aG + 4), .int x1]) (G := G) (P := fun H => rg G LG aG γ H) (by decide) rfl (Nat.le_of_ble_eq_true rfl) (fun p e s m below meth c ls C hr hP hK hl => ?_)
  obtain ⟨hx, hb, hml, hown, hts, hlocks⟩ := id C
  have hG : rg G LG aG γ s.heap := hP
  have hS : va_S (fun _ => False) s.heap s.heap [] := va_S.rf
  have hl : lv_has ls 4 [(0, .ref (aG + 4)), (1, .int x1)] := hl
  have K : ∀ n : Nat, (∀ (w1 : Int32) (w2 : Int32) (w3 : Int32) (H : Heap) (locs : List Loc) (ls : Array Slot), rg G LG aG γ H → va_S (fun _ => False) s.heap H locs → lv_has ls 4 [(0, .ref (aG + 4)), (1, .int w1), (2, .int w2), (3, .int w3)] → vl_X2_aheadOnTask Q γ n 0 w1 w2 w3 → W p l e { frames := 0, cells := 0, slots := 0, locals := 0 } s m [.ref (aG + 4), .int x1].toArray below meth c H locs 0 0 (MQ below (va_Qi (fun r (_ : Unit) => Q r) (fun u t => (fun _ _ => True) u t.heap ∧ KK G t) (fun _ => False)) [.ref (aG + 4), .int x1].toArray s 0 0 (fun _ => False)) (F0 m 4 ls [])) := by
    intro n
    induction n with
    | zero => exact fun _ _ _ _ _ _ _ _ _ h => h.elim
    | succ n ih =>
      · intro w1 w2 w3 H locs ls hG hS hl h
        replace h : vb_X2_aheadOnTask_4 Q γ (vl_X2_aheadOnTask Q γ n) w1 w2 w3 := h
        unfold vb_X2_aheadOnTask_4 at h
        refine lv_iload_n hx hb dX2_aheadOnTask_4 rfl (lv_at hl 3 rfl) ?_
        refine lv_bipush (v := 12) hx hb dX2_aheadOnTask_5 (by decide) ?_
        refine lv_icmp_ge (tgt := 49) hx hb dX2_aheadOnTask_7 (by decide) (fun c1 => ?_) (fun c1 => ?_)
        · replace h := h.1 c1
          refine lv_iload_n hx hb dX2_aheadOnTask_49 rfl (lv_at hl 2 rfl) ?_
          exact g_iret (post := fun r (_ : Unit) => Q r) (P' := fun _ _ => True) (r := w2) (u := ()) C hr hK hS h trivial dX2_aheadOnTask_50
        · replace h := h.2 c1
          refine lv_aload_n hx hb dX2_aheadOnTask_10 rfl (lv_at hl 0 rfl) ?_
          refine g_getR (a := aG) (k := 4) (o := 6) C hK hG fl_X2_15 rfl rfl dX2_aheadOnTask_11 ?_
          refine lv_iload_n hx hb dX2_aheadOnTask_14 rfl (lv_at hl 3 rfl) ?_
          obtain ⟨b2, h⟩ := h
          refine g_ald (a := aG) (k := 6) (n := 12) C hK hG rfl b2 dX2_aheadOnTask_15 ?_
          refine lv_aload_n hx hb dX2_aheadOnTask_16 rfl (lv_at hl 0 rfl) ?_
          refine g_getR (a := aG) (k := 4) (o := 6) C hK hG fl_X2_15 rfl rfl dX2_aheadOnTask_17 ?_
          refine lv_iload_n hx hb dX2_aheadOnTask_20 rfl (lv_at hl 1 rfl) ?_
          obtain ⟨b3, h⟩ := h
          refine g_ald (a := aG) (k := 6) (n := 12) C hK hG rfl b3 dX2_aheadOnTask_21 ?_
          refine lv_icmp_ne (tgt := 43) hx hb dX2_aheadOnTask_22 (by decide) (fun c4 => ?_) (fun c4 => ?_)
          · replace h := h.1 c4
            obtain ⟨v5, ev5⟩ : ∃ y : Int32, y = w3 + 1 := ⟨_, rfl⟩
            specialize h v5 ev5
            refine lv_iinc (v := v5) (lv' := [(3, .int v5), (0, .ref (aG + 4)), (1, .int w1), (2, .int w2)]) hx hb dX2_aheadOnTask_43 hl (k := 3) rfl (by rw [ev5]; rfl) (by decide) rfl (fun ls hl => ?_)
            refine lv_goto (tgt := 4) hx hb dX2_aheadOnTask_46 (by decide) ?_
            exact (ih) w1 w2 v5 _ _ _ hG hS (lv_sub hl [1, 2, 3, 0] rfl) h
          · replace h := h.2 c4
            refine lv_aload_n hx hb dX2_aheadOnTask_25 rfl (lv_at hl 0 rfl) ?_
            refine g_getR (a := aG) (k := 4) (o := 8) C hK hG fl_X2_21 rfl rfl dX2_aheadOnTask_26 ?_
            refine lv_iload_n hx hb dX2_aheadOnTask_29 rfl (lv_at hl 3 rfl) ?_
            refine g_ald (a := aG) (k := 8) (n := 12) C hK hG rfl b2 dX2_aheadOnTask_30 ?_
            refine lv_aload_n hx hb dX2_aheadOnTask_31 rfl (lv_at hl 0 rfl) ?_
            refine g_getR (a := aG) (k := 4) (o := 8) C hK hG fl_X2_21 rfl rfl dX2_aheadOnTask_32 ?_
            refine lv_iload_n hx hb dX2_aheadOnTask_35 rfl (lv_at hl 1 rfl) ?_
            refine g_ald (a := aG) (k := 8) (n := 12) C hK hG rfl b3 dX2_aheadOnTask_36 ?_
            refine lv_icmp_ge (tgt := 43) hx hb dX2_aheadOnTask_37 (by decide) (fun c6 => ?_) (fun c6 => ?_)
            · replace h := h.1 c6
              obtain ⟨v7, ev7⟩ : ∃ y : Int32, y = w3 + 1 := ⟨_, rfl⟩
              specialize h v7 ev7
              refine lv_iinc (v := v7) (lv' := [(3, .int v7), (0, .ref (aG + 4)), (1, .int w1), (2, .int w2)]) hx hb dX2_aheadOnTask_43 hl (k := 3) rfl (by rw [ev7]; rfl) (by decide) rfl (fun ls hl => ?_)
              refine lv_goto (tgt := 4) hx hb dX2_aheadOnTask_46 (by decide) ?_
              exact (ih) w1 w2 v7 _ _ _ hG hS (lv_sub hl [1, 2, 3, 0] rfl) h
            · replace h := h.2 c6
              obtain ⟨v8, ev8⟩ : ∃ y : Int32, y = w2 + 1 := ⟨_, rfl⟩
              specialize h v8 ev8
              refine lv_iinc (v := v8) (lv' := [(2, .int v8), (0, .ref (aG + 4)), (1, .int w1), (3, .int w3)]) hx hb dX2_aheadOnTask_40 hl (k := 2) rfl (by rw [ev8]; rfl) (by decide) rfl (fun ls hl => ?_)
              obtain ⟨v9, ev9⟩ : ∃ y : Int32, y = w3 + 1 := ⟨_, rfl⟩
              specialize h v9 ev9
              refine lv_iinc (v := v9) (lv' := [(3, .int v9), (2, .int v8), (0, .ref (aG + 4)), (1, .int w1)]) hx hb dX2_aheadOnTask_43 hl (k := 3) rfl (by rw [ev9]; rfl) (by decide) rfl (fun ls hl => ?_)
              refine lv_goto (tgt := 4) hx hb dX2_aheadOnTask_46 (by decide) ?_
              exact (ih) w1 v8 v9 _ _ _ hG hS (lv_sub hl [2, 3, 1, 0] rfl) h
  unfold vc_X2_aheadOnTask at h
  obtain ⟨n, h⟩ := h
  refine lv_iconst (v := 0) hx hb dX2_aheadOnTask_0 (by decide) ?_
  refine lv_istore_n (lv' := [(2, .int 0), (0, .ref (aG + 4)), (1, .int x1)]) hx hb dX2_aheadOnTask_1 rfl hl (by decide) rfl (fun ls hl => ?_)
  refine lv_iconst (v := 0) hx hb dX2_aheadOnTask_2 (by decide) ?_
  refine lv_istore_n (lv' := [(3, .int 0), (2, .int 0), (0, .ref (aG + 4)), (1, .int x1)]) hx hb dX2_aheadOnTask_3 rfl hl (by decide) rfl (fun ls hl => ?_)
  exact ((K n)) x1 0 0 _ _ _ hG hS (lv_sub hl [2, 3, 1, 0] rfl) h
theorem dX2_atPlace_0 : decode cX2_atPlace 0 = .ok (.iconst 0, 1) := by decide +kernel
theorem dX2_atPlace_1 : decode cX2_atPlace 1 = .ok (.istore_n 3, 1) := by decide +kernel
theorem dX2_atPlace_2 : decode cX2_atPlace 2 = .ok (.iload_n 3, 1) := by decide +kernel
theorem dX2_atPlace_3 : decode cX2_atPlace 3 = .ok (.bipush 12, 2) := by decide +kernel
theorem dX2_atPlace_5 : decode cX2_atPlace 5 = .ok (.if_icmp .ge 30, 3) := by decide +kernel
theorem dX2_atPlace_8 : decode cX2_atPlace 8 = .ok (.aload_n 0, 1) := by decide +kernel
theorem dX2_atPlace_9 : decode cX2_atPlace 9 = .ok (.getfield 15, 3) := by decide +kernel
theorem dX2_atPlace_12 : decode cX2_atPlace 12 = .ok (.iload_n 3, 1) := by decide +kernel
theorem dX2_atPlace_13 : decode cX2_atPlace 13 = .ok (.iaload, 1) := by decide +kernel
theorem dX2_atPlace_14 : decode cX2_atPlace 14 = .ok (.iload_n 1, 1) := by decide +kernel
theorem dX2_atPlace_15 : decode cX2_atPlace 15 = .ok (.if_icmp .ne 14, 3) := by decide +kernel
theorem dX2_atPlace_18 : decode cX2_atPlace 18 = .ok (.aload_n 0, 1) := by decide +kernel
theorem dX2_atPlace_19 : decode cX2_atPlace 19 = .ok (.iload_n 3, 1) := by decide +kernel
theorem dX2_atPlace_20 : decode cX2_atPlace 20 = .ok (.invokevirtual 41, 3) := by decide +kernel
theorem dX2_atPlace_23 : decode cX2_atPlace 23 = .ok (.iload_n 2, 1) := by decide +kernel
theorem dX2_atPlace_24 : decode cX2_atPlace 24 = .ok (.if_icmp .ne 5, 3) := by decide +kernel
theorem dX2_atPlace_27 : decode cX2_atPlace 27 = .ok (.iload_n 3, 1) := by decide +kernel
theorem dX2_atPlace_28 : decode cX2_atPlace 28 = .ok (.ireturn, 1) := by decide +kernel
theorem dX2_atPlace_29 : decode cX2_atPlace 29 = .ok (.iinc 3 1, 3) := by decide +kernel
theorem dX2_atPlace_32 : decode cX2_atPlace 32 = .ok (.goto (-30), 3) := by decide +kernel
theorem dX2_atPlace_35 : decode cX2_atPlace 35 = .ok (.iconst (-1), 1) := by decide +kernel
theorem dX2_atPlace_36 : decode cX2_atPlace 36 = .ok (.ireturn, 1) := by decide +kernel
def vb_X2_atPlace_2 (Q : Int32 → Prop) (γ : Mem) (rec : Nat → Int32 → Int32 → Int32 → Prop) (w1 : Int32) (w2 : Int32) (w3 : Int32) : Prop :=
  ((12 ≤ w3) → (Q (-1) )) ∧ ((¬ 12 ≤ w3) → (vp_in w3 12 ∧ (((¬ (γ 6 w3.toNatClampNeg) = w1) → (∀ v4 : Int32, v4 = w3 + 1 → (rec 0 w1 w2 v4))) ∧ (((γ 6 w3.toNatClampNeg) = w1) → (vc_X2_aheadOnTask (fun r5 => ((¬ r5 = w2) → (∀ v7 : Int32, v7 = w3 + 1 → (rec 0 w1 w2 v7))) ∧ ((r5 = w2) → (Q w3 ))) γ w3)))))
def vl_X2_atPlace (Q : Int32 → Prop) (γ : Mem) : Nat → Nat → Int32 → Int32 → Int32 → Prop
  | 0, _, _, _, _ => False
  | n + 1, 0, w1, w2, w3 => vb_X2_atPlace_2 Q γ (vl_X2_atPlace Q γ n) w1 w2 w3
  | _ + 1, _, _, _, _ => False
def vc_X2_atPlace (Q : Int32 → Prop) (γ : Mem) (x1 : Int32) (x2 : Int32) : Prop :=
  ∃ n : Nat, vl_X2_atPlace Q γ n 0 x1 x2 0
set_option maxHeartbeats 8000000 in
set_option maxRecDepth 100000 in
theorem m_X2_atPlace (l : Launch) (G : GG) (aG : Nat) (γ : Mem) (x1 : Int32) (x2 : Int32) (Q : Int32 → Prop) (h : vc_X2_atPlace Q γ x1 x2) : CtI l yX2_atPlace cX2_atPlace 4 (some .int) { frames := 1, cells := 0, slots := 0, locals := 23 } [.ref (aG + 4), .int x1, .int x2] G (fun H => rg G LG aG γ H) (fun r (_ : Unit) => Q r) (fun _ _ => True) (fun _ => False) := by
  unfold CtI
  refine met_start (y := yX2_atPlace) (maxL := 4) (av := [.ref (aG + 4), .int x1, .int x2]) (G := G) (P := fun H => rg G LG aG γ H) (by decide) rfl (Nat.le_of_ble_eq_true rfl) (fun p e s m below meth c ls C hr hP hK hl => ?_)
  obtain ⟨hx, hb, hml, hown, hts, hlocks⟩ := id C
  have hG : rg G LG aG γ s.heap := hP
  have hS : va_S (fun _ => False) s.heap s.heap [] := va_S.rf
  have hl : lv_has ls 4 [(0, .ref (aG + 4)), (1, .int x1), (2, .int x2)] := hl
  have K : ∀ n : Nat, (∀ (w1 : Int32) (w2 : Int32) (w3 : Int32) (H : Heap) (locs : List Loc) (ls : Array Slot), rg G LG aG γ H → va_S (fun _ => False) s.heap H locs → lv_has ls 4 [(0, .ref (aG + 4)), (1, .int w1), (2, .int w2), (3, .int w3)] → vl_X2_atPlace Q γ n 0 w1 w2 w3 → W p l e { frames := 1, cells := 0, slots := 0, locals := 23 } s m [.ref (aG + 4), .int x1, .int x2].toArray below meth c H locs 0 0 (MQ below (va_Qi (fun r (_ : Unit) => Q r) (fun u t => (fun _ _ => True) u t.heap ∧ KK G t) (fun _ => False)) [.ref (aG + 4), .int x1, .int x2].toArray s 0 0 (fun _ => False)) (F0 m 2 ls [])) := by
    intro n
    induction n with
    | zero => exact fun _ _ _ _ _ _ _ _ _ h => h.elim
    | succ n ih =>
      · intro w1 w2 w3 H locs ls hG hS hl h
        replace h : vb_X2_atPlace_2 Q γ (vl_X2_atPlace Q γ n) w1 w2 w3 := h
        unfold vb_X2_atPlace_2 at h
        refine lv_iload_n hx hb dX2_atPlace_2 rfl (lv_at hl 3 rfl) ?_
        refine lv_bipush (v := 12) hx hb dX2_atPlace_3 (by decide) ?_
        refine lv_icmp_ge (tgt := 35) hx hb dX2_atPlace_5 (by decide) (fun c1 => ?_) (fun c1 => ?_)
        · replace h := h.1 c1
          refine lv_iconst (v := (-1)) hx hb dX2_atPlace_35 (by decide) ?_
          exact g_iret (post := fun r (_ : Unit) => Q r) (P' := fun _ _ => True) (r := (-1)) (u := ()) C hr hK hS h trivial dX2_atPlace_36
        · replace h := h.2 c1
          refine lv_aload_n hx hb dX2_atPlace_8 rfl (lv_at hl 0 rfl) ?_
          refine g_getR (a := aG) (k := 4) (o := 6) C hK hG fl_X2_15 rfl rfl dX2_atPlace_9 ?_
          refine lv_iload_n hx hb dX2_atPlace_12 rfl (lv_at hl 3 rfl) ?_
          obtain ⟨b2, h⟩ := h
          refine g_ald (a := aG) (k := 6) (n := 12) C hK hG rfl b2 dX2_atPlace_13 ?_
          refine lv_iload_n hx hb dX2_atPlace_14 rfl (lv_at hl 1 rfl) ?_
          refine lv_icmp_ne (tgt := 29) hx hb dX2_atPlace_15 (by decide) (fun c3 => ?_) (fun c3 => ?_)
          · replace h := h.1 c3
            obtain ⟨v4, ev4⟩ : ∃ y : Int32, y = w3 + 1 := ⟨_, rfl⟩
            specialize h v4 ev4
            refine lv_iinc (v := v4) (lv' := [(3, .int v4), (0, .ref (aG + 4)), (1, .int w1), (2, .int w2)]) hx hb dX2_atPlace_29 hl (k := 3) rfl (by rw [ev4]; rfl) (by decide) rfl (fun ls hl => ?_)
            refine lv_goto (tgt := 2) hx hb dX2_atPlace_32 (by decide) ?_
            exact (ih) w1 w2 v4 _ _ _ hG hS (lv_sub hl [1, 2, 3, 0] rfl) h
          · replace h := h.2 c3
            refine lv_aload_n hx hb dX2_atPlace_18 rfl (lv_at hl 0 rfl) ?_
            refine lv_iload_n hx hb dX2_atPlace_19 rfl (lv_at hl 3 rfl) ?_
            refine g_vI C hK hl.1 (m_X2_aheadOnTask l G aG γ w3 _ h) mw_X2_aheadOnTask mi_X2_aheadOnTask ml_X2_41 rfl ⟨rfl, rfl, Nat.le_of_ble_eq_true rfl, Nat.le_of_ble_eq_true rfl⟩ ⟨Nat.zero_le _, Nat.zero_le _⟩ (g_recv (a := aG) (k := 4) hK hG rfl rfl) hG hS (fun _ h => h.elim) rfl (Nat.le_of_ble_eq_true rfl) dX2_atPlace_20 (fun r5 u H locs h hu _ hq hS => ?_)
            have hG := hG.past hq (fun _ _ h => h)
            refine lv_iload_n hx hb dX2_atPlace_23 rfl (lv_at hl 2 rfl) ?_
            refine lv_icmp_ne (tgt := 29) hx hb dX2_atPlace_24 (by decide) (fun c6 => ?_) (fun c6 => ?_)
            · replace h := h.1 c6
              obtain ⟨v7, ev7⟩ : ∃ y : Int32, y = w3 + 1 := ⟨_, rfl⟩
              specialize h v7 ev7
              refine lv_iinc (v := v7) (lv' := [(3, .int v7), (0, .ref (aG + 4)), (1, .int w1), (2, .int w2)]) hx hb dX2_atPlace_29 hl (k := 3) rfl (by rw [ev7]; rfl) (by decide) rfl (fun ls hl => ?_)
              refine lv_goto (tgt := 2) hx hb dX2_atPlace_32 (by decide) ?_
              exact (ih) w1 w2 v7 _ _ _ hG hS (lv_sub hl [1, 2, 3, 0] rfl) h
            · replace h := h.2 c6
              refine lv_iload_n hx hb dX2_atPlace_27 rfl (lv_at hl 3 rfl) ?_
              exact g_iret (post := fun r (_ : Unit) => Q r) (P' := fun _ _ => True) (r := w3) (u := ()) C hr hK hS h trivial dX2_atPlace_28
  unfold vc_X2_atPlace at h
  obtain ⟨n, h⟩ := h
  refine lv_iconst (v := 0) hx hb dX2_atPlace_0 (by decide) ?_
  refine lv_istore_n (lv' := [(3, .int 0), (0, .ref (aG + 4)), (1, .int x1), (2, .int x2)]) hx hb dX2_atPlace_1 rfl hl (by decide) rfl (fun ls hl => ?_)
  exact ((K n)) x1 x2 0 _ _ _ hG hS (lv_sub hl [1, 2, 3, 0] rfl) h
theorem dX2_nextOut_0 : decode cX2_nextOut 0 = .ok (.iconst (-1), 1) := by decide +kernel
theorem dX2_nextOut_1 : decode cX2_nextOut 1 = .ok (.istore_n 1, 1) := by decide +kernel
theorem dX2_nextOut_2 : decode cX2_nextOut 2 = .ok (.iconst 0, 1) := by decide +kernel
theorem dX2_nextOut_3 : decode cX2_nextOut 3 = .ok (.istore_n 2, 1) := by decide +kernel
theorem dX2_nextOut_4 : decode cX2_nextOut 4 = .ok (.iload_n 2, 1) := by decide +kernel
theorem dX2_nextOut_5 : decode cX2_nextOut 5 = .ok (.bipush 12, 2) := by decide +kernel
theorem dX2_nextOut_7 : decode cX2_nextOut 7 = .ok (.if_icmp .ge 39, 3) := by decide +kernel
theorem dX2_nextOut_10 : decode cX2_nextOut 10 = .ok (.aload_n 0, 1) := by decide +kernel
theorem dX2_nextOut_11 : decode cX2_nextOut 11 = .ok (.iload_n 2, 1) := by decide +kernel
theorem dX2_nextOut_12 : decode cX2_nextOut 12 = .ok (.invokevirtual 45, 3) := by decide +kernel
theorem dX2_nextOut_15 : decode cX2_nextOut 15 = .ok (.ifCond .ne 25, 3) := by decide +kernel
theorem dX2_nextOut_18 : decode cX2_nextOut 18 = .ok (.iload_n 1, 1) := by decide +kernel
theorem dX2_nextOut_19 : decode cX2_nextOut 19 = .ok (.iconst (-1), 1) := by decide +kernel
theorem dX2_nextOut_20 : decode cX2_nextOut 20 = .ok (.if_icmp .eq 18, 3) := by decide +kernel
theorem dX2_nextOut_23 : decode cX2_nextOut 23 = .ok (.aload_n 0, 1) := by decide +kernel
theorem dX2_nextOut_24 : decode cX2_nextOut 24 = .ok (.getfield 18, 3) := by decide +kernel
theorem dX2_nextOut_27 : decode cX2_nextOut 27 = .ok (.iload_n 2, 1) := by decide +kernel
theorem dX2_nextOut_28 : decode cX2_nextOut 28 = .ok (.iaload, 1) := by decide +kernel
theorem dX2_nextOut_29 : decode cX2_nextOut 29 = .ok (.aload_n 0, 1) := by decide +kernel
theorem dX2_nextOut_30 : decode cX2_nextOut 30 = .ok (.getfield 18, 3) := by decide +kernel
theorem dX2_nextOut_33 : decode cX2_nextOut 33 = .ok (.iload_n 1, 1) := by decide +kernel
theorem dX2_nextOut_34 : decode cX2_nextOut 34 = .ok (.iaload, 1) := by decide +kernel
theorem dX2_nextOut_35 : decode cX2_nextOut 35 = .ok (.if_icmp .ge 5, 3) := by decide +kernel
theorem dX2_nextOut_38 : decode cX2_nextOut 38 = .ok (.iload_n 2, 1) := by decide +kernel
theorem dX2_nextOut_39 : decode cX2_nextOut 39 = .ok (.istore_n 1, 1) := by decide +kernel
theorem dX2_nextOut_40 : decode cX2_nextOut 40 = .ok (.iinc 2 1, 3) := by decide +kernel
theorem dX2_nextOut_43 : decode cX2_nextOut 43 = .ok (.goto (-39), 3) := by decide +kernel
theorem dX2_nextOut_46 : decode cX2_nextOut 46 = .ok (.iload_n 1, 1) := by decide +kernel
theorem dX2_nextOut_47 : decode cX2_nextOut 47 = .ok (.ireturn, 1) := by decide +kernel
def vb_X2_nextOut_4 (Q : Int32 → Prop) (γ : Mem) (rec : Nat → Int32 → Int32 → Prop) (w1 : Int32) (w2 : Int32) : Prop :=
  ((12 ≤ w2) → (Q w1 )) ∧ ((¬ 12 ≤ w2) → (vc_X2_isOut (fun r2 => ((¬ r2 = 0) → (∀ v4 : Int32, v4 = w2 + 1 → (rec 0 w1 v4))) ∧ ((r2 = 0) → (((w1 = (-1)) → (∀ v6 : Int32, v6 = w2 + 1 → (rec 0 w2 v6))) ∧ ((¬ w1 = (-1)) → (vp_in w2 12 ∧ (vp_in w1 12 ∧ ((((γ 7 w1.toNatClampNeg) ≤ (γ 7 w2.toNatClampNeg)) → (∀ v10 : Int32, v10 = w2 + 1 → (rec 0 w1 v10))) ∧ ((¬ (γ 7 w1.toNatClampNeg) ≤ (γ 7 w2.toNatClampNeg)) → (∀ v11 : Int32, v11 = w2 + 1 → (rec 0 w2 v11)))))))))) γ w2))
def vl_X2_nextOut (Q : Int32 → Prop) (γ : Mem) : Nat → Nat → Int32 → Int32 → Prop
  | 0, _, _, _ => False
  | n + 1, 0, w1, w2 => vb_X2_nextOut_4 Q γ (vl_X2_nextOut Q γ n) w1 w2
  | _ + 1, _, _, _ => False
def vc_X2_nextOut (Q : Int32 → Prop) (γ : Mem) : Prop :=
  ∃ n : Nat, vl_X2_nextOut Q γ n 0 (-1) 0
set_option maxHeartbeats 8000000 in
set_option maxRecDepth 100000 in
theorem m_X2_nextOut (l : Launch) (G : GG) (aG : Nat) (γ : Mem) (Q : Int32 → Prop) (h : vc_X2_nextOut Q γ) : CtI l yX2_nextOut cX2_nextOut 3 (some .int) { frames := 1, cells := 0, slots := 0, locals := 21 } [.ref (aG + 4)] G (fun H => rg G LG aG γ H) (fun r (_ : Unit) => Q r) (fun _ _ => True) (fun _ => False) := by
  unfold CtI
  refine met_start (y := yX2_nextOut) (maxL := 3) (av := [.ref (aG + 4)]) (G := G) (P := fun H => rg G LG aG γ H) (by decide) rfl (Nat.le_of_ble_eq_true rfl) (fun p e s m below meth c ls C hr hP hK hl => ?_)
  obtain ⟨hx, hb, hml, hown, hts, hlocks⟩ := id C
  have hG : rg G LG aG γ s.heap := hP
  have hS : va_S (fun _ => False) s.heap s.heap [] := va_S.rf
  have hl : lv_has ls 3 [(0, .ref (aG + 4))] := hl
  have K : ∀ n : Nat, (∀ (w1 : Int32) (w2 : Int32) (H : Heap) (locs : List Loc) (ls : Array Slot), rg G LG aG γ H → va_S (fun _ => False) s.heap H locs → lv_has ls 3 [(0, .ref (aG + 4)), (1, .int w1), (2, .int w2)] → vl_X2_nextOut Q γ n 0 w1 w2 → W p l e { frames := 1, cells := 0, slots := 0, locals := 21 } s m [.ref (aG + 4)].toArray below meth c H locs 0 0 (MQ below (va_Qi (fun r (_ : Unit) => Q r) (fun u t => (fun _ _ => True) u t.heap ∧ KK G t) (fun _ => False)) [.ref (aG + 4)].toArray s 0 0 (fun _ => False)) (F0 m 4 ls [])) := by
    intro n
    induction n with
    | zero => exact fun _ _ _ _ _ _ _ _ h => h.elim
    | succ n ih =>
      · intro w1 w2 H locs ls hG hS hl h
        replace h : vb_X2_nextOut_4 Q γ (vl_X2_nextOut Q γ n) w1 w2 := h
        unfold vb_X2_nextOut_4 at h
        refine lv_iload_n hx hb dX2_nextOut_4 rfl (lv_at hl 2 rfl) ?_
        refine lv_bipush (v := 12) hx hb dX2_nextOut_5 (by decide) ?_
        refine lv_icmp_ge (tgt := 46) hx hb dX2_nextOut_7 (by decide) (fun c1 => ?_) (fun c1 => ?_)
        · replace h := h.1 c1
          refine lv_iload_n hx hb dX2_nextOut_46 rfl (lv_at hl 1 rfl) ?_
          exact g_iret (post := fun r (_ : Unit) => Q r) (P' := fun _ _ => True) (r := w1) (u := ()) C hr hK hS h trivial dX2_nextOut_47
        · replace h := h.2 c1
          refine lv_aload_n hx hb dX2_nextOut_10 rfl (lv_at hl 0 rfl) ?_
          refine lv_iload_n hx hb dX2_nextOut_11 rfl (lv_at hl 2 rfl) ?_
          refine g_vI C hK hl.1 (m_X2_isOut l G aG γ w2 _ h) mw_X2_isOut mi_X2_isOut ml_X2_45 rfl ⟨rfl, rfl, Nat.le_of_ble_eq_true rfl, Nat.le_of_ble_eq_true rfl⟩ ⟨Nat.zero_le _, Nat.zero_le _⟩ (g_recv (a := aG) (k := 4) hK hG rfl rfl) hG hS (fun _ h => h.elim) rfl (Nat.le_of_ble_eq_true rfl) dX2_nextOut_12 (fun r2 u H locs h hu _ hq hS => ?_)
          have hG := hG.past hq (fun _ _ h => h)
          refine lv_if_ne (tgt := 40) hx hb dX2_nextOut_15 (by decide) (fun c3 => ?_) (fun c3 => ?_)
          · replace h := h.1 c3
            obtain ⟨v4, ev4⟩ : ∃ y : Int32, y = w2 + 1 := ⟨_, rfl⟩
            specialize h v4 ev4
            refine lv_iinc (v := v4) (lv' := [(2, .int v4), (0, .ref (aG + 4)), (1, .int w1)]) hx hb dX2_nextOut_40 hl (k := 2) rfl (by rw [ev4]; rfl) (by decide) rfl (fun ls hl => ?_)
            refine lv_goto (tgt := 4) hx hb dX2_nextOut_43 (by decide) ?_
            exact (ih) w1 v4 _ _ _ hG hS (lv_sub hl [1, 2, 0] rfl) h
          · replace h := h.2 c3
            refine lv_iload_n hx hb dX2_nextOut_18 rfl (lv_at hl 1 rfl) ?_
            refine lv_iconst (v := (-1)) hx hb dX2_nextOut_19 (by decide) ?_
            refine lv_icmp_eq (tgt := 38) hx hb dX2_nextOut_20 (by decide) (fun c5 => ?_) (fun c5 => ?_)
            · replace h := h.1 c5
              refine lv_iload_n hx hb dX2_nextOut_38 rfl (lv_at hl 2 rfl) ?_
              refine lv_istore_n (lv' := [(1, .int w2), (0, .ref (aG + 4)), (2, .int w2)]) hx hb dX2_nextOut_39 rfl hl (by decide) rfl (fun ls hl => ?_)
              obtain ⟨v6, ev6⟩ : ∃ y : Int32, y = w2 + 1 := ⟨_, rfl⟩
              specialize h v6 ev6
              refine lv_iinc (v := v6) (lv' := [(2, .int v6), (1, .int w2), (0, .ref (aG + 4))]) hx hb dX2_nextOut_40 hl (k := 2) rfl (by rw [ev6]; rfl) (by decide) rfl (fun ls hl => ?_)
              refine lv_goto (tgt := 4) hx hb dX2_nextOut_43 (by decide) ?_
              exact (ih) w2 v6 _ _ _ hG hS (lv_sub hl [2, 1, 0] rfl) h
            · replace h := h.2 c5
              refine lv_aload_n hx hb dX2_nextOut_23 rfl (lv_at hl 0 rfl) ?_
              refine g_getR (a := aG) (k := 4) (o := 7) C hK hG fl_X2_18 rfl rfl dX2_nextOut_24 ?_
              refine lv_iload_n hx hb dX2_nextOut_27 rfl (lv_at hl 2 rfl) ?_
              obtain ⟨b7, h⟩ := h
              refine g_ald (a := aG) (k := 7) (n := 12) C hK hG rfl b7 dX2_nextOut_28 ?_
              refine lv_aload_n hx hb dX2_nextOut_29 rfl (lv_at hl 0 rfl) ?_
              refine g_getR (a := aG) (k := 4) (o := 7) C hK hG fl_X2_18 rfl rfl dX2_nextOut_30 ?_
              refine lv_iload_n hx hb dX2_nextOut_33 rfl (lv_at hl 1 rfl) ?_
              obtain ⟨b8, h⟩ := h
              refine g_ald (a := aG) (k := 7) (n := 12) C hK hG rfl b8 dX2_nextOut_34 ?_
              refine lv_icmp_ge (tgt := 40) hx hb dX2_nextOut_35 (by decide) (fun c9 => ?_) (fun c9 => ?_)
              · replace h := h.1 c9
                obtain ⟨v10, ev10⟩ : ∃ y : Int32, y = w2 + 1 := ⟨_, rfl⟩
                specialize h v10 ev10
                refine lv_iinc (v := v10) (lv' := [(2, .int v10), (0, .ref (aG + 4)), (1, .int w1)]) hx hb dX2_nextOut_40 hl (k := 2) rfl (by rw [ev10]; rfl) (by decide) rfl (fun ls hl => ?_)
                refine lv_goto (tgt := 4) hx hb dX2_nextOut_43 (by decide) ?_
                exact (ih) w1 v10 _ _ _ hG hS (lv_sub hl [1, 2, 0] rfl) h
              · replace h := h.2 c9
                refine lv_iload_n hx hb dX2_nextOut_38 rfl (lv_at hl 2 rfl) ?_
                refine lv_istore_n (lv' := [(1, .int w2), (0, .ref (aG + 4)), (2, .int w2)]) hx hb dX2_nextOut_39 rfl hl (by decide) rfl (fun ls hl => ?_)
                obtain ⟨v11, ev11⟩ : ∃ y : Int32, y = w2 + 1 := ⟨_, rfl⟩
                specialize h v11 ev11
                refine lv_iinc (v := v11) (lv' := [(2, .int v11), (1, .int w2), (0, .ref (aG + 4))]) hx hb dX2_nextOut_40 hl (k := 2) rfl (by rw [ev11]; rfl) (by decide) rfl (fun ls hl => ?_)
                refine lv_goto (tgt := 4) hx hb dX2_nextOut_43 (by decide) ?_
                exact (ih) w2 v11 _ _ _ hG hS (lv_sub hl [2, 1, 0] rfl) h
  unfold vc_X2_nextOut at h
  obtain ⟨n, h⟩ := h
  refine lv_iconst (v := (-1)) hx hb dX2_nextOut_0 (by decide) ?_
  refine lv_istore_n (lv' := [(1, .int (-1)), (0, .ref (aG + 4))]) hx hb dX2_nextOut_1 rfl hl (by decide) rfl (fun ls hl => ?_)
  refine lv_iconst (v := 0) hx hb dX2_nextOut_2 (by decide) ?_
  refine lv_istore_n (lv' := [(2, .int 0), (1, .int (-1)), (0, .ref (aG + 4))]) hx hb dX2_nextOut_3 rfl hl (by decide) rfl (fun ls hl => ?_)
  exact ((K n)) (-1) 0 _ _ _ hG hS (lv_sub hl [2, 1, 0] rfl) h
theorem dX2_untilNextOut_0 : decode cX2_untilNextOut 0 = .ok (.aload_n 0, 1) := by decide +kernel
theorem dX2_untilNextOut_1 : decode cX2_untilNextOut 1 = .ok (.invokevirtual 49, 3) := by decide +kernel
theorem dX2_untilNextOut_4 : decode cX2_untilNextOut 4 = .ok (.istore_n 1, 1) := by decide +kernel
theorem dX2_untilNextOut_5 : decode cX2_untilNextOut 5 = .ok (.iload_n 1, 1) := by decide +kernel
theorem dX2_untilNextOut_6 : decode cX2_untilNextOut 6 = .ok (.iconst (-1), 1) := by decide +kernel
theorem dX2_untilNextOut_7 : decode cX2_untilNextOut 7 = .ok (.if_icmp .ne 8, 3) := by decide +kernel
theorem dX2_untilNextOut_10 : decode cX2_untilNextOut 10 = .ok (.ldc 53, 2) := by decide +kernel
theorem dX2_untilNextOut_12 : decode cX2_untilNextOut 12 = .ok (.goto 9, 3) := by decide +kernel
theorem dX2_untilNextOut_15 : decode cX2_untilNextOut 15 = .ok (.aload_n 0, 1) := by decide +kernel
theorem dX2_untilNextOut_16 : decode cX2_untilNextOut 16 = .ok (.getfield 18, 3) := by decide +kernel
theorem dX2_untilNextOut_19 : decode cX2_untilNextOut 19 = .ok (.iload_n 1, 1) := by decide +kernel
theorem dX2_untilNextOut_20 : decode cX2_untilNextOut 20 = .ok (.iaload, 1) := by decide +kernel
theorem dX2_untilNextOut_21 : decode cX2_untilNextOut 21 = .ok (.ireturn, 1) := by decide +kernel
def vc_X2_untilNextOut (Q : Int32 → Prop) (γ : Mem) : Prop :=
  vc_X2_nextOut (fun r1 => ((¬ r1 = (-1)) → (vp_in r1 12 ∧ (Q (γ 7 r1.toNatClampNeg) ))) ∧ ((r1 = (-1)) → (Q 1000000 ))) γ
set_option maxHeartbeats 8000000 in
set_option maxRecDepth 100000 in
theorem m_X2_untilNextOut (l : Launch) (G : GG) (aG : Nat) (γ : Mem) (Q : Int32 → Prop) (h : vc_X2_untilNextOut Q γ) : CtI l yX2_untilNextOut cX2_untilNextOut 2 (some .int) { frames := 2, cells := 0, slots := 0, locals := 43 } [.ref (aG + 4)] G (fun H => rg G LG aG γ H) (fun r (_ : Unit) => Q r) (fun _ _ => True) (fun _ => False) := by
  unfold CtI
  refine met_start (y := yX2_untilNextOut) (maxL := 2) (av := [.ref (aG + 4)]) (G := G) (P := fun H => rg G LG aG γ H) (by decide) rfl (Nat.le_of_ble_eq_true rfl) (fun p e s m below meth c ls C hr hP hK hl => ?_)
  obtain ⟨hx, hb, hml, hown, hts, hlocks⟩ := id C
  have hG : rg G LG aG γ s.heap := hP
  have hS : va_S (fun _ => False) s.heap s.heap [] := va_S.rf
  have hl : lv_has ls 2 [(0, .ref (aG + 4))] := hl
  unfold vc_X2_untilNextOut at h
  refine lv_aload_n hx hb dX2_untilNextOut_0 rfl (lv_at hl 0 rfl) ?_
  refine g_vI C hK hl.1 (m_X2_nextOut l G aG γ _ h) mw_X2_nextOut mi_X2_nextOut ml_X2_49 rfl ⟨rfl, rfl, Nat.le_of_ble_eq_true rfl, Nat.le_of_ble_eq_true rfl⟩ ⟨Nat.zero_le _, Nat.zero_le _⟩ (g_recv (a := aG) (k := 4) hK hG rfl rfl) hG hS (fun _ h => h.elim) rfl (Nat.le_of_ble_eq_true rfl) dX2_untilNextOut_1 (fun r1 u H locs h hu _ hq hS => ?_)
  have hG := hG.past hq (fun _ _ h => h)
  refine lv_istore_n (lv' := [(1, .int r1), (0, .ref (aG + 4))]) hx hb dX2_untilNextOut_4 rfl hl (by decide) rfl (fun ls hl => ?_)
  refine lv_iload_n hx hb dX2_untilNextOut_5 rfl (lv_at hl 0 rfl) ?_
  refine lv_iconst (v := (-1)) hx hb dX2_untilNextOut_6 (by decide) ?_
  refine lv_icmp_ne (tgt := 15) hx hb dX2_untilNextOut_7 (by decide) (fun c2 => ?_) (fun c2 => ?_)
  · replace h := h.1 c2
    refine lv_aload_n hx hb dX2_untilNextOut_15 rfl (lv_at hl 1 rfl) ?_
    refine g_getR (a := aG) (k := 4) (o := 7) C hK hG fl_X2_18 rfl rfl dX2_untilNextOut_16 ?_
    refine lv_iload_n hx hb dX2_untilNextOut_19 rfl (lv_at hl 0 rfl) ?_
    obtain ⟨b3, h⟩ := h
    refine g_ald (a := aG) (k := 7) (n := 12) C hK hG rfl b3 dX2_untilNextOut_20 ?_
    exact g_iret (post := fun r (_ : Unit) => Q r) (P' := fun _ _ => True) (r := (γ 7 r1.toNatClampNeg)) (u := ()) C hr hK hS h trivial dX2_untilNextOut_21
  · replace h := h.2 c2
    refine g_ldc C kc_X2_53 dX2_untilNextOut_10 ?_
    refine lv_goto (tgt := 21) hx hb dX2_untilNextOut_12 (by decide) ?_
    exact g_iret (post := fun r (_ : Unit) => Q r) (P' := fun _ _ => True) (r := 1000000) (u := ()) C hr hK hS h trivial dX2_untilNextOut_21
theorem dX2_outOf_0 : decode cX2_outOf 0 = .ok (.iconst 0, 1) := by decide +kernel
theorem dX2_outOf_1 : decode cX2_outOf 1 = .ok (.istore_n 2, 1) := by decide +kernel
theorem dX2_outOf_2 : decode cX2_outOf 2 = .ok (.iconst 0, 1) := by decide +kernel
theorem dX2_outOf_3 : decode cX2_outOf 3 = .ok (.istore_n 3, 1) := by decide +kernel
theorem dX2_outOf_4 : decode cX2_outOf 4 = .ok (.iload_n 3, 1) := by decide +kernel
theorem dX2_outOf_5 : decode cX2_outOf 5 = .ok (.iconst 3, 1) := by decide +kernel
theorem dX2_outOf_6 : decode cX2_outOf 6 = .ok (.if_icmp .ge 24, 3) := by decide +kernel
theorem dX2_outOf_9 : decode cX2_outOf 9 = .ok (.aload_n 0, 1) := by decide +kernel
theorem dX2_outOf_10 : decode cX2_outOf 10 = .ok (.iload_n 1, 1) := by decide +kernel
theorem dX2_outOf_11 : decode cX2_outOf 11 = .ok (.iload_n 3, 1) := by decide +kernel
theorem dX2_outOf_12 : decode cX2_outOf 12 = .ok (.invokestatic 54, 3) := by decide +kernel
theorem dX2_outOf_15 : decode cX2_outOf 15 = .ok (.invokevirtual 45, 3) := by decide +kernel
theorem dX2_outOf_18 : decode cX2_outOf 18 = .ok (.ifCond .eq 6, 3) := by decide +kernel
theorem dX2_outOf_21 : decode cX2_outOf 21 = .ok (.iinc 2 1, 3) := by decide +kernel
theorem dX2_outOf_24 : decode cX2_outOf 24 = .ok (.iinc 3 1, 3) := by decide +kernel
theorem dX2_outOf_27 : decode cX2_outOf 27 = .ok (.goto (-23), 3) := by decide +kernel
theorem dX2_outOf_30 : decode cX2_outOf 30 = .ok (.iload_n 2, 1) := by decide +kernel
theorem dX2_outOf_31 : decode cX2_outOf 31 = .ok (.ireturn, 1) := by decide +kernel
def vb_X2_outOf_4 (Q : Int32 → Prop) (γ : Mem) (rec : Nat → Int32 → Int32 → Int32 → Prop) (w1 : Int32) (w2 : Int32) (w3 : Int32) : Prop :=
  ((3 ≤ w3) → (Q w2 )) ∧ ((¬ 3 ≤ w3) → (vc_X7_glassOf (fun r2 => vc_X2_isOut (fun r3 => ((r3 = 0) → (∀ v5 : Int32, v5 = w3 + 1 → (rec 0 w1 w2 v5))) ∧ ((¬ r3 = 0) → (∀ v6 : Int32, v6 = w2 + 1 → (∀ v7 : Int32, v7 = w3 + 1 → (rec 0 w1 v6 v7))))) γ r2) w1 w3))
def vl_X2_outOf (Q : Int32 → Prop) (γ : Mem) : Nat → Nat → Int32 → Int32 → Int32 → Prop
  | 0, _, _, _, _ => False
  | n + 1, 0, w1, w2, w3 => vb_X2_outOf_4 Q γ (vl_X2_outOf Q γ n) w1 w2 w3
  | _ + 1, _, _, _, _ => False
def vc_X2_outOf (Q : Int32 → Prop) (γ : Mem) (x1 : Int32) : Prop :=
  ∃ n : Nat, vl_X2_outOf Q γ n 0 x1 0 0
set_option maxHeartbeats 8000000 in
set_option maxRecDepth 100000 in
theorem m_X2_outOf (l : Launch) (G : GG) (aG : Nat) (γ : Mem) (x1 : Int32) (Q : Int32 → Prop) (h : vc_X2_outOf Q γ x1) : CtI l yX2_outOf cX2_outOf 4 (some .int) { frames := 1, cells := 0, slots := 0, locals := 21 } [.ref (aG + 4), .int x1] G (fun H => rg G LG aG γ H) (fun r (_ : Unit) => Q r) (fun _ _ => True) (fun _ => False) := by
  unfold CtI
  refine met_start (y := yX2_outOf) (maxL := 4) (av := [.ref (aG + 4), .int x1]) (G := G) (P := fun H => rg G LG aG γ H) (by decide) rfl (Nat.le_of_ble_eq_true rfl) (fun p e s m below meth c ls C hr hP hK hl => ?_)
  obtain ⟨hx, hb, hml, hown, hts, hlocks⟩ := id C
  have hG : rg G LG aG γ s.heap := hP
  have hS : va_S (fun _ => False) s.heap s.heap [] := va_S.rf
  have hl : lv_has ls 4 [(0, .ref (aG + 4)), (1, .int x1)] := hl
  have K : ∀ n : Nat, (∀ (w1 : Int32) (w2 : Int32) (w3 : Int32) (H : Heap) (locs : List Loc) (ls : Array Slot), rg G LG aG γ H → va_S (fun _ => False) s.heap H locs → lv_has ls 4 [(0, .ref (aG + 4)), (1, .int w1), (2, .int w2), (3, .int w3)] → vl_X2_outOf Q γ n 0 w1 w2 w3 → W p l e { frames := 1, cells := 0, slots := 0, locals := 21 } s m [.ref (aG + 4), .int x1].toArray below meth c H locs 0 0 (MQ below (va_Qi (fun r (_ : Unit) => Q r) (fun u t => (fun _ _ => True) u t.heap ∧ KK G t) (fun _ => False)) [.ref (aG + 4), .int x1].toArray s 0 0 (fun _ => False)) (F0 m 4 ls [])) := by
    intro n
    induction n with
    | zero => exact fun _ _ _ _ _ _ _ _ _ h => h.elim
    | succ n ih =>
      · intro w1 w2 w3 H locs ls hG hS hl h
        replace h : vb_X2_outOf_4 Q γ (vl_X2_outOf Q γ n) w1 w2 w3 := h
        unfold vb_X2_outOf_4 at h
        refine lv_iload_n hx hb dX2_outOf_4 rfl (lv_at hl 3 rfl) ?_
        refine lv_iconst (v := 3) hx hb dX2_outOf_5 (by decide) ?_
        refine lv_icmp_ge (tgt := 30) hx hb dX2_outOf_6 (by decide) (fun c1 => ?_) (fun c1 => ?_)
        · replace h := h.1 c1
          refine lv_iload_n hx hb dX2_outOf_30 rfl (lv_at hl 2 rfl) ?_
          exact g_iret (post := fun r (_ : Unit) => Q r) (P' := fun _ _ => True) (r := w2) (u := ()) C hr hK hS h trivial dX2_outOf_31
        · replace h := h.2 c1
          refine lv_aload_n hx hb dX2_outOf_9 rfl (lv_at hl 0 rfl) ?_
          refine lv_iload_n hx hb dX2_outOf_10 rfl (lv_at hl 1 rfl) ?_
          refine lv_iload_n hx hb dX2_outOf_11 rfl (lv_at hl 3 rfl) ?_
          refine g_nI C hK hl.1 (m_X7_glassOf l G w1 w3 _ h) mw_X7_glassOf ms_X7_glassOf nl_X2_54 rfl ⟨rfl, rfl, Nat.le_of_ble_eq_true rfl, Nat.le_of_ble_eq_true rfl⟩ ⟨Nat.zero_le _, Nat.zero_le _⟩ trivial hS (fun _ h => h.elim) rfl (Nat.le_of_ble_eq_true rfl) dX2_outOf_12 (fun r2 u H locs h hu _ hq hS => ?_)
          have hG := hG.past hq (fun _ _ h => h)
          refine g_vI C hK hl.1 (m_X2_isOut l G aG γ r2 _ h) mw_X2_isOut mi_X2_isOut ml_X2_45 rfl ⟨rfl, rfl, Nat.le_of_ble_eq_true rfl, Nat.le_of_ble_eq_true rfl⟩ ⟨Nat.zero_le _, Nat.zero_le _⟩ (g_recv (a := aG) (k := 4) hK hG rfl rfl) hG hS (fun _ h => h.elim) rfl (Nat.le_of_ble_eq_true rfl) dX2_outOf_15 (fun r3 u H locs h hu _ hq hS => ?_)
          have hG := hG.past hq (fun _ _ h => h)
          refine lv_if_eq (tgt := 24) hx hb dX2_outOf_18 (by decide) (fun c4 => ?_) (fun c4 => ?_)
          · replace h := h.1 c4
            obtain ⟨v5, ev5⟩ : ∃ y : Int32, y = w3 + 1 := ⟨_, rfl⟩
            specialize h v5 ev5
            refine lv_iinc (v := v5) (lv' := [(3, .int v5), (0, .ref (aG + 4)), (1, .int w1), (2, .int w2)]) hx hb dX2_outOf_24 hl (k := 3) rfl (by rw [ev5]; rfl) (by decide) rfl (fun ls hl => ?_)
            refine lv_goto (tgt := 4) hx hb dX2_outOf_27 (by decide) ?_
            exact (ih) w1 w2 v5 _ _ _ hG hS (lv_sub hl [1, 2, 3, 0] rfl) h
          · replace h := h.2 c4
            obtain ⟨v6, ev6⟩ : ∃ y : Int32, y = w2 + 1 := ⟨_, rfl⟩
            specialize h v6 ev6
            refine lv_iinc (v := v6) (lv' := [(2, .int v6), (0, .ref (aG + 4)), (1, .int w1), (3, .int w3)]) hx hb dX2_outOf_21 hl (k := 2) rfl (by rw [ev6]; rfl) (by decide) rfl (fun ls hl => ?_)
            obtain ⟨v7, ev7⟩ : ∃ y : Int32, y = w3 + 1 := ⟨_, rfl⟩
            specialize h v7 ev7
            refine lv_iinc (v := v7) (lv' := [(3, .int v7), (2, .int v6), (0, .ref (aG + 4)), (1, .int w1)]) hx hb dX2_outOf_24 hl (k := 3) rfl (by rw [ev7]; rfl) (by decide) rfl (fun ls hl => ?_)
            refine lv_goto (tgt := 4) hx hb dX2_outOf_27 (by decide) ?_
            exact (ih) w1 v6 v7 _ _ _ hG hS (lv_sub hl [2, 3, 1, 0] rfl) h
  unfold vc_X2_outOf at h
  obtain ⟨n, h⟩ := h
  refine lv_iconst (v := 0) hx hb dX2_outOf_0 (by decide) ?_
  refine lv_istore_n (lv' := [(2, .int 0), (0, .ref (aG + 4)), (1, .int x1)]) hx hb dX2_outOf_1 rfl hl (by decide) rfl (fun ls hl => ?_)
  refine lv_iconst (v := 0) hx hb dX2_outOf_2 (by decide) ?_
  refine lv_istore_n (lv' := [(3, .int 0), (2, .int 0), (0, .ref (aG + 4)), (1, .int x1)]) hx hb dX2_outOf_3 rfl hl (by decide) rfl (fun ls hl => ?_)
  exact ((K n)) x1 0 0 _ _ _ hG hS (lv_sub hl [2, 3, 1, 0] rfl) h
theorem dX2_sumOf_0 : decode cX2_sumOf 0 = .ok (.iconst 0, 1) := by decide +kernel
theorem dX2_sumOf_1 : decode cX2_sumOf 1 = .ok (.istore_n 2, 1) := by decide +kernel
theorem dX2_sumOf_2 : decode cX2_sumOf 2 = .ok (.iconst 0, 1) := by decide +kernel
theorem dX2_sumOf_3 : decode cX2_sumOf 3 = .ok (.istore_n 3, 1) := by decide +kernel
theorem dX2_sumOf_4 : decode cX2_sumOf 4 = .ok (.iload_n 3, 1) := by decide +kernel
theorem dX2_sumOf_5 : decode cX2_sumOf 5 = .ok (.iconst 3, 1) := by decide +kernel
theorem dX2_sumOf_6 : decode cX2_sumOf 6 = .ok (.if_icmp .ge 19, 3) := by decide +kernel
theorem dX2_sumOf_9 : decode cX2_sumOf 9 = .ok (.iload_n 2, 1) := by decide +kernel
theorem dX2_sumOf_10 : decode cX2_sumOf 10 = .ok (.aload_n 0, 1) := by decide +kernel
theorem dX2_sumOf_11 : decode cX2_sumOf 11 = .ok (.iload_n 1, 1) := by decide +kernel
theorem dX2_sumOf_12 : decode cX2_sumOf 12 = .ok (.iload_n 3, 1) := by decide +kernel
theorem dX2_sumOf_13 : decode cX2_sumOf 13 = .ok (.invokestatic 54, 3) := by decide +kernel
theorem dX2_sumOf_16 : decode cX2_sumOf 16 = .ok (.iaload, 1) := by decide +kernel
theorem dX2_sumOf_17 : decode cX2_sumOf 17 = .ok (.iadd, 1) := by decide +kernel
theorem dX2_sumOf_18 : decode cX2_sumOf 18 = .ok (.istore_n 2, 1) := by decide +kernel
theorem dX2_sumOf_19 : decode cX2_sumOf 19 = .ok (.iinc 3 1, 3) := by decide +kernel
theorem dX2_sumOf_22 : decode cX2_sumOf 22 = .ok (.goto (-18), 3) := by decide +kernel
theorem dX2_sumOf_25 : decode cX2_sumOf 25 = .ok (.iload_n 2, 1) := by decide +kernel
theorem dX2_sumOf_26 : decode cX2_sumOf 26 = .ok (.ireturn, 1) := by decide +kernel
def vb_X2_sumOf_4 (Q : Int32 → Prop) (γ : Mem) (kA : Nat) (rec : Nat → Int32 → Int32 → Int32 → Prop) (w1 : Int32) (w2 : Int32) (w3 : Int32) : Prop :=
  ((3 ≤ w3) → (Q w2 )) ∧ ((¬ 3 ≤ w3) → (vc_X7_glassOf (fun r2 => vp_in r2 12 ∧ (∀ v4 : Int32, v4 = (w2 + (γ kA r2.toNatClampNeg)) → (∀ v5 : Int32, v5 = w3 + 1 → (rec 0 w1 v4 v5)))) w1 w3))
def vl_X2_sumOf (Q : Int32 → Prop) (γ : Mem) (kA : Nat) : Nat → Nat → Int32 → Int32 → Int32 → Prop
  | 0, _, _, _, _ => False
  | n + 1, 0, w1, w2, w3 => vb_X2_sumOf_4 Q γ kA (vl_X2_sumOf Q γ kA n) w1 w2 w3
  | _ + 1, _, _, _, _ => False
def vc_X2_sumOf (Q : Int32 → Prop) (γ : Mem) (kA : Nat) (x1 : Int32) : Prop :=
  ∃ n : Nat, vl_X2_sumOf Q γ kA n 0 x1 0 0
set_option maxHeartbeats 8000000 in
set_option maxRecDepth 100000 in
theorem m_X2_sumOf (l : Launch) (G : GG) (aG : Nat) (γ : Mem) (kA : Nat) (hkA : LG[kA]? = some (.inl 12)) (x1 : Int32) (Q : Int32 → Prop) (h : vc_X2_sumOf Q γ kA x1) : CtI l yX2_sumOf cX2_sumOf 4 (some .int) { frames := 1, cells := 0, slots := 0, locals := 21 } [.ref (aG + kA), .int x1] G (fun H => rg G LG aG γ H) (fun r (_ : Unit) => Q r) (fun _ _ => True) (fun _ => False) := by
  have lkA : kA < 22 := (List.getElem?_eq_some_iff.mp hkA).1
  unfold CtI
  refine met_start (y := yX2_sumOf) (maxL := 4) (av := [.ref (aG + kA), .int x1]) (G := G) (P := fun H => rg G LG aG γ H) (by decide) rfl (Nat.le_of_ble_eq_true rfl) (fun p e s m below meth c ls C hr hP hK hl => ?_)
  obtain ⟨hx, hb, hml, hown, hts, hlocks⟩ := id C
  have hG : rg G LG aG γ s.heap := hP
  have hS : va_S (fun _ => False) s.heap s.heap [] := va_S.rf
  have hl : lv_has ls 4 [(0, .ref (aG + kA)), (1, .int x1)] := hl
  have K : ∀ n : Nat, (∀ (w1 : Int32) (w2 : Int32) (w3 : Int32) (H : Heap) (locs : List Loc) (ls : Array Slot), rg G LG aG γ H → va_S (fun _ => False) s.heap H locs → lv_has ls 4 [(0, .ref (aG + kA)), (1, .int w1), (2, .int w2), (3, .int w3)] → vl_X2_sumOf Q γ kA n 0 w1 w2 w3 → W p l e { frames := 1, cells := 0, slots := 0, locals := 21 } s m [.ref (aG + kA), .int x1].toArray below meth c H locs 0 0 (MQ below (va_Qi (fun r (_ : Unit) => Q r) (fun u t => (fun _ _ => True) u t.heap ∧ KK G t) (fun _ => False)) [.ref (aG + kA), .int x1].toArray s 0 0 (fun _ => False)) (F0 m 4 ls [])) := by
    intro n
    induction n with
    | zero => exact fun _ _ _ _ _ _ _ _ _ h => h.elim
    | succ n ih =>
      · intro w1 w2 w3 H locs ls hG hS hl h
        replace h : vb_X2_sumOf_4 Q γ kA (vl_X2_sumOf Q γ kA n) w1 w2 w3 := h
        unfold vb_X2_sumOf_4 at h
        refine lv_iload_n hx hb dX2_sumOf_4 rfl (lv_at hl 3 rfl) ?_
        refine lv_iconst (v := 3) hx hb dX2_sumOf_5 (by decide) ?_
        refine lv_icmp_ge (tgt := 25) hx hb dX2_sumOf_6 (by decide) (fun c1 => ?_) (fun c1 => ?_)
        · replace h := h.1 c1
          refine lv_iload_n hx hb dX2_sumOf_25 rfl (lv_at hl 2 rfl) ?_
          exact g_iret (post := fun r (_ : Unit) => Q r) (P' := fun _ _ => True) (r := w2) (u := ()) C hr hK hS h trivial dX2_sumOf_26
        · replace h := h.2 c1
          refine lv_iload_n hx hb dX2_sumOf_9 rfl (lv_at hl 2 rfl) ?_
          refine lv_aload_n hx hb dX2_sumOf_10 rfl (lv_at hl 0 rfl) ?_
          refine lv_iload_n hx hb dX2_sumOf_11 rfl (lv_at hl 1 rfl) ?_
          refine lv_iload_n hx hb dX2_sumOf_12 rfl (lv_at hl 3 rfl) ?_
          refine g_nI C hK hl.1 (m_X7_glassOf l G w1 w3 _ h) mw_X7_glassOf ms_X7_glassOf nl_X2_54 rfl ⟨rfl, rfl, Nat.le_of_ble_eq_true rfl, Nat.le_of_ble_eq_true rfl⟩ ⟨Nat.zero_le _, Nat.zero_le _⟩ trivial hS (fun _ h => h.elim) rfl (Nat.le_of_ble_eq_true rfl) dX2_sumOf_13 (fun r2 u H locs h hu _ hq hS => ?_)
          have hG := hG.past hq (fun _ _ h => h)
          obtain ⟨b3, h⟩ := h
          refine g_ald (a := aG) (k := kA) (n := 12) C hK hG hkA b3 dX2_sumOf_16 ?_
          refine lv_iadd hx hb dX2_sumOf_17 ?_
          refine lv_topi (fun v4 ev4 => ?_)
          specialize h v4 ev4
          refine lv_istore_n (lv' := [(2, .int v4), (0, .ref (aG + kA)), (1, .int w1), (3, .int w3)]) hx hb dX2_sumOf_18 rfl hl (by decide) rfl (fun ls hl => ?_)
          obtain ⟨v5, ev5⟩ : ∃ y : Int32, y = w3 + 1 := ⟨_, rfl⟩
          specialize h v5 ev5
          refine lv_iinc (v := v5) (lv' := [(3, .int v5), (2, .int v4), (0, .ref (aG + kA)), (1, .int w1)]) hx hb dX2_sumOf_19 hl (k := 3) rfl (by rw [ev5]; rfl) (by decide) rfl (fun ls hl => ?_)
          refine lv_goto (tgt := 4) hx hb dX2_sumOf_22 (by decide) ?_
          exact (ih) w1 v4 v5 _ _ _ hG hS (lv_sub hl [2, 3, 1, 0] rfl) h
  unfold vc_X2_sumOf at h
  obtain ⟨n, h⟩ := h
  refine lv_iconst (v := 0) hx hb dX2_sumOf_0 (by decide) ?_
  refine lv_istore_n (lv' := [(2, .int 0), (0, .ref (aG + kA)), (1, .int x1)]) hx hb dX2_sumOf_1 rfl hl (by decide) rfl (fun ls hl => ?_)
  refine lv_iconst (v := 0) hx hb dX2_sumOf_2 (by decide) ?_
  refine lv_istore_n (lv' := [(3, .int 0), (2, .int 0), (0, .ref (aG + kA)), (1, .int x1)]) hx hb dX2_sumOf_3 rfl hl (by decide) rfl (fun ls hl => ?_)
  exact ((K n)) x1 0 0 _ _ _ hG hS (lv_sub hl [2, 3, 1, 0] rfl) h
theorem dX2_worksOf_0 : decode cX2_worksOf 0 = .ok (.aload_n 0, 1) := by decide +kernel
theorem dX2_worksOf_1 : decode cX2_worksOf 1 = .ok (.getfield 24, 3) := by decide +kernel
theorem dX2_worksOf_4 : decode cX2_worksOf 4 = .ok (.iload_n 1, 1) := by decide +kernel
theorem dX2_worksOf_5 : decode cX2_worksOf 5 = .ok (.invokestatic 58, 3) := by decide +kernel
theorem dX2_worksOf_8 : decode cX2_worksOf 8 = .ok (.ireturn, 1) := by decide +kernel
def vc_X2_worksOf (Q : Int32 → Prop) (γ : Mem) (x1 : Int32) : Prop :=
  vc_X2_sumOf (fun r1 => Q r1 ) γ 9 x1
set_option maxHeartbeats 8000000 in
set_option maxRecDepth 100000 in
theorem m_X2_worksOf (l : Launch) (G : GG) (aG : Nat) (γ : Mem) (x1 : Int32) (Q : Int32 → Prop) (h : vc_X2_worksOf Q γ x1) : CtI l yX2_worksOf cX2_worksOf 2 (some .int) { frames := 2, cells := 0, slots := 0, locals := 44 } [.ref (aG + 4), .int x1] G (fun H => rg G LG aG γ H) (fun r (_ : Unit) => Q r) (fun _ _ => True) (fun _ => False) := by
  unfold CtI
  refine met_start (y := yX2_worksOf) (maxL := 2) (av := [.ref (aG + 4), .int x1]) (G := G) (P := fun H => rg G LG aG γ H) (by decide) rfl (Nat.le_of_ble_eq_true rfl) (fun p e s m below meth c ls C hr hP hK hl => ?_)
  obtain ⟨hx, hb, hml, hown, hts, hlocks⟩ := id C
  have hG : rg G LG aG γ s.heap := hP
  have hS : va_S (fun _ => False) s.heap s.heap [] := va_S.rf
  have hl : lv_has ls 2 [(0, .ref (aG + 4)), (1, .int x1)] := hl
  unfold vc_X2_worksOf at h
  refine lv_aload_n hx hb dX2_worksOf_0 rfl (lv_at hl 0 rfl) ?_
  refine g_getR (a := aG) (k := 4) (o := 9) C hK hG fl_X2_24 rfl rfl dX2_worksOf_1 ?_
  refine lv_iload_n hx hb dX2_worksOf_4 rfl (lv_at hl 1 rfl) ?_
  refine g_sI C hK hl.1 (m_X2_sumOf l G aG γ 9 rfl x1 _ h) mw_X2_sumOf ms_X2_sumOf ml_X2_58 rfl ⟨rfl, rfl, Nat.le_of_ble_eq_true rfl, Nat.le_of_ble_eq_true rfl⟩ ⟨Nat.zero_le _, Nat.zero_le _⟩ hG hS (fun _ h => h.elim) rfl (Nat.le_of_ble_eq_true rfl) dX2_worksOf_5 (fun r1 u H locs h hu _ hq hS => ?_)
  have hG := hG.past hq (fun _ _ h => h)
  exact g_iret (post := fun r (_ : Unit) => Q r) (P' := fun _ _ => True) (r := r1) (u := ()) C hr hK hS h trivial dX2_worksOf_8
theorem dX2_waitingOf_0 : decode cX2_waitingOf 0 = .ok (.aload_n 0, 1) := by decide +kernel
theorem dX2_waitingOf_1 : decode cX2_waitingOf 1 = .ok (.getfield 27, 3) := by decide +kernel
theorem dX2_waitingOf_4 : decode cX2_waitingOf 4 = .ok (.iload_n 1, 1) := by decide +kernel
theorem dX2_waitingOf_5 : decode cX2_waitingOf 5 = .ok (.invokestatic 58, 3) := by decide +kernel
theorem dX2_waitingOf_8 : decode cX2_waitingOf 8 = .ok (.ireturn, 1) := by decide +kernel
def vc_X2_waitingOf (Q : Int32 → Prop) (γ : Mem) (x1 : Int32) : Prop :=
  vc_X2_sumOf (fun r1 => Q r1 ) γ 10 x1
set_option maxHeartbeats 8000000 in
set_option maxRecDepth 100000 in
theorem m_X2_waitingOf (l : Launch) (G : GG) (aG : Nat) (γ : Mem) (x1 : Int32) (Q : Int32 → Prop) (h : vc_X2_waitingOf Q γ x1) : CtI l yX2_waitingOf cX2_waitingOf 2 (some .int) { frames := 2, cells := 0, slots := 0, locals := 44 } [.ref (aG + 4), .int x1] G (fun H => rg G LG aG γ H) (fun r (_ : Unit) => Q r) (fun _ _ => True) (fun _ => False) := by
  unfold CtI
  refine met_start (y := yX2_waitingOf) (maxL := 2) (av := [.ref (aG + 4), .int x1]) (G := G) (P := fun H => rg G LG aG γ H) (by decide) rfl (Nat.le_of_ble_eq_true rfl) (fun p e s m below meth c ls C hr hP hK hl => ?_)
  obtain ⟨hx, hb, hml, hown, hts, hlocks⟩ := id C
  have hG : rg G LG aG γ s.heap := hP
  have hS : va_S (fun _ => False) s.heap s.heap [] := va_S.rf
  have hl : lv_has ls 2 [(0, .ref (aG + 4)), (1, .int x1)] := hl
  unfold vc_X2_waitingOf at h
  refine lv_aload_n hx hb dX2_waitingOf_0 rfl (lv_at hl 0 rfl) ?_
  refine g_getR (a := aG) (k := 4) (o := 10) C hK hG fl_X2_27 rfl rfl dX2_waitingOf_1 ?_
  refine lv_iload_n hx hb dX2_waitingOf_4 rfl (lv_at hl 1 rfl) ?_
  refine g_sI C hK hl.1 (m_X2_sumOf l G aG γ 10 rfl x1 _ h) mw_X2_sumOf ms_X2_sumOf ml_X2_58 rfl ⟨rfl, rfl, Nat.le_of_ble_eq_true rfl, Nat.le_of_ble_eq_true rfl⟩ ⟨Nat.zero_le _, Nat.zero_le _⟩ hG hS (fun _ h => h.elim) rfl (Nat.le_of_ble_eq_true rfl) dX2_waitingOf_5 (fun r1 u H locs h hu _ hq hS => ?_)
  have hG := hG.past hq (fun _ _ h => h)
  exact g_iret (post := fun r (_ : Unit) => Q r) (P' := fun _ _ => True) (r := r1) (u := ()) C hr hK hS h trivial dX2_waitingOf_8
theorem dX2_sumOfAll_0 : decode cX2_sumOfAll 0 = .ok (.iconst 0, 1) := by decide +kernel
theorem dX2_sumOfAll_1 : decode cX2_sumOfAll 1 = .ok (.istore_n 1, 1) := by decide +kernel
theorem dX2_sumOfAll_2 : decode cX2_sumOfAll 2 = .ok (.iconst 0, 1) := by decide +kernel
theorem dX2_sumOfAll_3 : decode cX2_sumOfAll 3 = .ok (.istore_n 2, 1) := by decide +kernel
theorem dX2_sumOfAll_4 : decode cX2_sumOfAll 4 = .ok (.iload_n 2, 1) := by decide +kernel
theorem dX2_sumOfAll_5 : decode cX2_sumOfAll 5 = .ok (.bipush 12, 2) := by decide +kernel
theorem dX2_sumOfAll_7 : decode cX2_sumOfAll 7 = .ok (.if_icmp .ge 15, 3) := by decide +kernel
theorem dX2_sumOfAll_10 : decode cX2_sumOfAll 10 = .ok (.iload_n 1, 1) := by decide +kernel
theorem dX2_sumOfAll_11 : decode cX2_sumOfAll 11 = .ok (.aload_n 0, 1) := by decide +kernel
theorem dX2_sumOfAll_12 : decode cX2_sumOfAll 12 = .ok (.iload_n 2, 1) := by decide +kernel
theorem dX2_sumOfAll_13 : decode cX2_sumOfAll 13 = .ok (.iaload, 1) := by decide +kernel
theorem dX2_sumOfAll_14 : decode cX2_sumOfAll 14 = .ok (.iadd, 1) := by decide +kernel
theorem dX2_sumOfAll_15 : decode cX2_sumOfAll 15 = .ok (.istore_n 1, 1) := by decide +kernel
theorem dX2_sumOfAll_16 : decode cX2_sumOfAll 16 = .ok (.iinc 2 1, 3) := by decide +kernel
theorem dX2_sumOfAll_19 : decode cX2_sumOfAll 19 = .ok (.goto (-15), 3) := by decide +kernel
theorem dX2_sumOfAll_22 : decode cX2_sumOfAll 22 = .ok (.iload_n 1, 1) := by decide +kernel
theorem dX2_sumOfAll_23 : decode cX2_sumOfAll 23 = .ok (.ireturn, 1) := by decide +kernel
def vb_X2_sumOfAll_4 (Q : Int32 → Prop) (γ : Mem) (kA : Nat) (rec : Nat → Int32 → Int32 → Prop) (w1 : Int32) (w2 : Int32) : Prop :=
  ((12 ≤ w2) → (Q w1 )) ∧ ((¬ 12 ≤ w2) → (vp_in w2 12 ∧ (∀ v3 : Int32, v3 = (w1 + (γ kA w2.toNatClampNeg)) → (∀ v4 : Int32, v4 = w2 + 1 → (rec 0 v3 v4)))))
def vl_X2_sumOfAll (Q : Int32 → Prop) (γ : Mem) (kA : Nat) : Nat → Nat → Int32 → Int32 → Prop
  | 0, _, _, _ => False
  | n + 1, 0, w1, w2 => vb_X2_sumOfAll_4 Q γ kA (vl_X2_sumOfAll Q γ kA n) w1 w2
  | _ + 1, _, _, _ => False
def vc_X2_sumOfAll (Q : Int32 → Prop) (γ : Mem) (kA : Nat) : Prop :=
  ∃ n : Nat, vl_X2_sumOfAll Q γ kA n 0 0 0
set_option maxHeartbeats 8000000 in
set_option maxRecDepth 100000 in
theorem m_X2_sumOfAll (l : Launch) (G : GG) (aG : Nat) (γ : Mem) (kA : Nat) (hkA : LG[kA]? = some (.inl 12)) (Q : Int32 → Prop) (h : vc_X2_sumOfAll Q γ kA) : CtI l yX2_sumOfAll cX2_sumOfAll 3 (some .int) { frames := 0, cells := 0, slots := 0, locals := 0 } [.ref (aG + kA)] G (fun H => rg G LG aG γ H) (fun r (_ : Unit) => Q r) (fun _ _ => True) (fun _ => False) := by
  have lkA : kA < 22 := (List.getElem?_eq_some_iff.mp hkA).1
  unfold CtI
  refine met_start (y := yX2_sumOfAll) (maxL := 3) (av := [.ref (aG + kA)]) (G := G) (P := fun H => rg G LG aG γ H) (by decide) rfl (Nat.le_of_ble_eq_true rfl) (fun p e s m below meth c ls C hr hP hK hl => ?_)
  obtain ⟨hx, hb, hml, hown, hts, hlocks⟩ := id C
  have hG : rg G LG aG γ s.heap := hP
  have hS : va_S (fun _ => False) s.heap s.heap [] := va_S.rf
  have hl : lv_has ls 3 [(0, .ref (aG + kA))] := hl
  have K : ∀ n : Nat, (∀ (w1 : Int32) (w2 : Int32) (H : Heap) (locs : List Loc) (ls : Array Slot), rg G LG aG γ H → va_S (fun _ => False) s.heap H locs → lv_has ls 3 [(0, .ref (aG + kA)), (1, .int w1), (2, .int w2)] → vl_X2_sumOfAll Q γ kA n 0 w1 w2 → W p l e { frames := 0, cells := 0, slots := 0, locals := 0 } s m [.ref (aG + kA)].toArray below meth c H locs 0 0 (MQ below (va_Qi (fun r (_ : Unit) => Q r) (fun u t => (fun _ _ => True) u t.heap ∧ KK G t) (fun _ => False)) [.ref (aG + kA)].toArray s 0 0 (fun _ => False)) (F0 m 4 ls [])) := by
    intro n
    induction n with
    | zero => exact fun _ _ _ _ _ _ _ _ h => h.elim
    | succ n ih =>
      · intro w1 w2 H locs ls hG hS hl h
        replace h : vb_X2_sumOfAll_4 Q γ kA (vl_X2_sumOfAll Q γ kA n) w1 w2 := h
        unfold vb_X2_sumOfAll_4 at h
        refine lv_iload_n hx hb dX2_sumOfAll_4 rfl (lv_at hl 2 rfl) ?_
        refine lv_bipush (v := 12) hx hb dX2_sumOfAll_5 (by decide) ?_
        refine lv_icmp_ge (tgt := 22) hx hb dX2_sumOfAll_7 (by decide) (fun c1 => ?_) (fun c1 => ?_)
        · replace h := h.1 c1
          refine lv_iload_n hx hb dX2_sumOfAll_22 rfl (lv_at hl 1 rfl) ?_
          exact g_iret (post := fun r (_ : Unit) => Q r) (P' := fun _ _ => True) (r := w1) (u := ()) C hr hK hS h trivial dX2_sumOfAll_23
        · replace h := h.2 c1
          refine lv_iload_n hx hb dX2_sumOfAll_10 rfl (lv_at hl 1 rfl) ?_
          refine lv_aload_n hx hb dX2_sumOfAll_11 rfl (lv_at hl 0 rfl) ?_
          refine lv_iload_n hx hb dX2_sumOfAll_12 rfl (lv_at hl 2 rfl) ?_
          obtain ⟨b2, h⟩ := h
          refine g_ald (a := aG) (k := kA) (n := 12) C hK hG hkA b2 dX2_sumOfAll_13 ?_
          refine lv_iadd hx hb dX2_sumOfAll_14 ?_
          refine lv_topi (fun v3 ev3 => ?_)
          specialize h v3 ev3
          refine lv_istore_n (lv' := [(1, .int v3), (0, .ref (aG + kA)), (2, .int w2)]) hx hb dX2_sumOfAll_15 rfl hl (by decide) rfl (fun ls hl => ?_)
          obtain ⟨v4, ev4⟩ : ∃ y : Int32, y = w2 + 1 := ⟨_, rfl⟩
          specialize h v4 ev4
          refine lv_iinc (v := v4) (lv' := [(2, .int v4), (1, .int v3), (0, .ref (aG + kA))]) hx hb dX2_sumOfAll_16 hl (k := 2) rfl (by rw [ev4]; rfl) (by decide) rfl (fun ls hl => ?_)
          refine lv_goto (tgt := 4) hx hb dX2_sumOfAll_19 (by decide) ?_
          exact (ih) v3 v4 _ _ _ hG hS (lv_sub hl [2, 1, 0] rfl) h
  unfold vc_X2_sumOfAll at h
  obtain ⟨n, h⟩ := h
  refine lv_iconst (v := 0) hx hb dX2_sumOfAll_0 (by decide) ?_
  refine lv_istore_n (lv' := [(1, .int 0), (0, .ref (aG + kA))]) hx hb dX2_sumOfAll_1 rfl hl (by decide) rfl (fun ls hl => ?_)
  refine lv_iconst (v := 0) hx hb dX2_sumOfAll_2 (by decide) ?_
  refine lv_istore_n (lv' := [(2, .int 0), (1, .int 0), (0, .ref (aG + kA))]) hx hb dX2_sumOfAll_3 rfl hl (by decide) rfl (fun ls hl => ?_)
  exact ((K n)) 0 0 _ _ _ hG hS (lv_sub hl [2, 1, 0] rfl) h
theorem dX2_allWorks_0 : decode cX2_allWorks 0 = .ok (.aload_n 0, 1) := by decide +kernel
theorem dX2_allWorks_1 : decode cX2_allWorks 1 = .ok (.getfield 24, 3) := by decide +kernel
theorem dX2_allWorks_4 : decode cX2_allWorks 4 = .ok (.invokestatic 62, 3) := by decide +kernel
theorem dX2_allWorks_7 : decode cX2_allWorks 7 = .ok (.ireturn, 1) := by decide +kernel
def vc_X2_allWorks (Q : Int32 → Prop) (γ : Mem) : Prop :=
  vc_X2_sumOfAll (fun r1 => Q r1 ) γ 9
set_option maxHeartbeats 8000000 in
set_option maxRecDepth 100000 in
theorem m_X2_allWorks (l : Launch) (G : GG) (aG : Nat) (γ : Mem) (Q : Int32 → Prop) (h : vc_X2_allWorks Q γ) : CtI l yX2_allWorks cX2_allWorks 1 (some .int) { frames := 1, cells := 0, slots := 0, locals := 22 } [.ref (aG + 4)] G (fun H => rg G LG aG γ H) (fun r (_ : Unit) => Q r) (fun _ _ => True) (fun _ => False) := by
  unfold CtI
  refine met_start (y := yX2_allWorks) (maxL := 1) (av := [.ref (aG + 4)]) (G := G) (P := fun H => rg G LG aG γ H) (by decide) rfl (Nat.le_of_ble_eq_true rfl) (fun p e s m below meth c ls C hr hP hK hl => ?_)
  obtain ⟨hx, hb, hml, hown, hts, hlocks⟩ := id C
  have hG : rg G LG aG γ s.heap := hP
  have hS : va_S (fun _ => False) s.heap s.heap [] := va_S.rf
  have hl : lv_has ls 1 [(0, .ref (aG + 4))] := hl
  unfold vc_X2_allWorks at h
  refine lv_aload_n hx hb dX2_allWorks_0 rfl (lv_at hl 0 rfl) ?_
  refine g_getR (a := aG) (k := 4) (o := 9) C hK hG fl_X2_24 rfl rfl dX2_allWorks_1 ?_
  refine g_sI C hK hl.1 (m_X2_sumOfAll l G aG γ 9 rfl _ h) mw_X2_sumOfAll ms_X2_sumOfAll ml_X2_62 rfl ⟨rfl, rfl, Nat.le_of_ble_eq_true rfl, Nat.le_of_ble_eq_true rfl⟩ ⟨Nat.zero_le _, Nat.zero_le _⟩ hG hS (fun _ h => h.elim) rfl (Nat.le_of_ble_eq_true rfl) dX2_allWorks_4 (fun r1 u H locs h hu _ hq hS => ?_)
  have hG := hG.past hq (fun _ _ h => h)
  exact g_iret (post := fun r (_ : Unit) => Q r) (P' := fun _ _ => True) (r := r1) (u := ()) C hr hK hS h trivial dX2_allWorks_7
theorem dX2_allFlips_0 : decode cX2_allFlips 0 = .ok (.aload_n 0, 1) := by decide +kernel
theorem dX2_allFlips_1 : decode cX2_allFlips 1 = .ok (.getfield 30, 3) := by decide +kernel
theorem dX2_allFlips_4 : decode cX2_allFlips 4 = .ok (.invokestatic 62, 3) := by decide +kernel
theorem dX2_allFlips_7 : decode cX2_allFlips 7 = .ok (.ireturn, 1) := by decide +kernel
def vc_X2_allFlips (Q : Int32 → Prop) (γ : Mem) : Prop :=
  vc_X2_sumOfAll (fun r1 => Q r1 ) γ 11
set_option maxHeartbeats 8000000 in
set_option maxRecDepth 100000 in
theorem m_X2_allFlips (l : Launch) (G : GG) (aG : Nat) (γ : Mem) (Q : Int32 → Prop) (h : vc_X2_allFlips Q γ) : CtI l yX2_allFlips cX2_allFlips 1 (some .int) { frames := 1, cells := 0, slots := 0, locals := 22 } [.ref (aG + 4)] G (fun H => rg G LG aG γ H) (fun r (_ : Unit) => Q r) (fun _ _ => True) (fun _ => False) := by
  unfold CtI
  refine met_start (y := yX2_allFlips) (maxL := 1) (av := [.ref (aG + 4)]) (G := G) (P := fun H => rg G LG aG γ H) (by decide) rfl (Nat.le_of_ble_eq_true rfl) (fun p e s m below meth c ls C hr hP hK hl => ?_)
  obtain ⟨hx, hb, hml, hown, hts, hlocks⟩ := id C
  have hG : rg G LG aG γ s.heap := hP
  have hS : va_S (fun _ => False) s.heap s.heap [] := va_S.rf
  have hl : lv_has ls 1 [(0, .ref (aG + 4))] := hl
  unfold vc_X2_allFlips at h
  refine lv_aload_n hx hb dX2_allFlips_0 rfl (lv_at hl 0 rfl) ?_
  refine g_getR (a := aG) (k := 4) (o := 11) C hK hG fl_X2_30 rfl rfl dX2_allFlips_1 ?_
  refine g_sI C hK hl.1 (m_X2_sumOfAll l G aG γ 11 rfl _ h) mw_X2_sumOfAll ms_X2_sumOfAll ml_X2_62 rfl ⟨rfl, rfl, Nat.le_of_ble_eq_true rfl, Nat.le_of_ble_eq_true rfl⟩ ⟨Nat.zero_le _, Nat.zero_le _⟩ hG hS (fun _ h => h.elim) rfl (Nat.le_of_ble_eq_true rfl) dX2_allFlips_4 (fun r1 u H locs h hu _ hq hS => ?_)
  have hG := hG.past hq (fun _ _ h => h)
  exact g_iret (post := fun r (_ : Unit) => Q r) (P' := fun _ _ => True) (r := r1) (u := ()) C hr hK hS h trivial dX2_allFlips_7
theorem dX6_differenceOf_0 : decode cX6_differenceOf 0 = .ok (.aload_n 0, 1) := by decide +kernel
theorem dX6_differenceOf_1 : decode cX6_differenceOf 1 = .ok (.getfield 18, 3) := by decide +kernel
theorem dX6_differenceOf_4 : decode cX6_differenceOf 4 = .ok (.iload_n 1, 1) := by decide +kernel
theorem dX6_differenceOf_5 : decode cX6_differenceOf 5 = .ok (.iaload, 1) := by decide +kernel
theorem dX6_differenceOf_6 : decode cX6_differenceOf 6 = .ok (.invokestatic 35, 3) := by decide +kernel
theorem dX6_differenceOf_9 : decode cX6_differenceOf 9 = .ok (.aload_n 0, 1) := by decide +kernel
theorem dX6_differenceOf_10 : decode cX6_differenceOf 10 = .ok (.getfield 15, 3) := by decide +kernel
theorem dX6_differenceOf_13 : decode cX6_differenceOf 13 = .ok (.iload_n 1, 1) := by decide +kernel
theorem dX6_differenceOf_14 : decode cX6_differenceOf 14 = .ok (.iaload, 1) := by decide +kernel
theorem dX6_differenceOf_15 : decode cX6_differenceOf 15 = .ok (.invokestatic 35, 3) := by decide +kernel
theorem dX6_differenceOf_18 : decode cX6_differenceOf 18 = .ok (.isub, 1) := by decide +kernel
theorem dX6_differenceOf_19 : decode cX6_differenceOf 19 = .ok (.ireturn, 1) := by decide +kernel
def vc_X6_differenceOf (Q : Int32 → Prop) (γ : Mem) (x1 : Int32) : Prop :=
  vp_in x1 8 ∧ (vc_X7_allAmountsIn (fun r2 => (vc_X7_allAmountsIn (fun r3 => Q (r2 - r3) ) (γ 14 x1.toNatClampNeg))) (γ 15 x1.toNatClampNeg))
set_option maxHeartbeats 8000000 in
set_option maxRecDepth 100000 in
theorem m_X6_differenceOf (l : Launch) (G : GG) (aG : Nat) (γ : Mem) (x1 : Int32) (Q : Int32 → Prop) (h : vc_X6_differenceOf Q γ x1) : CtI l yX6_differenceOf cX6_differenceOf 2 (some .int) { frames := 2, cells := 0, slots := 0, locals := 41 } [.ref (aG + 12), .int x1] G (fun H => rg G LG aG γ H) (fun r (_ : Unit) => Q r) (fun _ _ => True) (fun _ => False) := by
  unfold CtI
  refine met_start (y := yX6_differenceOf) (maxL := 2) (av := [.ref (aG + 12), .int x1]) (G := G) (P := fun H => rg G LG aG γ H) (by decide) rfl (Nat.le_of_ble_eq_true rfl) (fun p e s m below meth c ls C hr hP hK hl => ?_)
  obtain ⟨hx, hb, hml, hown, hts, hlocks⟩ := id C
  have hG : rg G LG aG γ s.heap := hP
  have hS : va_S (fun _ => False) s.heap s.heap [] := va_S.rf
  have hl : lv_has ls 2 [(0, .ref (aG + 12)), (1, .int x1)] := hl
  unfold vc_X6_differenceOf at h
  refine lv_aload_n hx hb dX6_differenceOf_0 rfl (lv_at hl 0 rfl) ?_
  refine g_getR (a := aG) (k := 12) (o := 15) C hK hG fl_X6_18 rfl rfl dX6_differenceOf_1 ?_
  refine lv_iload_n hx hb dX6_differenceOf_4 rfl (lv_at hl 1 rfl) ?_
  obtain ⟨b1, h⟩ := h
  refine g_ald (a := aG) (k := 15) (n := 8) C hK hG rfl b1 dX6_differenceOf_5 ?_
  refine g_nI C hK hl.1 (m_X7_allAmountsIn l G (γ 15 x1.toNatClampNeg) _ h) mw_X7_allAmountsIn ms_X7_allAmountsIn nl_X6_35 rfl ⟨rfl, rfl, Nat.le_of_ble_eq_true rfl, Nat.le_of_ble_eq_true rfl⟩ ⟨Nat.zero_le _, Nat.zero_le _⟩ trivial hS (fun _ h => h.elim) rfl (Nat.le_of_ble_eq_true rfl) dX6_differenceOf_6 (fun r2 u H locs h hu _ hq hS => ?_)
  have hG := hG.past hq (fun _ _ h => h)
  refine lv_aload_n hx hb dX6_differenceOf_9 rfl (lv_at hl 0 rfl) ?_
  refine g_getR (a := aG) (k := 12) (o := 14) C hK hG fl_X6_15 rfl rfl dX6_differenceOf_10 ?_
  refine lv_iload_n hx hb dX6_differenceOf_13 rfl (lv_at hl 1 rfl) ?_
  refine g_ald (a := aG) (k := 14) (n := 8) C hK hG rfl b1 dX6_differenceOf_14 ?_
  refine g_nI C hK hl.1 (m_X7_allAmountsIn l G (γ 14 x1.toNatClampNeg) _ h) mw_X7_allAmountsIn ms_X7_allAmountsIn nl_X6_35 rfl ⟨rfl, rfl, Nat.le_of_ble_eq_true rfl, Nat.le_of_ble_eq_true rfl⟩ ⟨Nat.zero_le _, Nat.zero_le _⟩ trivial hS (fun _ h => h.elim) rfl (Nat.le_of_ble_eq_true rfl) dX6_differenceOf_15 (fun r3 u H locs h hu _ hq hS => ?_)
  have hG := hG.past hq (fun _ _ h => h)
  refine lv_isub hx hb dX6_differenceOf_18 ?_
  exact g_iret (post := fun r (_ : Unit) => Q r) (P' := fun _ _ => True) (r := (r2 - r3)) (u := ()) C hr hK hS h trivial dX6_differenceOf_19
theorem dX0_remove_0 : decode cX0_remove 0 = .ok (.iload_n 1, 1) := by decide +kernel
theorem dX0_remove_1 : decode cX0_remove 1 = .ok (.istore_n 2, 1) := by decide +kernel
theorem dX0_remove_2 : decode cX0_remove 2 = .ok (.iload_n 2, 1) := by decide +kernel
theorem dX0_remove_3 : decode cX0_remove 3 = .ok (.aload_n 0, 1) := by decide +kernel
theorem dX0_remove_4 : decode cX0_remove 4 = .ok (.getfield 18, 3) := by decide +kernel
theorem dX0_remove_7 : decode cX0_remove 7 = .ok (.iconst 1, 1) := by decide +kernel
theorem dX0_remove_8 : decode cX0_remove 8 = .ok (.isub, 1) := by decide +kernel
theorem dX0_remove_9 : decode cX0_remove 9 = .ok (.if_icmp .ge 42, 3) := by decide +kernel
theorem dX0_remove_12 : decode cX0_remove 12 = .ok (.iload_n 2, 1) := by decide +kernel
theorem dX0_remove_13 : decode cX0_remove 13 = .ok (.iconst 5, 1) := by decide +kernel
theorem dX0_remove_14 : decode cX0_remove 14 = .ok (.if_icmp .ge 37, 3) := by decide +kernel
theorem dX0_remove_17 : decode cX0_remove 17 = .ok (.aload_n 0, 1) := by decide +kernel
theorem dX0_remove_18 : decode cX0_remove 18 = .ok (.getfield 9, 3) := by decide +kernel
theorem dX0_remove_21 : decode cX0_remove 21 = .ok (.iload_n 2, 1) := by decide +kernel
theorem dX0_remove_22 : decode cX0_remove 22 = .ok (.aload_n 0, 1) := by decide +kernel
theorem dX0_remove_23 : decode cX0_remove 23 = .ok (.getfield 9, 3) := by decide +kernel
theorem dX0_remove_26 : decode cX0_remove 26 = .ok (.iload_n 2, 1) := by decide +kernel
theorem dX0_remove_27 : decode cX0_remove 27 = .ok (.iconst 1, 1) := by decide +kernel
theorem dX0_remove_28 : decode cX0_remove 28 = .ok (.iadd, 1) := by decide +kernel
theorem dX0_remove_29 : decode cX0_remove 29 = .ok (.iaload, 1) := by decide +kernel
theorem dX0_remove_30 : decode cX0_remove 30 = .ok (.iastore, 1) := by decide +kernel
theorem dX0_remove_31 : decode cX0_remove 31 = .ok (.aload_n 0, 1) := by decide +kernel
theorem dX0_remove_32 : decode cX0_remove 32 = .ok (.getfield 15, 3) := by decide +kernel
theorem dX0_remove_35 : decode cX0_remove 35 = .ok (.iload_n 2, 1) := by decide +kernel
theorem dX0_remove_36 : decode cX0_remove 36 = .ok (.aload_n 0, 1) := by decide +kernel
theorem dX0_remove_37 : decode cX0_remove 37 = .ok (.getfield 15, 3) := by decide +kernel
theorem dX0_remove_40 : decode cX0_remove 40 = .ok (.iload_n 2, 1) := by decide +kernel
theorem dX0_remove_41 : decode cX0_remove 41 = .ok (.iconst 1, 1) := by decide +kernel
theorem dX0_remove_42 : decode cX0_remove 42 = .ok (.iadd, 1) := by decide +kernel
theorem dX0_remove_43 : decode cX0_remove 43 = .ok (.iaload, 1) := by decide +kernel
theorem dX0_remove_44 : decode cX0_remove 44 = .ok (.iastore, 1) := by decide +kernel
theorem dX0_remove_45 : decode cX0_remove 45 = .ok (.iinc 2 1, 3) := by decide +kernel
theorem dX0_remove_48 : decode cX0_remove 48 = .ok (.goto (-46), 3) := by decide +kernel
theorem dX0_remove_51 : decode cX0_remove 51 = .ok (.aload_n 0, 1) := by decide +kernel
theorem dX0_remove_52 : decode cX0_remove 52 = .ok (.dup, 1) := by decide +kernel
theorem dX0_remove_53 : decode cX0_remove 53 = .ok (.getfield 18, 3) := by decide +kernel
theorem dX0_remove_56 : decode cX0_remove 56 = .ok (.iconst 1, 1) := by decide +kernel
theorem dX0_remove_57 : decode cX0_remove 57 = .ok (.isub, 1) := by decide +kernel
theorem dX0_remove_58 : decode cX0_remove 58 = .ok (.putfield 18, 3) := by decide +kernel
theorem dX0_remove_61 : decode cX0_remove 61 = .ok (.return_, 1) := by decide +kernel
def vb_X0_remove_2 (Q : Mem → Prop) (rec : Nat → Mem → Int32 → Prop) (γ : Mem) (w2 : Int32) : Prop :=
  ((((γ 18 0) - 1) ≤ w2) → (∀ γ2 : Mem, γ2 = up γ 18 0 ((γ 18 0) - 1) → (Q γ2))) ∧ ((¬ ((γ 18 0) - 1) ≤ w2) → (((5 ≤ w2) → (∀ γ4 : Mem, γ4 = up γ 18 0 ((γ 18 0) - 1) → (Q γ4))) ∧ ((¬ 5 ≤ w2) → (vp_in (w2 + 1) 6 ∧ (vp_in w2 6 ∧ (∀ γ7 : Mem, γ7 = up γ 19 w2.toNatClampNeg (γ 19 (w2 + 1).toNatClampNeg) → (((∀ γ8 : Mem, γ8 = up γ7 20 w2.toNatClampNeg (γ7 20 (w2 + 1).toNatClampNeg) → (∀ v9 : Int32, v9 = w2 + 1 → (rec 0 γ8 v9)))))))))))
def vl_X0_remove (Q : Mem → Prop) : Nat → Nat → Mem → Int32 → Prop
  | 0, _, _, _ => False
  | n + 1, 0, γ, w2 => vb_X0_remove_2 Q (vl_X0_remove Q n) γ w2
  | _ + 1, _, _, _ => False
def vc_X0_remove (Q : Mem → Prop) (γ : Mem) (x1 : Int32) : Prop :=
  ∃ n : Nat, vl_X0_remove Q n 0 γ x1
set_option maxHeartbeats 8000000 in
set_option maxRecDepth 100000 in
theorem m_X0_remove (l : Launch) (G : GG) (aG : Nat) (γ : Mem) (x1 : Int32) (Q : Mem → Prop) (h : vc_X0_remove Q γ x1) : CtV l yX0_remove cX0_remove 3 { frames := 0, cells := 0, slots := 0, locals := 0 } [.ref (aG + 18), .int x1] G (fun H => rg G LG aG γ H) (Q) (fun u H => rg G LG aG u H) (RA aG 22) := by
  unfold CtV
  refine met_start (y := yX0_remove) (maxL := 3) (av := [.ref (aG + 18), .int x1]) (G := G) (P := fun H => rg G LG aG γ H) (by decide) rfl (Nat.le_of_ble_eq_true rfl) (fun p e s m below meth c ls C hr hP hK hl => ?_)
  obtain ⟨hx, hb, hml, hown, hts, hlocks⟩ := id C
  have hG : rg G LG aG γ s.heap := hP
  have hS : va_S (RA aG 22) s.heap s.heap [] := va_S.rf
  have hl : lv_has ls 3 [(0, .ref (aG + 18)), (1, .int x1)] := hl
  have K : ∀ n : Nat, (∀ (γ : Mem) (w2 : Int32) (H : Heap) (locs : List Loc) (ls : Array Slot), rg G LG aG γ H → va_S (RA aG 22) s.heap H locs → lv_has ls 3 [(0, .ref (aG + 18)), (2, .int w2)] → vl_X0_remove Q n 0 γ w2 → W p l e { frames := 0, cells := 0, slots := 0, locals := 0 } s m [.ref (aG + 18), .int x1].toArray below meth c H locs 0 0 (MQ below (va_Qv (Q) (fun u t => (fun u H => rg G LG aG u H) u t.heap ∧ KK G t) (RA aG 22)) [.ref (aG + 18), .int x1].toArray s 0 0 (RA aG 22)) (F0 m 2 ls [])) := by
    intro n
    induction n with
    | zero => exact fun _ _ _ _ _ _ _ _ h => h.elim
    | succ n ih =>
      · intro γ w2 H locs ls hG hS hl h
        replace h : vb_X0_remove_2 Q (vl_X0_remove Q n) γ w2 := h
        unfold vb_X0_remove_2 at h
        refine lv_iload_n hx hb dX0_remove_2 rfl (lv_at hl 1 rfl) ?_
        refine lv_aload_n hx hb dX0_remove_3 rfl (lv_at hl 0 rfl) ?_
        refine g_getI (a := aG) (k := 18) C hK hG fl_X0_18 rfl rfl dX0_remove_4 ?_
        refine lv_iconst (v := 1) hx hb dX0_remove_7 (by decide) ?_
        refine lv_isub hx hb dX0_remove_8 ?_
        refine lv_icmp_ge (tgt := 51) hx hb dX0_remove_9 (by decide) (fun c1 => ?_) (fun c1 => ?_)
        · replace h := h.1 c1
          refine lv_aload_n hx hb dX0_remove_51 rfl (lv_at hl 0 rfl) ?_
          refine lv_dup hx hb dX0_remove_52 rfl ?_
          refine g_getI (a := aG) (k := 18) C hK hG fl_X0_18 rfl rfl dX0_remove_53 ?_
          refine lv_iconst (v := 1) hx hb dX0_remove_56 (by decide) ?_
          refine lv_isub hx hb dX0_remove_57 ?_
          refine g_put (a := aG) (k := 18) C hK hG hS fl_X0_18 fp_X0_0 rfl rfl (by rfl) (by rfl) (RA_in (by decide)) dX0_remove_58 (fun γ2 H locs eγ2 hG hS hq => ?_)
          specialize h γ2 eγ2
          exact g_vret (post := Q) (P' := fun u H => rg G LG aG u H) (u := γ2) C hr hK hS h hG dX0_remove_61
        · replace h := h.2 c1
          refine lv_iload_n hx hb dX0_remove_12 rfl (lv_at hl 1 rfl) ?_
          refine lv_iconst (v := 5) hx hb dX0_remove_13 (by decide) ?_
          refine lv_icmp_ge (tgt := 51) hx hb dX0_remove_14 (by decide) (fun c3 => ?_) (fun c3 => ?_)
          · replace h := h.1 c3
            refine lv_aload_n hx hb dX0_remove_51 rfl (lv_at hl 0 rfl) ?_
            refine lv_dup hx hb dX0_remove_52 rfl ?_
            refine g_getI (a := aG) (k := 18) C hK hG fl_X0_18 rfl rfl dX0_remove_53 ?_
            refine lv_iconst (v := 1) hx hb dX0_remove_56 (by decide) ?_
            refine lv_isub hx hb dX0_remove_57 ?_
            refine g_put (a := aG) (k := 18) C hK hG hS fl_X0_18 fp_X0_0 rfl rfl (by rfl) (by rfl) (RA_in (by decide)) dX0_remove_58 (fun γ4 H locs eγ4 hG hS hq => ?_)
            specialize h γ4 eγ4
            exact g_vret (post := Q) (P' := fun u H => rg G LG aG u H) (u := γ4) C hr hK hS h hG dX0_remove_61
          · replace h := h.2 c3
            refine lv_aload_n hx hb dX0_remove_17 rfl (lv_at hl 0 rfl) ?_
            refine g_getR (a := aG) (k := 18) (o := 19) C hK hG fl_X0_9 rfl rfl dX0_remove_18 ?_
            refine lv_iload_n hx hb dX0_remove_21 rfl (lv_at hl 1 rfl) ?_
            refine lv_aload_n hx hb dX0_remove_22 rfl (lv_at hl 0 rfl) ?_
            refine g_getR (a := aG) (k := 18) (o := 19) C hK hG fl_X0_9 rfl rfl dX0_remove_23 ?_
            refine lv_iload_n hx hb dX0_remove_26 rfl (lv_at hl 1 rfl) ?_
            refine lv_iconst (v := 1) hx hb dX0_remove_27 (by decide) ?_
            refine lv_iadd hx hb dX0_remove_28 ?_
            obtain ⟨b5, h⟩ := h
            refine g_ald (a := aG) (k := 19) (n := 6) C hK hG rfl b5 dX0_remove_29 ?_
            obtain ⟨b6, h⟩ := h
            refine g_ast (a := aG) (k := 19) (n := 6) C hK hG hS rfl b6 (RA_in (by decide)) dX0_remove_30 (fun γ7 H locs eγ7 hG hS hq => ?_)
            specialize h γ7 eγ7
            refine lv_aload_n hx hb dX0_remove_31 rfl (lv_at hl 0 rfl) ?_
            refine g_getR (a := aG) (k := 18) (o := 20) C hK hG fl_X0_15 rfl rfl dX0_remove_32 ?_
            refine lv_iload_n hx hb dX0_remove_35 rfl (lv_at hl 1 rfl) ?_
            refine lv_aload_n hx hb dX0_remove_36 rfl (lv_at hl 0 rfl) ?_
            refine g_getR (a := aG) (k := 18) (o := 20) C hK hG fl_X0_15 rfl rfl dX0_remove_37 ?_
            refine lv_iload_n hx hb dX0_remove_40 rfl (lv_at hl 1 rfl) ?_
            refine lv_iconst (v := 1) hx hb dX0_remove_41 (by decide) ?_
            refine lv_iadd hx hb dX0_remove_42 ?_
            refine g_ald (a := aG) (k := 20) (n := 6) C hK hG rfl b5 dX0_remove_43 ?_
            refine g_ast (a := aG) (k := 20) (n := 6) C hK hG hS rfl b6 (RA_in (by decide)) dX0_remove_44 (fun γ8 H locs eγ8 hG hS hq => ?_)
            specialize h γ8 eγ8
            obtain ⟨v9, ev9⟩ : ∃ y : Int32, y = w2 + 1 := ⟨_, rfl⟩
            specialize h v9 ev9
            refine lv_iinc (v := v9) (lv' := [(2, .int v9), (0, .ref (aG + 18))]) hx hb dX0_remove_45 hl (k := 1) rfl (by rw [ev9]; rfl) (by decide) rfl (fun ls hl => ?_)
            refine lv_goto (tgt := 2) hx hb dX0_remove_48 (by decide) ?_
            exact (ih) γ8 v9 _ _ _ hG hS (lv_sub hl [1, 0] rfl) h
  unfold vc_X0_remove at h
  obtain ⟨n, h⟩ := h
  refine lv_iload_n hx hb dX0_remove_0 rfl (lv_at hl 1 rfl) ?_
  refine lv_istore_n (lv' := [(2, .int x1), (0, .ref (aG + 18)), (1, .int x1)]) hx hb dX0_remove_1 rfl hl (by decide) rfl (fun ls hl => ?_)
  exact ((K n)) γ x1 _ _ _ hG hS (lv_sub hl [1, 0] rfl) h
theorem dX1_hasPlayer_0 : decode cX1_hasPlayer 0 = .ok (.iload_n 1, 1) := by decide +kernel
theorem dX1_hasPlayer_1 : decode cX1_hasPlayer 1 = .ok (.iconst 0, 1) := by decide +kernel
theorem dX1_hasPlayer_2 : decode cX1_hasPlayer 2 = .ok (.aload_n 0, 1) := by decide +kernel
theorem dX1_hasPlayer_3 : decode cX1_hasPlayer 3 = .ok (.getfield 12, 3) := by decide +kernel
theorem dX1_hasPlayer_6 : decode cX1_hasPlayer 6 = .ok (.getfield 60, 3) := by decide +kernel
theorem dX1_hasPlayer_9 : decode cX1_hasPlayer 9 = .ok (.iconst 1, 1) := by decide +kernel
theorem dX1_hasPlayer_10 : decode cX1_hasPlayer 10 = .ok (.isub, 1) := by decide +kernel
theorem dX1_hasPlayer_11 : decode cX1_hasPlayer 11 = .ok (.invokestatic 63, 3) := by decide +kernel
theorem dX1_hasPlayer_14 : decode cX1_hasPlayer 14 = .ok (.ireturn, 1) := by decide +kernel
def vc_X1_hasPlayer (Q : Int32 → Prop) (γ : Mem) (x1 : Int32) : Prop :=
  vc_X7_within (fun r1 => narrow .boolean (.int r1) = .int r1 ∧ Q r1 ) x1 0 ((γ 1 0) - 1)
set_option maxHeartbeats 8000000 in
set_option maxRecDepth 100000 in
theorem m_X1_hasPlayer (l : Launch) (G : GG) (aG : Nat) (γ : Mem) (x1 : Int32) (Q : Int32 → Prop) (h : vc_X1_hasPlayer Q γ x1) : CtI l yX1_hasPlayer cX1_hasPlayer 2 (some .boolean) { frames := 1, cells := 0, slots := 0, locals := 22 } [.ref (aG + 0), .int x1] G (fun H => rg G LG aG γ H) (fun r (_ : Unit) => Q r) (fun _ _ => True) (fun _ => False) := by
  unfold CtI
  refine met_start (y := yX1_hasPlayer) (maxL := 2) (av := [.ref (aG + 0), .int x1]) (G := G) (P := fun H => rg G LG aG γ H) (by decide) rfl (Nat.le_of_ble_eq_true rfl) (fun p e s m below meth c ls C hr hP hK hl => ?_)
  obtain ⟨hx, hb, hml, hown, hts, hlocks⟩ := id C
  have hG : rg G LG aG γ s.heap := hP
  have hS : va_S (fun _ => False) s.heap s.heap [] := va_S.rf
  have hl : lv_has ls 2 [(0, .ref (aG + 0)), (1, .int x1)] := hl
  unfold vc_X1_hasPlayer at h
  refine lv_iload_n hx hb dX1_hasPlayer_0 rfl (lv_at hl 1 rfl) ?_
  refine lv_iconst (v := 0) hx hb dX1_hasPlayer_1 (by decide) ?_
  refine lv_aload_n hx hb dX1_hasPlayer_2 rfl (lv_at hl 0 rfl) ?_
  refine g_getR (a := aG) (k := 0) (o := 1) C hK hG fl_X1_12 rfl rfl dX1_hasPlayer_3 ?_
  refine g_getI (a := aG) (k := 1) C hK hG fl_X1_60 rfl rfl dX1_hasPlayer_6 ?_
  refine lv_iconst (v := 1) hx hb dX1_hasPlayer_9 (by decide) ?_
  refine lv_isub hx hb dX1_hasPlayer_10 ?_
  refine g_nI C hK hl.1 (m_X7_within l G x1 0 ((γ 1 0) - 1) _ h) mw_X7_within ms_X7_within nl_X1_63 rfl ⟨rfl, rfl, Nat.le_of_ble_eq_true rfl, Nat.le_of_ble_eq_true rfl⟩ ⟨Nat.zero_le _, Nat.zero_le _⟩ trivial hS (fun _ h => h.elim) rfl (Nat.le_of_ble_eq_true rfl) dX1_hasPlayer_11 (fun r1 u H locs h hu _ hq hS => ?_)
  have hG := hG.past hq (fun _ _ h => h)
  exact g_zret (post := fun r (_ : Unit) => Q r) (P' := fun _ _ => True) (r := r1) (u := ()) C hr hK hS h.1 h.2 trivial dX1_hasPlayer_14
