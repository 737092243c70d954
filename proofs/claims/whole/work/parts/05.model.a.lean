theorem dX8_in_0 : decode cX8_in 0 = .ok (.iload_n 0, 1) := by decide +kernel
theorem dX8_in_1 : decode cX8_in 1 = .ok (.iload_n 1, 1) := by decide +kernel
theorem dX8_in_2 : decode cX8_in 2 = .ok (.if_icmp .lt 12, 3) := by decide +kernel
theorem dX8_in_5 : decode cX8_in 5 = .ok (.iload_n 0, 1) := by decide +kernel
theorem dX8_in_6 : decode cX8_in 6 = .ok (.iload_n 2, 1) := by decide +kernel
theorem dX8_in_7 : decode cX8_in 7 = .ok (.if_icmp .gt 7, 3) := by decide +kernel
theorem dX8_in_10 : decode cX8_in 10 = .ok (.iconst 1, 1) := by decide +kernel
theorem dX8_in_11 : decode cX8_in 11 = .ok (.goto 4, 3) := by decide +kernel
theorem dX8_in_14 : decode cX8_in 14 = .ok (.iconst 0, 1) := by decide +kernel
theorem dX8_in_15 : decode cX8_in 15 = .ok (.ireturn, 1) := by decide +kernel
def vc_X8_in (Q : Int32 → Prop) (x0 : Int32) (x1 : Int32) (x2 : Int32) : Prop :=
  ((x0 < x1) → (Q 0 )) ∧ ((¬ x0 < x1) → (((x2 < x0) → (Q 0 )) ∧ ((¬ x2 < x0) → (Q 1 ))))
set_option maxHeartbeats 8000000 in
set_option maxRecDepth 100000 in
theorem m_X8_in (l : Launch) (G : GG) (x0 : Int32) (x1 : Int32) (x2 : Int32) (Q : Int32 → Prop) (h : vc_X8_in Q x0 x1 x2) : CtI l yX8_in cX8_in 3 (some .boolean) { frames := 0, cells := 0, slots := 0, locals := 0 } [.int x0, .int x1, .int x2] G (fun H => True) (fun r (_ : Unit) => Q r) (fun _ _ => True) (fun _ => False) := by
  unfold CtI
  refine met_start (y := yX8_in) (maxL := 3) (av := [.int x0, .int x1, .int x2]) (G := G) (P := fun H => True) (by decide) rfl (Nat.le_of_ble_eq_true rfl) (fun p e s m below meth c ls C hr hP hK hl => ?_)
  obtain ⟨hx, hb, hml, hown, hts, hlocks⟩ := id C
  have hS : va_S (fun _ => False) s.heap s.heap [] := va_S.rf
  have hl : lv_has ls 3 [(0, .int x0), (1, .int x1), (2, .int x2)] := hl
  unfold vc_X8_in at h
  refine lv_iload_n hx hb dX8_in_0 rfl (lv_at hl 0 rfl) ?_
  refine lv_iload_n hx hb dX8_in_1 rfl (lv_at hl 1 rfl) ?_
  refine lv_icmp_lt (tgt := 14) hx hb dX8_in_2 (by decide) (fun c1 => ?_) (fun c1 => ?_)
  · replace h := h.1 c1
    refine lv_iconst (v := 0) hx hb dX8_in_14 (by decide) ?_
    exact g_zret (post := fun r (_ : Unit) => Q r) (P' := fun _ _ => True) (r := 0) (u := ()) C hr hK hS (by rfl) h trivial dX8_in_15
  · replace h := h.2 c1
    refine lv_iload_n hx hb dX8_in_5 rfl (lv_at hl 0 rfl) ?_
    refine lv_iload_n hx hb dX8_in_6 rfl (lv_at hl 2 rfl) ?_
    refine lv_icmp_gt (tgt := 14) hx hb dX8_in_7 (by decide) (fun c2 => ?_) (fun c2 => ?_)
    · replace h := h.1 c2
      refine lv_iconst (v := 0) hx hb dX8_in_14 (by decide) ?_
      exact g_zret (post := fun r (_ : Unit) => Q r) (P' := fun _ _ => True) (r := 0) (u := ()) C hr hK hS (by rfl) h trivial dX8_in_15
    · replace h := h.2 c2
      refine lv_iconst (v := 1) hx hb dX8_in_10 (by decide) ?_
      refine lv_goto (tgt := 15) hx hb dX8_in_11 (by decide) ?_
      exact g_zret (post := fun r (_ : Unit) => Q r) (P' := fun _ _ => True) (r := 1) (u := ()) C hr hK hS (by rfl) h trivial dX8_in_15
theorem dX8_copies_0 : decode cX8_copies 0 = .ok (.iconst 0, 1) := by decide +kernel
theorem dX8_copies_1 : decode cX8_copies 1 = .ok (.istore_n 2, 1) := by decide +kernel
theorem dX8_copies_2 : decode cX8_copies 2 = .ok (.iload_n 2, 1) := by decide +kernel
theorem dX8_copies_3 : decode cX8_copies 3 = .ok (.sipush 164, 3) := by decide +kernel
theorem dX8_copies_6 : decode cX8_copies 6 = .ok (.if_icmp .ge 15, 3) := by decide +kernel
theorem dX8_copies_9 : decode cX8_copies 9 = .ok (.aload_n 1, 1) := by decide +kernel
theorem dX8_copies_10 : decode cX8_copies 10 = .ok (.iload_n 2, 1) := by decide +kernel
theorem dX8_copies_11 : decode cX8_copies 11 = .ok (.aload_n 0, 1) := by decide +kernel
theorem dX8_copies_12 : decode cX8_copies 12 = .ok (.iload_n 2, 1) := by decide +kernel
theorem dX8_copies_13 : decode cX8_copies 13 = .ok (.iaload, 1) := by decide +kernel
theorem dX8_copies_14 : decode cX8_copies 14 = .ok (.iastore, 1) := by decide +kernel
theorem dX8_copies_15 : decode cX8_copies 15 = .ok (.iinc 2 1, 3) := by decide +kernel
theorem dX8_copies_18 : decode cX8_copies 18 = .ok (.goto (-16), 3) := by decide +kernel
theorem dX8_copies_21 : decode cX8_copies 21 = .ok (.return_, 1) := by decide +kernel
def vb_X8_copies_2 (Q : Mem → Prop) (kA : Nat) (kB : Nat) (rec : Nat → Mem → Int32 → Prop) (ρ : Mem) (w2 : Int32) : Prop :=
  ((164 ≤ w2) → (Q ρ)) ∧ ((¬ 164 ≤ w2) → (vp_in w2 164 ∧ ((∀ ρ3 : Mem, ρ3 = up ρ kB w2.toNatClampNeg (ρ kA w2.toNatClampNeg) → (∀ v4 : Int32, v4 = w2 + 1 → (rec 0 ρ3 v4))))))
def vl_X8_copies (Q : Mem → Prop) (kA : Nat) (kB : Nat) : Nat → Nat → Mem → Int32 → Prop
  | 0, _, _, _ => False
  | n + 1, 0, ρ, w2 => vb_X8_copies_2 Q kA kB (vl_X8_copies Q kA kB n) ρ w2
  | _ + 1, _, _, _ => False
def vc_X8_copies (Q : Mem → Prop) (ρ : Mem) (kA : Nat) (kB : Nat) : Prop :=
  ∃ n : Nat, vl_X8_copies Q kA kB n 0 ρ 0
set_option maxHeartbeats 8000000 in
set_option maxRecDepth 100000 in
theorem m_X8_copies (l : Launch) (G : GG) (aM : Nat) (ρ : Mem) (kA : Nat) (hkA : LM[kA]? = some (.inl 164)) (kB : Nat) (hkB : LM[kB]? = some (.inl 164)) (Q : Mem → Prop) (h : vc_X8_copies Q ρ kA kB) : CtV l yX8_copies cX8_copies 3 { frames := 0, cells := 0, slots := 0, locals := 0 } [.ref (aM + kA), .ref (aM + kB)] G (fun H => rg G LM aM ρ H) (Q) (fun u H => rg G LM aM u H) (RA aM 8) := by
  have lkA : kA < 8 := (List.getElem?_eq_some_iff.mp hkA).1
  have lkB : kB < 8 := (List.getElem?_eq_some_iff.mp hkB).1
  unfold CtV
  refine met_start (y := yX8_copies) (maxL := 3) (av := [.ref (aM + kA), .ref (aM + kB)]) (G := G) (P := fun H => rg G LM aM ρ H) (by decide) rfl (Nat.le_of_ble_eq_true rfl) (fun p e s m below meth c ls C hr hP hK hl => ?_)
  obtain ⟨hx, hb, hml, hown, hts, hlocks⟩ := id C
  have hM : rg G LM aM ρ s.heap := hP
  have hS : va_S (RA aM 8) s.heap s.heap [] := va_S.rf
  have hl : lv_has ls 3 [(0, .ref (aM + kA)), (1, .ref (aM + kB))] := hl
  have K : ∀ n : Nat, (∀ (ρ : Mem) (w2 : Int32) (H : Heap) (locs : List Loc) (ls : Array Slot), rg G LM aM ρ H → va_S (RA aM 8) s.heap H locs → lv_has ls 3 [(0, .ref (aM + kA)), (1, .ref (aM + kB)), (2, .int w2)] → vl_X8_copies Q kA kB n 0 ρ w2 → W p l e { frames := 0, cells := 0, slots := 0, locals := 0 } s m [.ref (aM + kA), .ref (aM + kB)].toArray below meth c H locs 0 0 (MQ below (va_Qv (Q) (fun u t => (fun u H => rg G LM aM u H) u t.heap ∧ KK G t) (RA aM 8)) [.ref (aM + kA), .ref (aM + kB)].toArray s 0 0 (RA aM 8)) (F0 m 2 ls [])) := by
    intro n
    induction n with
    | zero => exact fun _ _ _ _ _ _ _ _ h => h.elim
    | succ n ih =>
      · intro ρ w2 H locs ls hM hS hl h
        replace h : vb_X8_copies_2 Q kA kB (vl_X8_copies Q kA kB n) ρ w2 := h
        unfold vb_X8_copies_2 at h
        refine lv_iload_n hx hb dX8_copies_2 rfl (lv_at hl 2 rfl) ?_
        refine lv_sipush (v := 164) hx hb dX8_copies_3 (by decide) ?_
        refine lv_icmp_ge (tgt := 21) hx hb dX8_copies_6 (by decide) (fun c1 => ?_) (fun c1 => ?_)
        · replace h := h.1 c1
          exact g_vret (post := Q) (P' := fun u H => rg G LM aM u H) (u := ρ) C hr hK hS h hM dX8_copies_21
        · replace h := h.2 c1
          refine lv_aload_n hx hb dX8_copies_9 rfl (lv_at hl 1 rfl) ?_
          refine lv_iload_n hx hb dX8_copies_10 rfl (lv_at hl 2 rfl) ?_
          refine lv_aload_n hx hb dX8_copies_11 rfl (lv_at hl 0 rfl) ?_
          refine lv_iload_n hx hb dX8_copies_12 rfl (lv_at hl 2 rfl) ?_
          obtain ⟨b2, h⟩ := h
          refine g_ald (a := aM) (k := kA) (n := 164) C hK hM hkA b2 dX8_copies_13 ?_
          refine g_ast (a := aM) (k := kB) (n := 164) C hK hM hS hkB b2 (RA_in lkB) dX8_copies_14 (fun ρ3 H locs eρ3 hM hS hq => ?_)
          specialize h ρ3 eρ3
          obtain ⟨v4, ev4⟩ : ∃ y : Int32, y = w2 + 1 := ⟨_, rfl⟩
          specialize h v4 ev4
          refine lv_iinc (v := v4) (lv' := [(2, .int v4), (0, .ref (aM + kA)), (1, .ref (aM + kB))]) hx hb dX8_copies_15 hl (k := 2) rfl (by rw [ev4]; rfl) (by decide) rfl (fun ls hl => ?_)
          refine lv_goto (tgt := 2) hx hb dX8_copies_18 (by decide) ?_
          exact (ih) ρ3 v4 _ _ _ hM hS (lv_sub hl [1, 2, 0] rfl) h
  unfold vc_X8_copies at h
  obtain ⟨n, h⟩ := h
  refine lv_iconst (v := 0) hx hb dX8_copies_0 (by decide) ?_
  refine lv_istore_n (lv' := [(2, .int 0), (0, .ref (aM + kA)), (1, .ref (aM + kB))]) hx hb dX8_copies_1 rfl hl (by decide) rfl (fun ls hl => ?_)
  exact ((K n)) ρ 0 _ _ _ hM hS (lv_sub hl [1, 2, 0] rfl) h
theorem dX8_changes_0 : decode cX8_changes 0 = .ok (.aload_n 0, 1) := by decide +kernel
theorem dX8_changes_1 : decode cX8_changes 1 = .ok (.getfield 35, 3) := by decide +kernel
theorem dX8_changes_4 : decode cX8_changes 4 = .ok (.ifCond .eq 4, 3) := by decide +kernel
theorem dX8_changes_7 : decode cX8_changes 7 = .ok (.return_, 1) := by decide +kernel
theorem dX8_changes_8 : decode cX8_changes 8 = .ok (.aload_n 0, 1) := by decide +kernel
theorem dX8_changes_9 : decode cX8_changes 9 = .ok (.getfield 31, 3) := by decide +kernel
theorem dX8_changes_12 : decode cX8_changes 12 = .ok (.iconst 4, 1) := by decide +kernel
theorem dX8_changes_13 : decode cX8_changes 13 = .ok (.if_icmp .ne 44, 3) := by decide +kernel
theorem dX8_changes_16 : decode cX8_changes 16 = .ok (.iconst 0, 1) := by decide +kernel
theorem dX8_changes_17 : decode cX8_changes 17 = .ok (.istore_n 1, 1) := by decide +kernel
theorem dX8_changes_18 : decode cX8_changes 18 = .ok (.iload_n 1, 1) := by decide +kernel
theorem dX8_changes_19 : decode cX8_changes 19 = .ok (.sipush 492, 3) := by decide +kernel
theorem dX8_changes_22 : decode cX8_changes 22 = .ok (.if_icmp .ge 25, 3) := by decide +kernel
theorem dX8_changes_25 : decode cX8_changes 25 = .ok (.aload_n 0, 1) := by decide +kernel
theorem dX8_changes_26 : decode cX8_changes 26 = .ok (.getfield 13, 3) := by decide +kernel
theorem dX8_changes_29 : decode cX8_changes 29 = .ok (.iload_n 1, 1) := by decide +kernel
theorem dX8_changes_30 : decode cX8_changes 30 = .ok (.aload_n 0, 1) := by decide +kernel
theorem dX8_changes_31 : decode cX8_changes 31 = .ok (.getfield 13, 3) := by decide +kernel
theorem dX8_changes_34 : decode cX8_changes 34 = .ok (.iload_n 1, 1) := by decide +kernel
theorem dX8_changes_35 : decode cX8_changes 35 = .ok (.sipush 164, 3) := by decide +kernel
theorem dX8_changes_38 : decode cX8_changes 38 = .ok (.iadd, 1) := by decide +kernel
theorem dX8_changes_39 : decode cX8_changes 39 = .ok (.iaload, 1) := by decide +kernel
theorem dX8_changes_40 : decode cX8_changes 40 = .ok (.iastore, 1) := by decide +kernel
theorem dX8_changes_41 : decode cX8_changes 41 = .ok (.iinc 1 1, 3) := by decide +kernel
theorem dX8_changes_44 : decode cX8_changes 44 = .ok (.goto (-26), 3) := by decide +kernel
theorem dX8_changes_47 : decode cX8_changes 47 = .ok (.aload_n 0, 1) := by decide +kernel
theorem dX8_changes_48 : decode cX8_changes 48 = .ok (.dup, 1) := by decide +kernel
theorem dX8_changes_49 : decode cX8_changes 49 = .ok (.getfield 31, 3) := by decide +kernel
theorem dX8_changes_52 : decode cX8_changes 52 = .ok (.iconst 1, 1) := by decide +kernel
theorem dX8_changes_53 : decode cX8_changes 53 = .ok (.isub, 1) := by decide +kernel
theorem dX8_changes_54 : decode cX8_changes 54 = .ok (.putfield 31, 3) := by decide +kernel
theorem dX8_changes_57 : decode cX8_changes 57 = .ok (.iconst 0, 1) := by decide +kernel
theorem dX8_changes_58 : decode cX8_changes 58 = .ok (.istore_n 1, 1) := by decide +kernel
theorem dX8_changes_59 : decode cX8_changes 59 = .ok (.iload_n 1, 1) := by decide +kernel
theorem dX8_changes_60 : decode cX8_changes 60 = .ok (.sipush 164, 3) := by decide +kernel
theorem dX8_changes_63 : decode cX8_changes 63 = .ok (.if_icmp .ge 30, 3) := by decide +kernel
theorem dX8_changes_66 : decode cX8_changes 66 = .ok (.aload_n 0, 1) := by decide +kernel
theorem dX8_changes_67 : decode cX8_changes 67 = .ok (.getfield 13, 3) := by decide +kernel
theorem dX8_changes_70 : decode cX8_changes 70 = .ok (.sipush 164, 3) := by decide +kernel
theorem dX8_changes_73 : decode cX8_changes 73 = .ok (.aload_n 0, 1) := by decide +kernel
theorem dX8_changes_74 : decode cX8_changes 74 = .ok (.getfield 31, 3) := by decide +kernel
theorem dX8_changes_77 : decode cX8_changes 77 = .ok (.imul, 1) := by decide +kernel
theorem dX8_changes_78 : decode cX8_changes 78 = .ok (.iload_n 1, 1) := by decide +kernel
theorem dX8_changes_79 : decode cX8_changes 79 = .ok (.iadd, 1) := by decide +kernel
theorem dX8_changes_80 : decode cX8_changes 80 = .ok (.aload_n 0, 1) := by decide +kernel
theorem dX8_changes_81 : decode cX8_changes 81 = .ok (.getfield 7, 3) := by decide +kernel
theorem dX8_changes_84 : decode cX8_changes 84 = .ok (.iload_n 1, 1) := by decide +kernel
theorem dX8_changes_85 : decode cX8_changes 85 = .ok (.iaload, 1) := by decide +kernel
theorem dX8_changes_86 : decode cX8_changes 86 = .ok (.iastore, 1) := by decide +kernel
theorem dX8_changes_87 : decode cX8_changes 87 = .ok (.iinc 1 1, 3) := by decide +kernel
theorem dX8_changes_90 : decode cX8_changes 90 = .ok (.goto (-31), 3) := by decide +kernel
theorem dX8_changes_93 : decode cX8_changes 93 = .ok (.aload_n 0, 1) := by decide +kernel
theorem dX8_changes_94 : decode cX8_changes 94 = .ok (.dup, 1) := by decide +kernel
theorem dX8_changes_95 : decode cX8_changes 95 = .ok (.getfield 31, 3) := by decide +kernel
theorem dX8_changes_98 : decode cX8_changes 98 = .ok (.iconst 1, 1) := by decide +kernel
theorem dX8_changes_99 : decode cX8_changes 99 = .ok (.iadd, 1) := by decide +kernel
theorem dX8_changes_100 : decode cX8_changes 100 = .ok (.putfield 31, 3) := by decide +kernel
theorem dX8_changes_103 : decode cX8_changes 103 = .ok (.return_, 1) := by decide +kernel
def vb_X8_changes_18 (Q : Mem → Prop) (rec : Nat → Mem → Int32 → Prop) (ρ : Mem) (w1 : Int32) : Prop :=
  ((492 ≤ w1) → (∀ ρ10 : Mem, ρ10 = up ρ 0 4 ((ρ 0 4) - 1) → (rec 1 ρ10 0))) ∧ ((¬ 492 ≤ w1) → (vp_in (w1 + 164) 656 ∧ (vp_in w1 656 ∧ (∀ ρ13 : Mem, ρ13 = up ρ 2 w1.toNatClampNeg (ρ 2 (w1 + 164).toNatClampNeg) → (∀ v14 : Int32, v14 = w1 + 1 → (rec 0 ρ13 v14))))))
def vb_X8_changes_59 (Q : Mem → Prop) (rec : Nat → Mem → Int32 → Prop) (ρ : Mem) (w1 : Int32) : Prop :=
  ((164 ≤ w1) → (∀ ρ4 : Mem, ρ4 = up ρ 0 4 ((ρ 0 4) + 1) → (Q ρ4))) ∧ ((¬ 164 ≤ w1) → (vp_in w1 164 ∧ (vp_in ((164 * (ρ 0 4)) + w1) 656 ∧ (∀ ρ7 : Mem, ρ7 = up ρ 2 ((164 * (ρ 0 4)) + w1).toNatClampNeg (ρ 1 w1.toNatClampNeg) → (∀ v8 : Int32, v8 = w1 + 1 → (rec 1 ρ7 v8))))))
def vl_X8_changes (Q : Mem → Prop) : Nat → Nat → Mem → Int32 → Prop
  | 0, _, _, _ => False
  | n + 1, 0, ρ, w1 => vb_X8_changes_18 Q (vl_X8_changes Q n) ρ w1
  | n + 1, 1, ρ, w1 => vb_X8_changes_59 Q (vl_X8_changes Q n) ρ w1
  | _ + 1, _, _, _ => False
def vc_X8_changes (Q : Mem → Prop) (ρ : Mem) : Prop :=
  ∃ n : Nat, (((ρ 0 5) = 0) → (((¬ (ρ 0 4) = 4) → (vl_X8_changes Q n 1 ρ 0)) ∧ (((ρ 0 4) = 4) → (vl_X8_changes Q n 0 ρ 0)))) ∧ ((¬ (ρ 0 5) = 0) → (Q ρ))
set_option maxHeartbeats 8000000 in
set_option maxRecDepth 100000 in
theorem m_X8_changes (l : Launch) (G : GG) (aM : Nat) (ρ : Mem) (Q : Mem → Prop) (h : vc_X8_changes Q ρ) : CtV l yX8_changes cX8_changes 2 { frames := 0, cells := 0, slots := 0, locals := 0 } [.ref (aM + 0)] G (fun H => rg G LM aM ρ H) (Q) (fun u H => rg G LM aM u H) (RA aM 8) := by
  unfold CtV
  refine met_start (y := yX8_changes) (maxL := 2) (av := [.ref (aM + 0)]) (G := G) (P := fun H => rg G LM aM ρ H) (by decide) rfl (Nat.le_of_ble_eq_true rfl) (fun p e s m below meth c ls C hr hP hK hl => ?_)
  obtain ⟨hx, hb, hml, hown, hts, hlocks⟩ := id C
  have hM : rg G LM aM ρ s.heap := hP
  have hS : va_S (RA aM 8) s.heap s.heap [] := va_S.rf
  have hl : lv_has ls 2 [(0, .ref (aM + 0))] := hl
  have K : ∀ n : Nat, (∀ (ρ : Mem) (w1 : Int32) (H : Heap) (locs : List Loc) (ls : Array Slot), rg G LM aM ρ H → va_S (RA aM 8) s.heap H locs → lv_has ls 2 [(0, .ref (aM + 0)), (1, .int w1)] → vl_X8_changes Q n 0 ρ w1 → W p l e { frames := 0, cells := 0, slots := 0, locals := 0 } s m [.ref (aM + 0)].toArray below meth c H locs 0 0 (MQ below (va_Qv (Q) (fun u t => (fun u H => rg G LM aM u H) u t.heap ∧ KK G t) (RA aM 8)) [.ref (aM + 0)].toArray s 0 0 (RA aM 8)) (F0 m 18 ls [])) ∧ (∀ (ρ : Mem) (w1 : Int32) (H : Heap) (locs : List Loc) (ls : Array Slot), rg G LM aM ρ H → va_S (RA aM 8) s.heap H locs → lv_has ls 2 [(0, .ref (aM + 0)), (1, .int w1)] → vl_X8_changes Q n 1 ρ w1 → W p l e { frames := 0, cells := 0, slots := 0, locals := 0 } s m [.ref (aM + 0)].toArray below meth c H locs 0 0 (MQ below (va_Qv (Q) (fun u t => (fun u H => rg G LM aM u H) u t.heap ∧ KK G t) (RA aM 8)) [.ref (aM + 0)].toArray s 0 0 (RA aM 8)) (F0 m 59 ls [])) := by
    intro n
    induction n with
    | zero => exact ⟨fun _ _ _ _ _ _ _ _ h => h.elim, fun _ _ _ _ _ _ _ _ h => h.elim⟩
    | succ n ih =>
      refine ⟨?_, ?_⟩
      · intro ρ w1 H locs ls hM hS hl h
        replace h : vb_X8_changes_18 Q (vl_X8_changes Q n) ρ w1 := h
        unfold vb_X8_changes_18 at h
        refine lv_iload_n hx hb dX8_changes_18 rfl (lv_at hl 1 rfl) ?_
        refine lv_sipush (v := 492) hx hb dX8_changes_19 (by decide) ?_
        refine lv_icmp_ge (tgt := 47) hx hb dX8_changes_22 (by decide) (fun c9 => ?_) (fun c9 => ?_)
        · replace h := h.1 c9
          refine lv_aload_n hx hb dX8_changes_47 rfl (lv_at hl 0 rfl) ?_
          refine lv_dup hx hb dX8_changes_48 rfl ?_
          refine g_getI (a := aM) (k := 0) C hK hM fl_X8_31 rfl rfl dX8_changes_49 ?_
          refine lv_iconst (v := 1) hx hb dX8_changes_52 (by decide) ?_
          refine lv_isub hx hb dX8_changes_53 ?_
          refine g_put (a := aM) (k := 0) C hK hM hS fl_X8_31 fp_X8_4 rfl rfl (by rfl) (by rfl) (RA_in (by decide)) dX8_changes_54 (fun ρ10 H locs eρ10 hM hS hq => ?_)
          specialize h ρ10 eρ10
          refine lv_iconst (v := 0) hx hb dX8_changes_57 (by decide) ?_
          refine lv_istore_n (lv' := [(1, .int 0), (0, .ref (aM + 0))]) hx hb dX8_changes_58 rfl hl (by decide) rfl (fun ls hl => ?_)
          exact (ih.2) ρ10 0 _ _ _ hM hS (lv_sub hl [1, 0] rfl) h
        · replace h := h.2 c9
          refine lv_aload_n hx hb dX8_changes_25 rfl (lv_at hl 0 rfl) ?_
          refine g_getR (a := aM) (k := 0) (o := 2) C hK hM fl_X8_13 rfl rfl dX8_changes_26 ?_
          refine lv_iload_n hx hb dX8_changes_29 rfl (lv_at hl 1 rfl) ?_
          refine lv_aload_n hx hb dX8_changes_30 rfl (lv_at hl 0 rfl) ?_
          refine g_getR (a := aM) (k := 0) (o := 2) C hK hM fl_X8_13 rfl rfl dX8_changes_31 ?_
          refine lv_iload_n hx hb dX8_changes_34 rfl (lv_at hl 1 rfl) ?_
          refine lv_sipush (v := 164) hx hb dX8_changes_35 (by decide) ?_
          refine lv_iadd hx hb dX8_changes_38 ?_
          obtain ⟨b11, h⟩ := h
          refine g_ald (a := aM) (k := 2) (n := 656) C hK hM rfl b11 dX8_changes_39 ?_
          obtain ⟨b12, h⟩ := h
          refine g_ast (a := aM) (k := 2) (n := 656) C hK hM hS rfl b12 (RA_in (by decide)) dX8_changes_40 (fun ρ13 H locs eρ13 hM hS hq => ?_)
          specialize h ρ13 eρ13
          obtain ⟨v14, ev14⟩ : ∃ y : Int32, y = w1 + 1 := ⟨_, rfl⟩
          specialize h v14 ev14
          refine lv_iinc (v := v14) (lv' := [(1, .int v14), (0, .ref (aM + 0))]) hx hb dX8_changes_41 hl (k := 1) rfl (by rw [ev14]; rfl) (by decide) rfl (fun ls hl => ?_)
          refine lv_goto (tgt := 18) hx hb dX8_changes_44 (by decide) ?_
          exact (ih.1) ρ13 v14 _ _ _ hM hS (lv_sub hl [1, 0] rfl) h
      · intro ρ w1 H locs ls hM hS hl h
        replace h : vb_X8_changes_59 Q (vl_X8_changes Q n) ρ w1 := h
        unfold vb_X8_changes_59 at h
        refine lv_iload_n hx hb dX8_changes_59 rfl (lv_at hl 1 rfl) ?_
        refine lv_sipush (v := 164) hx hb dX8_changes_60 (by decide) ?_
        refine lv_icmp_ge (tgt := 93) hx hb dX8_changes_63 (by decide) (fun c3 => ?_) (fun c3 => ?_)
        · replace h := h.1 c3
          refine lv_aload_n hx hb dX8_changes_93 rfl (lv_at hl 0 rfl) ?_
          refine lv_dup hx hb dX8_changes_94 rfl ?_
          refine g_getI (a := aM) (k := 0) C hK hM fl_X8_31 rfl rfl dX8_changes_95 ?_
          refine lv_iconst (v := 1) hx hb dX8_changes_98 (by decide) ?_
          refine lv_iadd hx hb dX8_changes_99 ?_
          refine g_put (a := aM) (k := 0) C hK hM hS fl_X8_31 fp_X8_4 rfl rfl (by rfl) (by rfl) (RA_in (by decide)) dX8_changes_100 (fun ρ4 H locs eρ4 hM hS hq => ?_)
          specialize h ρ4 eρ4
          exact g_vret (post := Q) (P' := fun u H => rg G LM aM u H) (u := ρ4) C hr hK hS h hM dX8_changes_103
        · replace h := h.2 c3
          refine lv_aload_n hx hb dX8_changes_66 rfl (lv_at hl 0 rfl) ?_
          refine g_getR (a := aM) (k := 0) (o := 2) C hK hM fl_X8_13 rfl rfl dX8_changes_67 ?_
          refine lv_sipush (v := 164) hx hb dX8_changes_70 (by decide) ?_
          refine lv_aload_n hx hb dX8_changes_73 rfl (lv_at hl 0 rfl) ?_
          refine g_getI (a := aM) (k := 0) C hK hM fl_X8_31 rfl rfl dX8_changes_74 ?_
          refine lv_imul hx hb dX8_changes_77 ?_
          refine lv_iload_n hx hb dX8_changes_78 rfl (lv_at hl 1 rfl) ?_
          refine lv_iadd hx hb dX8_changes_79 ?_
          refine lv_aload_n hx hb dX8_changes_80 rfl (lv_at hl 0 rfl) ?_
          refine g_getR (a := aM) (k := 0) (o := 1) C hK hM fl_X8_7 rfl rfl dX8_changes_81 ?_
          refine lv_iload_n hx hb dX8_changes_84 rfl (lv_at hl 1 rfl) ?_
          obtain ⟨b5, h⟩ := h
          refine g_ald (a := aM) (k := 1) (n := 164) C hK hM rfl b5 dX8_changes_85 ?_
          obtain ⟨b6, h⟩ := h
          refine g_ast (a := aM) (k := 2) (n := 656) C hK hM hS rfl b6 (RA_in (by decide)) dX8_changes_86 (fun ρ7 H locs eρ7 hM hS hq => ?_)
          specialize h ρ7 eρ7
          obtain ⟨v8, ev8⟩ : ∃ y : Int32, y = w1 + 1 := ⟨_, rfl⟩
          specialize h v8 ev8
          refine lv_iinc (v := v8) (lv' := [(1, .int v8), (0, .ref (aM + 0))]) hx hb dX8_changes_87 hl (k := 1) rfl (by rw [ev8]; rfl) (by decide) rfl (fun ls hl => ?_)
          refine lv_goto (tgt := 59) hx hb dX8_changes_90 (by decide) ?_
          exact (ih.2) ρ7 v8 _ _ _ hM hS (lv_sub hl [1, 0] rfl) h
  unfold vc_X8_changes at h
  obtain ⟨n, h⟩ := h
  refine lv_aload_n hx hb dX8_changes_0 rfl (lv_at hl 0 rfl) ?_
  refine g_getI (a := aM) (k := 0) C hK hM fl_X8_35 rfl rfl dX8_changes_1 ?_
  refine lv_if_eq (tgt := 8) hx hb dX8_changes_4 (by decide) (fun c1 => ?_) (fun c1 => ?_)
  · replace h := h.1 c1
    refine lv_aload_n hx hb dX8_changes_8 rfl (lv_at hl 0 rfl) ?_
    refine g_getI (a := aM) (k := 0) C hK hM fl_X8_31 rfl rfl dX8_changes_9 ?_
    refine lv_iconst (v := 4) hx hb dX8_changes_12 (by decide) ?_
    refine lv_icmp_ne (tgt := 57) hx hb dX8_changes_13 (by decide) (fun c2 => ?_) (fun c2 => ?_)
    · replace h := h.1 c2
      refine lv_iconst (v := 0) hx hb dX8_changes_57 (by decide) ?_
      refine lv_istore_n (lv' := [(1, .int 0), (0, .ref (aM + 0))]) hx hb dX8_changes_58 rfl hl (by decide) rfl (fun ls hl => ?_)
      exact ((K n).2) ρ 0 _ _ _ hM hS (lv_sub hl [1, 0] rfl) h
    · replace h := h.2 c2
      refine lv_iconst (v := 0) hx hb dX8_changes_16 (by decide) ?_
      refine lv_istore_n (lv' := [(1, .int 0), (0, .ref (aM + 0))]) hx hb dX8_changes_17 rfl hl (by decide) rfl (fun ls hl => ?_)
      exact ((K n).1) ρ 0 _ _ _ hM hS (lv_sub hl [1, 0] rfl) h
  · replace h := h.2 c1
    exact g_vret (post := Q) (P' := fun u H => rg G LM aM u H) (u := ρ) C hr hK hS h hM dX8_changes_7
theorem dX8_isPlayer_0 : decode cX8_isPlayer 0 = .ok (.iload_n 1, 1) := by decide +kernel
theorem dX8_isPlayer_1 : decode cX8_isPlayer 1 = .ok (.ifCond .lt 17, 3) := by decide +kernel
theorem dX8_isPlayer_4 : decode cX8_isPlayer 4 = .ok (.iload_n 1, 1) := by decide +kernel
theorem dX8_isPlayer_5 : decode cX8_isPlayer 5 = .ok (.aload_n 0, 1) := by decide +kernel
theorem dX8_isPlayer_6 : decode cX8_isPlayer 6 = .ok (.getfield 7, 3) := by decide +kernel
theorem dX8_isPlayer_9 : decode cX8_isPlayer 9 = .ok (.iconst 0, 1) := by decide +kernel
theorem dX8_isPlayer_10 : decode cX8_isPlayer 10 = .ok (.iaload, 1) := by decide +kernel
theorem dX8_isPlayer_11 : decode cX8_isPlayer 11 = .ok (.if_icmp .ge 7, 3) := by decide +kernel
theorem dX8_isPlayer_14 : decode cX8_isPlayer 14 = .ok (.iconst 1, 1) := by decide +kernel
theorem dX8_isPlayer_15 : decode cX8_isPlayer 15 = .ok (.goto 4, 3) := by decide +kernel
theorem dX8_isPlayer_18 : decode cX8_isPlayer 18 = .ok (.iconst 0, 1) := by decide +kernel
theorem dX8_isPlayer_19 : decode cX8_isPlayer 19 = .ok (.ireturn, 1) := by decide +kernel
def vc_X8_isPlayer (Q : Int32 → Prop) (ρ : Mem) (x1 : Int32) : Prop :=
  ((x1 < 0) → (Q 0 )) ∧ ((¬ x1 < 0) → (((((ρ 1 (0 : Int32).toNatClampNeg) ≤ x1) → (Q 0 )) ∧ ((¬ (ρ 1 (0 : Int32).toNatClampNeg) ≤ x1) → (Q 1 )))))
set_option maxHeartbeats 8000000 in
set_option maxRecDepth 100000 in
theorem m_X8_isPlayer (l : Launch) (G : GG) (aM : Nat) (ρ : Mem) (x1 : Int32) (Q : Int32 → Prop) (h : vc_X8_isPlayer Q ρ x1) : CtI l yX8_isPlayer cX8_isPlayer 2 (some .boolean) { frames := 0, cells := 0, slots := 0, locals := 0 } [.ref (aM + 0), .int x1] G (fun H => rg G LM aM ρ H) (fun r (_ : Unit) => Q r) (fun _ _ => True) (fun _ => False) := by
  unfold CtI
  refine met_start (y := yX8_isPlayer) (maxL := 2) (av := [.ref (aM + 0), .int x1]) (G := G) (P := fun H => rg G LM aM ρ H) (by decide) rfl (Nat.le_of_ble_eq_true rfl) (fun p e s m below meth c ls C hr hP hK hl => ?_)
  obtain ⟨hx, hb, hml, hown, hts, hlocks⟩ := id C
  have hM : rg G LM aM ρ s.heap := hP
  have hS : va_S (fun _ => False) s.heap s.heap [] := va_S.rf
  have hl : lv_has ls 2 [(0, .ref (aM + 0)), (1, .int x1)] := hl
  unfold vc_X8_isPlayer at h
  refine lv_iload_n hx hb dX8_isPlayer_0 rfl (lv_at hl 1 rfl) ?_
  refine lv_if_lt (tgt := 18) hx hb dX8_isPlayer_1 (by decide) (fun c1 => ?_) (fun c1 => ?_)
  · replace h := h.1 c1
    refine lv_iconst (v := 0) hx hb dX8_isPlayer_18 (by decide) ?_
    exact g_zret (post := fun r (_ : Unit) => Q r) (P' := fun _ _ => True) (r := 0) (u := ()) C hr hK hS (by rfl) h trivial dX8_isPlayer_19
  · replace h := h.2 c1
    refine lv_iload_n hx hb dX8_isPlayer_4 rfl (lv_at hl 1 rfl) ?_
    refine lv_aload_n hx hb dX8_isPlayer_5 rfl (lv_at hl 0 rfl) ?_
    refine g_getR (a := aM) (k := 0) (o := 1) C hK hM fl_X8_7 rfl rfl dX8_isPlayer_6 ?_
    refine lv_iconst (v := 0) hx hb dX8_isPlayer_9 (by decide) ?_
    refine g_ald (a := aM) (k := 1) (n := 164) C hK hM rfl (vp_dec (by decide)) dX8_isPlayer_10 ?_
    refine lv_icmp_ge (tgt := 18) hx hb dX8_isPlayer_11 (by decide) (fun c2 => ?_) (fun c2 => ?_)
    · replace h := h.1 c2
      refine lv_iconst (v := 0) hx hb dX8_isPlayer_18 (by decide) ?_
      exact g_zret (post := fun r (_ : Unit) => Q r) (P' := fun _ _ => True) (r := 0) (u := ()) C hr hK hS (by rfl) h trivial dX8_isPlayer_19
    · replace h := h.2 c2
      refine lv_iconst (v := 1) hx hb dX8_isPlayer_14 (by decide) ?_
      refine lv_goto (tgt := 19) hx hb dX8_isPlayer_15 (by decide) ?_
      exact g_zret (post := fun r (_ : Unit) => Q r) (P' := fun _ _ => True) (r := 1) (u := ()) C hr hK hS (by rfl) h trivial dX8_isPlayer_19
theorem dX8_isWorker_0 : decode cX8_isWorker 0 = .ok (.aload_n 0, 1) := by decide +kernel
theorem dX8_isWorker_1 : decode cX8_isWorker 1 = .ok (.iload_n 1, 1) := by decide +kernel
theorem dX8_isWorker_2 : decode cX8_isWorker 2 = .ok (.invokevirtual 39, 3) := by decide +kernel
theorem dX8_isWorker_5 : decode cX8_isWorker 5 = .ok (.ifCond .eq 16, 3) := by decide +kernel
theorem dX8_isWorker_8 : decode cX8_isWorker 8 = .ok (.iload_n 2, 1) := by decide +kernel
theorem dX8_isWorker_9 : decode cX8_isWorker 9 = .ok (.iconst 0, 1) := by decide +kernel
theorem dX8_isWorker_10 : decode cX8_isWorker 10 = .ok (.iconst 2, 1) := by decide +kernel
theorem dX8_isWorker_11 : decode cX8_isWorker 11 = .ok (.invokestatic 43, 3) := by decide +kernel
theorem dX8_isWorker_14 : decode cX8_isWorker 14 = .ok (.ifCond .eq 7, 3) := by decide +kernel
theorem dX8_isWorker_17 : decode cX8_isWorker 17 = .ok (.iconst 1, 1) := by decide +kernel
theorem dX8_isWorker_18 : decode cX8_isWorker 18 = .ok (.goto 4, 3) := by decide +kernel
theorem dX8_isWorker_21 : decode cX8_isWorker 21 = .ok (.iconst 0, 1) := by decide +kernel
theorem dX8_isWorker_22 : decode cX8_isWorker 22 = .ok (.ireturn, 1) := by decide +kernel
def vc_X8_isWorker (Q : Int32 → Prop) (ρ : Mem) (x1 : Int32) (x2 : Int32) : Prop :=
  vc_X8_isPlayer (fun r1 => ((r1 = 0) → (Q 0 )) ∧ ((¬ r1 = 0) → (vc_X8_in (fun r3 => ((r3 = 0) → (Q 0 )) ∧ ((¬ r3 = 0) → (Q 1 ))) x2 0 2))) ρ x1
set_option maxHeartbeats 8000000 in
set_option maxRecDepth 100000 in
theorem m_X8_isWorker (l : Launch) (G : GG) (aM : Nat) (ρ : Mem) (x1 : Int32) (x2 : Int32) (Q : Int32 → Prop) (h : vc_X8_isWorker Q ρ x1 x2) : CtI l yX8_isWorker cX8_isWorker 3 (some .boolean) { frames := 1, cells := 0, slots := 0, locals := 22 } [.ref (aM + 0), .int x1, .int x2] G (fun H => rg G LM aM ρ H) (fun r (_ : Unit) => Q r) (fun _ _ => True) (fun _ => False) := by
  unfold CtI
  refine met_start (y := yX8_isWorker) (maxL := 3) (av := [.ref (aM + 0), .int x1, .int x2]) (G := G) (P := fun H => rg G LM aM ρ H) (by decide) rfl (Nat.le_of_ble_eq_true rfl) (fun p e s m below meth c ls C hr hP hK hl => ?_)
  obtain ⟨hx, hb, hml, hown, hts, hlocks⟩ := id C
  have hM : rg G LM aM ρ s.heap := hP
  have hS : va_S (fun _ => False) s.heap s.heap [] := va_S.rf
  have hl : lv_has ls 3 [(0, .ref (aM + 0)), (1, .int x1), (2, .int x2)] := hl
  unfold vc_X8_isWorker at h
  refine lv_aload_n hx hb dX8_isWorker_0 rfl (lv_at hl 0 rfl) ?_
  refine lv_iload_n hx hb dX8_isWorker_1 rfl (lv_at hl 1 rfl) ?_
  refine g_vI C hK hl.1 (m_X8_isPlayer l G aM ρ x1 _ h) mw_X8_isPlayer mi_X8_isPlayer ml_X8_39 rfl ⟨rfl, rfl, Nat.le_of_ble_eq_true rfl, Nat.le_of_ble_eq_true rfl⟩ ⟨Nat.zero_le _, Nat.zero_le _⟩ (g_recv (a := aM) (k := 0) hK hM rfl rfl) hM hS (fun _ h => h.elim) rfl (Nat.le_of_ble_eq_true rfl) dX8_isWorker_2 (fun r1 u H locs h hu _ hq hS => ?_)
  have hM := hM.past hq (fun _ _ h => h)
  refine lv_if_eq (tgt := 21) hx hb dX8_isWorker_5 (by decide) (fun c2 => ?_) (fun c2 => ?_)
  · replace h := h.1 c2
    refine lv_iconst (v := 0) hx hb dX8_isWorker_21 (by decide) ?_
    exact g_zret (post := fun r (_ : Unit) => Q r) (P' := fun _ _ => True) (r := 0) (u := ()) C hr hK hS (by rfl) h trivial dX8_isWorker_22
  · replace h := h.2 c2
    refine lv_iload_n hx hb dX8_isWorker_8 rfl (lv_at hl 2 rfl) ?_
    refine lv_iconst (v := 0) hx hb dX8_isWorker_9 (by decide) ?_
    refine lv_iconst (v := 2) hx hb dX8_isWorker_10 (by decide) ?_
    refine g_sI C hK hl.1 (m_X8_in l G x2 0 2 _ h) mw_X8_in ms_X8_in ml_X8_43 rfl ⟨rfl, rfl, Nat.le_of_ble_eq_true rfl, Nat.le_of_ble_eq_true rfl⟩ ⟨Nat.zero_le _, Nat.zero_le _⟩ trivial hS (fun _ h => h.elim) rfl (Nat.le_of_ble_eq_true rfl) dX8_isWorker_11 (fun r3 u H locs h hu _ hq hS => ?_)
    have hM := hM.past hq (fun _ _ h => h)
    refine lv_if_eq (tgt := 21) hx hb dX8_isWorker_14 (by decide) (fun c4 => ?_) (fun c4 => ?_)
    · replace h := h.1 c4
      refine lv_iconst (v := 0) hx hb dX8_isWorker_21 (by decide) ?_
      exact g_zret (post := fun r (_ : Unit) => Q r) (P' := fun _ _ => True) (r := 0) (u := ()) C hr hK hS (by rfl) h trivial dX8_isWorker_22
    · replace h := h.2 c4
      refine lv_iconst (v := 1) hx hb dX8_isWorker_17 (by decide) ?_
      refine lv_goto (tgt := 22) hx hb dX8_isWorker_18 (by decide) ?_
      exact g_zret (post := fun r (_ : Unit) => Q r) (P' := fun _ _ => True) (r := 1) (u := ()) C hr hK hS (by rfl) h trivial dX8_isWorker_22
theorem dX8_isTask_0 : decode cX8_isTask 0 = .ok (.iload_n 1, 1) := by decide +kernel
theorem dX8_isTask_1 : decode cX8_isTask 1 = .ok (.ifCond .lt 17, 3) := by decide +kernel
theorem dX8_isTask_4 : decode cX8_isTask 4 = .ok (.iload_n 1, 1) := by decide +kernel
theorem dX8_isTask_5 : decode cX8_isTask 5 = .ok (.aload_n 0, 1) := by decide +kernel
theorem dX8_isTask_6 : decode cX8_isTask 6 = .ok (.getfield 7, 3) := by decide +kernel
theorem dX8_isTask_9 : decode cX8_isTask 9 = .ok (.iconst 1, 1) := by decide +kernel
theorem dX8_isTask_10 : decode cX8_isTask 10 = .ok (.iaload, 1) := by decide +kernel
theorem dX8_isTask_11 : decode cX8_isTask 11 = .ok (.if_icmp .ge 7, 3) := by decide +kernel
theorem dX8_isTask_14 : decode cX8_isTask 14 = .ok (.iconst 1, 1) := by decide +kernel
theorem dX8_isTask_15 : decode cX8_isTask 15 = .ok (.goto 4, 3) := by decide +kernel
theorem dX8_isTask_18 : decode cX8_isTask 18 = .ok (.iconst 0, 1) := by decide +kernel
theorem dX8_isTask_19 : decode cX8_isTask 19 = .ok (.ireturn, 1) := by decide +kernel
def vc_X8_isTask (Q : Int32 → Prop) (ρ : Mem) (x1 : Int32) : Prop :=
  ((x1 < 0) → (Q 0 )) ∧ ((¬ x1 < 0) → (((((ρ 1 (1 : Int32).toNatClampNeg) ≤ x1) → (Q 0 )) ∧ ((¬ (ρ 1 (1 : Int32).toNatClampNeg) ≤ x1) → (Q 1 )))))
set_option maxHeartbeats 8000000 in
set_option maxRecDepth 100000 in
theorem m_X8_isTask (l : Launch) (G : GG) (aM : Nat) (ρ : Mem) (x1 : Int32) (Q : Int32 → Prop) (h : vc_X8_isTask Q ρ x1) : CtI l yX8_isTask cX8_isTask 2 (some .boolean) { frames := 0, cells := 0, slots := 0, locals := 0 } [.ref (aM + 0), .int x1] G (fun H => rg G LM aM ρ H) (fun r (_ : Unit) => Q r) (fun _ _ => True) (fun _ => False) := by
  unfold CtI
  refine met_start (y := yX8_isTask) (maxL := 2) (av := [.ref (aM + 0), .int x1]) (G := G) (P := fun H => rg G LM aM ρ H) (by decide) rfl (Nat.le_of_ble_eq_true rfl) (fun p e s m below meth c ls C hr hP hK hl => ?_)
  obtain ⟨hx, hb, hml, hown, hts, hlocks⟩ := id C
  have hM : rg G LM aM ρ s.heap := hP
  have hS : va_S (fun _ => False) s.heap s.heap [] := va_S.rf
  have hl : lv_has ls 2 [(0, .ref (aM + 0)), (1, .int x1)] := hl
  unfold vc_X8_isTask at h
  refine lv_iload_n hx hb dX8_isTask_0 rfl (lv_at hl 1 rfl) ?_
  refine lv_if_lt (tgt := 18) hx hb dX8_isTask_1 (by decide) (fun c1 => ?_) (fun c1 => ?_)
  · replace h := h.1 c1
    refine lv_iconst (v := 0) hx hb dX8_isTask_18 (by decide) ?_
    exact g_zret (post := fun r (_ : Unit) => Q r) (P' := fun _ _ => True) (r := 0) (u := ()) C hr hK hS (by rfl) h trivial dX8_isTask_19
  · replace h := h.2 c1
    refine lv_iload_n hx hb dX8_isTask_4 rfl (lv_at hl 1 rfl) ?_
    refine lv_aload_n hx hb dX8_isTask_5 rfl (lv_at hl 0 rfl) ?_
    refine g_getR (a := aM) (k := 0) (o := 1) C hK hM fl_X8_7 rfl rfl dX8_isTask_6 ?_
    refine lv_iconst (v := 1) hx hb dX8_isTask_9 (by decide) ?_
    refine g_ald (a := aM) (k := 1) (n := 164) C hK hM rfl (vp_dec (by decide)) dX8_isTask_10 ?_
    refine lv_icmp_ge (tgt := 18) hx hb dX8_isTask_11 (by decide) (fun c2 => ?_) (fun c2 => ?_)
    · replace h := h.1 c2
      refine lv_iconst (v := 0) hx hb dX8_isTask_18 (by decide) ?_
      exact g_zret (post := fun r (_ : Unit) => Q r) (P' := fun _ _ => True) (r := 0) (u := ()) C hr hK hS (by rfl) h trivial dX8_isTask_19
    · replace h := h.2 c2
      refine lv_iconst (v := 1) hx hb dX8_isTask_14 (by decide) ?_
      refine lv_goto (tgt := 19) hx hb dX8_isTask_15 (by decide) ?_
      exact g_zret (post := fun r (_ : Unit) => Q r) (P' := fun _ _ => True) (r := 1) (u := ()) C hr hK hS (by rfl) h trivial dX8_isTask_19
theorem dX8_isContract_0 : decode cX8_isContract 0 = .ok (.iload_n 1, 1) := by decide +kernel
theorem dX8_isContract_1 : decode cX8_isContract 1 = .ok (.ifCond .lt 17, 3) := by decide +kernel
theorem dX8_isContract_4 : decode cX8_isContract 4 = .ok (.iload_n 1, 1) := by decide +kernel
theorem dX8_isContract_5 : decode cX8_isContract 5 = .ok (.aload_n 0, 1) := by decide +kernel
theorem dX8_isContract_6 : decode cX8_isContract 6 = .ok (.getfield 7, 3) := by decide +kernel
theorem dX8_isContract_9 : decode cX8_isContract 9 = .ok (.iconst 2, 1) := by decide +kernel
theorem dX8_isContract_10 : decode cX8_isContract 10 = .ok (.iaload, 1) := by decide +kernel
theorem dX8_isContract_11 : decode cX8_isContract 11 = .ok (.if_icmp .ge 7, 3) := by decide +kernel
theorem dX8_isContract_14 : decode cX8_isContract 14 = .ok (.iconst 1, 1) := by decide +kernel
theorem dX8_isContract_15 : decode cX8_isContract 15 = .ok (.goto 4, 3) := by decide +kernel
theorem dX8_isContract_18 : decode cX8_isContract 18 = .ok (.iconst 0, 1) := by decide +kernel
theorem dX8_isContract_19 : decode cX8_isContract 19 = .ok (.ireturn, 1) := by decide +kernel
def vc_X8_isContract (Q : Int32 → Prop) (ρ : Mem) (x1 : Int32) : Prop :=
  ((x1 < 0) → (Q 0 )) ∧ ((¬ x1 < 0) → (((((ρ 1 (2 : Int32).toNatClampNeg) ≤ x1) → (Q 0 )) ∧ ((¬ (ρ 1 (2 : Int32).toNatClampNeg) ≤ x1) → (Q 1 )))))
set_option maxHeartbeats 8000000 in
set_option maxRecDepth 100000 in
theorem m_X8_isContract (l : Launch) (G : GG) (aM : Nat) (ρ : Mem) (x1 : Int32) (Q : Int32 → Prop) (h : vc_X8_isContract Q ρ x1) : CtI l yX8_isContract cX8_isContract 2 (some .boolean) { frames := 0, cells := 0, slots := 0, locals := 0 } [.ref (aM + 0), .int x1] G (fun H => rg G LM aM ρ H) (fun r (_ : Unit) => Q r) (fun _ _ => True) (fun _ => False) := by
  unfold CtI
  refine met_start (y := yX8_isContract) (maxL := 2) (av := [.ref (aM + 0), .int x1]) (G := G) (P := fun H => rg G LM aM ρ H) (by decide) rfl (Nat.le_of_ble_eq_true rfl) (fun p e s m below meth c ls C hr hP hK hl => ?_)
  obtain ⟨hx, hb, hml, hown, hts, hlocks⟩ := id C
  have hM : rg G LM aM ρ s.heap := hP
  have hS : va_S (fun _ => False) s.heap s.heap [] := va_S.rf
  have hl : lv_has ls 2 [(0, .ref (aM + 0)), (1, .int x1)] := hl
  unfold vc_X8_isContract at h
  refine lv_iload_n hx hb dX8_isContract_0 rfl (lv_at hl 1 rfl) ?_
  refine lv_if_lt (tgt := 18) hx hb dX8_isContract_1 (by decide) (fun c1 => ?_) (fun c1 => ?_)
  · replace h := h.1 c1
    refine lv_iconst (v := 0) hx hb dX8_isContract_18 (by decide) ?_
    exact g_zret (post := fun r (_ : Unit) => Q r) (P' := fun _ _ => True) (r := 0) (u := ()) C hr hK hS (by rfl) h trivial dX8_isContract_19
  · replace h := h.2 c1
    refine lv_iload_n hx hb dX8_isContract_4 rfl (lv_at hl 1 rfl) ?_
    refine lv_aload_n hx hb dX8_isContract_5 rfl (lv_at hl 0 rfl) ?_
    refine g_getR (a := aM) (k := 0) (o := 1) C hK hM fl_X8_7 rfl rfl dX8_isContract_6 ?_
    refine lv_iconst (v := 2) hx hb dX8_isContract_9 (by decide) ?_
    refine g_ald (a := aM) (k := 1) (n := 164) C hK hM rfl (vp_dec (by decide)) dX8_isContract_10 ?_
    refine lv_icmp_ge (tgt := 18) hx hb dX8_isContract_11 (by decide) (fun c2 => ?_) (fun c2 => ?_)
    · replace h := h.1 c2
      refine lv_iconst (v := 0) hx hb dX8_isContract_18 (by decide) ?_
      exact g_zret (post := fun r (_ : Unit) => Q r) (P' := fun _ _ => True) (r := 0) (u := ()) C hr hK hS (by rfl) h trivial dX8_isContract_19
    · replace h := h.2 c2
      refine lv_iconst (v := 1) hx hb dX8_isContract_14 (by decide) ?_
      refine lv_goto (tgt := 19) hx hb dX8_isContract_15 (by decide) ?_
      exact g_zret (post := fun r (_ : Unit) => Q r) (P' := fun _ _ => True) (r := 1) (u := ()) C hr hK hS (by rfl) h trivial dX8_isContract_19
theorem dX8_of_0 : decode cX8_of 0 = .ok (.aload_n 0, 1) := by decide +kernel
theorem dX8_of_1 : decode cX8_of 1 = .ok (.getfield 7, 3) := by decide +kernel
theorem dX8_of_4 : decode cX8_of 4 = .ok (.bipush 28, 2) := by decide +kernel
theorem dX8_of_6 : decode cX8_of 6 = .ok (.bipush 7, 2) := by decide +kernel
theorem dX8_of_8 : decode cX8_of 8 = .ok (.iload_n 1, 1) := by decide +kernel
theorem dX8_of_9 : decode cX8_of 9 = .ok (.imul, 1) := by decide +kernel
theorem dX8_of_10 : decode cX8_of 10 = .ok (.iadd, 1) := by decide +kernel
theorem dX8_of_11 : decode cX8_of 11 = .ok (.iload_n 2, 1) := by decide +kernel
theorem dX8_of_12 : decode cX8_of 12 = .ok (.iadd, 1) := by decide +kernel
theorem dX8_of_13 : decode cX8_of 13 = .ok (.iaload, 1) := by decide +kernel
theorem dX8_of_14 : decode cX8_of 14 = .ok (.ireturn, 1) := by decide +kernel
def vc_X8_of (Q : Int32 → Prop) (ρ : Mem) (x1 : Int32) (x2 : Int32) : Prop :=
  vp_in ((28 + (7 * x1)) + x2) 164 ∧ (Q (ρ 1 ((28 + (7 * x1)) + x2).toNatClampNeg) )
set_option maxHeartbeats 8000000 in
set_option maxRecDepth 100000 in
theorem m_X8_of (l : Launch) (G : GG) (aM : Nat) (ρ : Mem) (x1 : Int32) (x2 : Int32) (Q : Int32 → Prop) (h : vc_X8_of Q ρ x1 x2) : CtI l yX8_of cX8_of 3 (some .int) { frames := 0, cells := 0, slots := 0, locals := 0 } [.ref (aM + 0), .int x1, .int x2] G (fun H => rg G LM aM ρ H) (fun r (_ : Unit) => Q r) (fun _ _ => True) (fun _ => False) := by
  unfold CtI
  refine met_start (y := yX8_of) (maxL := 3) (av := [.ref (aM + 0), .int x1, .int x2]) (G := G) (P := fun H => rg G LM aM ρ H) (by decide) rfl (Nat.le_of_ble_eq_true rfl) (fun p e s m below meth c ls C hr hP hK hl => ?_)
  obtain ⟨hx, hb, hml, hown, hts, hlocks⟩ := id C
  have hM : rg G LM aM ρ s.heap := hP
  have hS : va_S (fun _ => False) s.heap s.heap [] := va_S.rf
  have hl : lv_has ls 3 [(0, .ref (aM + 0)), (1, .int x1), (2, .int x2)] := hl
  unfold vc_X8_of at h
  refine lv_aload_n hx hb dX8_of_0 rfl (lv_at hl 0 rfl) ?_
  refine g_getR (a := aM) (k := 0) (o := 1) C hK hM fl_X8_7 rfl rfl dX8_of_1 ?_
  refine lv_bipush (v := 28) hx hb dX8_of_4 (by decide) ?_
  refine lv_bipush (v := 7) hx hb dX8_of_6 (by decide) ?_
  refine lv_iload_n hx hb dX8_of_8 rfl (lv_at hl 1 rfl) ?_
  refine lv_imul hx hb dX8_of_9 ?_
  refine lv_iadd hx hb dX8_of_10 ?_
  refine lv_iload_n hx hb dX8_of_11 rfl (lv_at hl 2 rfl) ?_
  refine lv_iadd hx hb dX8_of_12 ?_
  obtain ⟨b1, h⟩ := h
  refine g_ald (a := aM) (k := 1) (n := 164) C hK hM rfl b1 dX8_of_13 ?_
  exact g_iret (post := fun r (_ : Unit) => Q r) (P' := fun _ _ => True) (r := (ρ 1 ((28 + (7 * x1)) + x2).toNatClampNeg)) (u := ()) C hr hK hS h trivial dX8_of_14
theorem dX8_ofTask_0 : decode cX8_ofTask 0 = .ok (.aload_n 0, 1) := by decide +kernel
theorem dX8_ofTask_1 : decode cX8_ofTask 1 = .ok (.getfield 7, 3) := by decide +kernel
theorem dX8_ofTask_4 : decode cX8_ofTask 4 = .ok (.bipush 112, 2) := by decide +kernel
theorem dX8_ofTask_6 : decode cX8_ofTask 6 = .ok (.iconst 5, 1) := by decide +kernel
theorem dX8_ofTask_7 : decode cX8_ofTask 7 = .ok (.iload_n 1, 1) := by decide +kernel
theorem dX8_ofTask_8 : decode cX8_ofTask 8 = .ok (.imul, 1) := by decide +kernel
theorem dX8_ofTask_9 : decode cX8_ofTask 9 = .ok (.iadd, 1) := by decide +kernel
theorem dX8_ofTask_10 : decode cX8_ofTask 10 = .ok (.iload_n 2, 1) := by decide +kernel
theorem dX8_ofTask_11 : decode cX8_ofTask 11 = .ok (.iadd, 1) := by decide +kernel
theorem dX8_ofTask_12 : decode cX8_ofTask 12 = .ok (.iaload, 1) := by decide +kernel
theorem dX8_ofTask_13 : decode cX8_ofTask 13 = .ok (.ireturn, 1) := by decide +kernel
def vc_X8_ofTask (Q : Int32 → Prop) (ρ : Mem) (x1 : Int32) (x2 : Int32) : Prop :=
  vp_in ((112 + (5 * x1)) + x2) 164 ∧ (Q (ρ 1 ((112 + (5 * x1)) + x2).toNatClampNeg) )
set_option maxHeartbeats 8000000 in
set_option maxRecDepth 100000 in
theorem m_X8_ofTask (l : Launch) (G : GG) (aM : Nat) (ρ : Mem) (x1 : Int32) (x2 : Int32) (Q : Int32 → Prop) (h : vc_X8_ofTask Q ρ x1 x2) : CtI l yX8_ofTask cX8_ofTask 3 (some .int) { frames := 0, cells := 0, slots := 0, locals := 0 } [.ref (aM + 0), .int x1, .int x2] G (fun H => rg G LM aM ρ H) (fun r (_ : Unit) => Q r) (fun _ _ => True) (fun _ => False) := by
  unfold CtI
  refine met_start (y := yX8_ofTask) (maxL := 3) (av := [.ref (aM + 0), .int x1, .int x2]) (G := G) (P := fun H => rg G LM aM ρ H) (by decide) rfl (Nat.le_of_ble_eq_true rfl) (fun p e s m below meth c ls C hr hP hK hl => ?_)
  obtain ⟨hx, hb, hml, hown, hts, hlocks⟩ := id C
  have hM : rg G LM aM ρ s.heap := hP
  have hS : va_S (fun _ => False) s.heap s.heap [] := va_S.rf
  have hl : lv_has ls 3 [(0, .ref (aM + 0)), (1, .int x1), (2, .int x2)] := hl
  unfold vc_X8_ofTask at h
  refine lv_aload_n hx hb dX8_ofTask_0 rfl (lv_at hl 0 rfl) ?_
  refine g_getR (a := aM) (k := 0) (o := 1) C hK hM fl_X8_7 rfl rfl dX8_ofTask_1 ?_
  refine lv_bipush (v := 112) hx hb dX8_ofTask_4 (by decide) ?_
  refine lv_iconst (v := 5) hx hb dX8_ofTask_6 (by decide) ?_
  refine lv_iload_n hx hb dX8_ofTask_7 rfl (lv_at hl 1 rfl) ?_
  refine lv_imul hx hb dX8_ofTask_8 ?_
  refine lv_iadd hx hb dX8_ofTask_9 ?_
  refine lv_iload_n hx hb dX8_ofTask_10 rfl (lv_at hl 2 rfl) ?_
  refine lv_iadd hx hb dX8_ofTask_11 ?_
  obtain ⟨b1, h⟩ := h
  refine g_ald (a := aM) (k := 1) (n := 164) C hK hM rfl b1 dX8_ofTask_12 ?_
  exact g_iret (post := fun r (_ : Unit) => Q r) (P' := fun _ _ => True) (r := (ρ 1 ((112 + (5 * x1)) + x2).toNatClampNeg)) (u := ()) C hr hK hS h trivial dX8_ofTask_13
theorem dX8_workers_0 : decode cX8_workers 0 = .ok (.iconst 3, 1) := by decide +kernel
theorem dX8_workers_1 : decode cX8_workers 1 = .ok (.aload_n 0, 1) := by decide +kernel
theorem dX8_workers_2 : decode cX8_workers 2 = .ok (.getfield 7, 3) := by decide +kernel
theorem dX8_workers_5 : decode cX8_workers 5 = .ok (.iconst 0, 1) := by decide +kernel
theorem dX8_workers_6 : decode cX8_workers 6 = .ok (.iaload, 1) := by decide +kernel
theorem dX8_workers_7 : decode cX8_workers 7 = .ok (.imul, 1) := by decide +kernel
theorem dX8_workers_8 : decode cX8_workers 8 = .ok (.ireturn, 1) := by decide +kernel
def vc_X8_workers (Q : Int32 → Prop) (ρ : Mem) : Prop :=
  (Q (3 * (ρ 1 (0 : Int32).toNatClampNeg)) )
set_option maxHeartbeats 8000000 in
set_option maxRecDepth 100000 in
theorem m_X8_workers (l : Launch) (G : GG) (aM : Nat) (ρ : Mem) (Q : Int32 → Prop) (h : vc_X8_workers Q ρ) : CtI l yX8_workers cX8_workers 1 (some .int) { frames := 0, cells := 0, slots := 0, locals := 0 } [.ref (aM + 0)] G (fun H => rg G LM aM ρ H) (fun r (_ : Unit) => Q r) (fun _ _ => True) (fun _ => False) := by
  unfold CtI
  refine met_start (y := yX8_workers) (maxL := 1) (av := [.ref (aM + 0)]) (G := G) (P := fun H => rg G LM aM ρ H) (by decide) rfl (Nat.le_of_ble_eq_true rfl) (fun p e s m below meth c ls C hr hP hK hl => ?_)
  obtain ⟨hx, hb, hml, hown, hts, hlocks⟩ := id C
  have hM : rg G LM aM ρ s.heap := hP
  have hS : va_S (fun _ => False) s.heap s.heap [] := va_S.rf
  have hl : lv_has ls 1 [(0, .ref (aM + 0))] := hl
  unfold vc_X8_workers at h
  refine lv_iconst (v := 3) hx hb dX8_workers_0 (by decide) ?_
  refine lv_aload_n hx hb dX8_workers_1 rfl (lv_at hl 0 rfl) ?_
  refine g_getR (a := aM) (k := 0) (o := 1) C hK hM fl_X8_7 rfl rfl dX8_workers_2 ?_
  refine lv_iconst (v := 0) hx hb dX8_workers_5 (by decide) ?_
  refine g_ald (a := aM) (k := 1) (n := 164) C hK hM rfl (vp_dec (by decide)) dX8_workers_6 ?_
  refine lv_imul hx hb dX8_workers_7 ?_
  exact g_iret (post := fun r (_ : Unit) => Q r) (P' := fun _ _ => True) (r := (3 * (ρ 1 (0 : Int32).toNatClampNeg))) (u := ()) C hr hK hS h trivial dX8_workers_8
theorem dX8_amount_0 : decode cX8_amount 0 = .ok (.iload_n 1, 1) := by decide +kernel
theorem dX8_amount_1 : decode cX8_amount 1 = .ok (.ifCond .ne 10, 3) := by decide +kernel
theorem dX8_amount_4 : decode cX8_amount 4 = .ok (.iload_n 0, 1) := by decide +kernel
theorem dX8_amount_5 : decode cX8_amount 5 = .ok (.bipush 100, 2) := by decide +kernel
theorem dX8_amount_7 : decode cX8_amount 7 = .ok (.idiv, 1) := by decide +kernel
theorem dX8_amount_8 : decode cX8_amount 8 = .ok (.goto 22, 3) := by decide +kernel
theorem dX8_amount_11 : decode cX8_amount 11 = .ok (.iload_n 1, 1) := by decide +kernel
theorem dX8_amount_12 : decode cX8_amount 12 = .ok (.iconst 1, 1) := by decide +kernel
theorem dX8_amount_13 : decode cX8_amount 13 = .ok (.if_icmp .ne 13, 3) := by decide +kernel
theorem dX8_amount_16 : decode cX8_amount 16 = .ok (.iload_n 0, 1) := by decide +kernel
theorem dX8_amount_17 : decode cX8_amount 17 = .ok (.bipush 10, 2) := by decide +kernel
theorem dX8_amount_19 : decode cX8_amount 19 = .ok (.idiv, 1) := by decide +kernel
theorem dX8_amount_20 : decode cX8_amount 20 = .ok (.bipush 10, 2) := by decide +kernel
theorem dX8_amount_22 : decode cX8_amount 22 = .ok (.irem, 1) := by decide +kernel
theorem dX8_amount_23 : decode cX8_amount 23 = .ok (.goto 7, 3) := by decide +kernel
theorem dX8_amount_26 : decode cX8_amount 26 = .ok (.iload_n 0, 1) := by decide +kernel
theorem dX8_amount_27 : decode cX8_amount 27 = .ok (.bipush 10, 2) := by decide +kernel
theorem dX8_amount_29 : decode cX8_amount 29 = .ok (.irem, 1) := by decide +kernel
theorem dX8_amount_30 : decode cX8_amount 30 = .ok (.ireturn, 1) := by decide +kernel
def vc_X8_amount (Q : Int32 → Prop) (x0 : Int32) (x1 : Int32) : Prop :=
  ((¬ x1 = 0) → (((¬ x1 = 1) → (Q (x0 - x0 / 10 * 10) )) ∧ ((x1 = 1) → (Q ((x0 / 10) - (x0 / 10) / 10 * 10) )))) ∧ ((x1 = 0) → (Q (x0 / 100) ))
set_option maxHeartbeats 8000000 in
set_option maxRecDepth 100000 in
theorem m_X8_amount (l : Launch) (G : GG) (x0 : Int32) (x1 : Int32) (Q : Int32 → Prop) (h : vc_X8_amount Q x0 x1) : CtI l yX8_amount cX8_amount 2 (some .int) { frames := 0, cells := 0, slots := 0, locals := 0 } [.int x0, .int x1] G (fun H => True) (fun r (_ : Unit) => Q r) (fun _ _ => True) (fun _ => False) := by
  unfold CtI
  refine met_start (y := yX8_amount) (maxL := 2) (av := [.int x0, .int x1]) (G := G) (P := fun H => True) (by decide) rfl (Nat.le_of_ble_eq_true rfl) (fun p e s m below meth c ls C hr hP hK hl => ?_)
  obtain ⟨hx, hb, hml, hown, hts, hlocks⟩ := id C
  have hS : va_S (fun _ => False) s.heap s.heap [] := va_S.rf
  have hl : lv_has ls 2 [(0, .int x0), (1, .int x1)] := hl
  unfold vc_X8_amount at h
  refine lv_iload_n hx hb dX8_amount_0 rfl (lv_at hl 1 rfl) ?_
  refine lv_if_ne (tgt := 11) hx hb dX8_amount_1 (by decide) (fun c1 => ?_) (fun c1 => ?_)
  · replace h := h.1 c1
    refine lv_iload_n hx hb dX8_amount_11 rfl (lv_at hl 1 rfl) ?_
    refine lv_iconst (v := 1) hx hb dX8_amount_12 (by decide) ?_
    refine lv_icmp_ne (tgt := 26) hx hb dX8_amount_13 (by decide) (fun c2 => ?_) (fun c2 => ?_)
    · replace h := h.1 c2
      refine lv_iload_n hx hb dX8_amount_26 rfl (lv_at hl 0 rfl) ?_
      refine lv_bipush (v := 10) hx hb dX8_amount_27 (by decide) ?_
      refine lv_irem hx hb dX8_amount_29 (by decide) ?_
      exact g_iret (post := fun r (_ : Unit) => Q r) (P' := fun _ _ => True) (r := (x0 - x0 / 10 * 10)) (u := ()) C hr hK hS h trivial dX8_amount_30
    · replace h := h.2 c2
      refine lv_iload_n hx hb dX8_amount_16 rfl (lv_at hl 0 rfl) ?_
      refine lv_bipush (v := 10) hx hb dX8_amount_17 (by decide) ?_
      refine lv_idiv hx hb dX8_amount_19 (by decide) ?_
      refine lv_bipush (v := 10) hx hb dX8_amount_20 (by decide) ?_
      refine lv_irem hx hb dX8_amount_22 (by decide) ?_
      refine lv_goto (tgt := 30) hx hb dX8_amount_23 (by decide) ?_
      exact g_iret (post := fun r (_ : Unit) => Q r) (P' := fun _ _ => True) (r := ((x0 / 10) - (x0 / 10) / 10 * 10)) (u := ()) C hr hK hS h trivial dX8_amount_30
  · replace h := h.2 c1
    refine lv_iload_n hx hb dX8_amount_4 rfl (lv_at hl 0 rfl) ?_
    refine lv_bipush (v := 100) hx hb dX8_amount_5 (by decide) ?_
    refine lv_idiv hx hb dX8_amount_7 (by decide) ?_
    refine lv_goto (tgt := 30) hx hb dX8_amount_8 (by decide) ?_
    exact g_iret (post := fun r (_ : Unit) => Q r) (P' := fun _ _ => True) (r := (x0 / 100)) (u := ()) C hr hK hS h trivial dX8_amount_30
theorem dX8_has_0 : decode cX8_has 0 = .ok (.iconst 1, 1) := by decide +kernel
theorem dX8_has_1 : decode cX8_has 1 = .ok (.istore_n 3, 1) := by decide +kernel
theorem dX8_has_2 : decode cX8_has 2 = .ok (.iconst 0, 1) := by decide +kernel
theorem dX8_has_3 : decode cX8_has 3 = .ok (.istore 4, 2) := by decide +kernel
theorem dX8_has_5 : decode cX8_has 5 = .ok (.iload 4, 2) := by decide +kernel
theorem dX8_has_7 : decode cX8_has 7 = .ok (.iconst 3, 1) := by decide +kernel
theorem dX8_has_8 : decode cX8_has 8 = .ok (.if_icmp .ge 42, 3) := by decide +kernel
theorem dX8_has_11 : decode cX8_has 11 = .ok (.iload_n 3, 1) := by decide +kernel
theorem dX8_has_12 : decode cX8_has 12 = .ok (.ifCond .eq 30, 3) := by decide +kernel
theorem dX8_has_15 : decode cX8_has 15 = .ok (.aload_n 0, 1) := by decide +kernel
theorem dX8_has_16 : decode cX8_has 16 = .ok (.getfield 7, 3) := by decide +kernel
theorem dX8_has_19 : decode cX8_has 19 = .ok (.bipush 8, 2) := by decide +kernel
theorem dX8_has_21 : decode cX8_has 21 = .ok (.iconst 5, 1) := by decide +kernel
theorem dX8_has_22 : decode cX8_has 22 = .ok (.iload_n 1, 1) := by decide +kernel
theorem dX8_has_23 : decode cX8_has 23 = .ok (.imul, 1) := by decide +kernel
theorem dX8_has_24 : decode cX8_has 24 = .ok (.iadd, 1) := by decide +kernel
theorem dX8_has_25 : decode cX8_has 25 = .ok (.iload 4, 2) := by decide +kernel
theorem dX8_has_27 : decode cX8_has 27 = .ok (.iadd, 1) := by decide +kernel
theorem dX8_has_28 : decode cX8_has 28 = .ok (.iaload, 1) := by decide +kernel
theorem dX8_has_29 : decode cX8_has 29 = .ok (.iload_n 2, 1) := by decide +kernel
theorem dX8_has_30 : decode cX8_has 30 = .ok (.iload 4, 2) := by decide +kernel
theorem dX8_has_32 : decode cX8_has 32 = .ok (.invokestatic 47, 3) := by decide +kernel
theorem dX8_has_35 : decode cX8_has 35 = .ok (.if_icmp .lt 7, 3) := by decide +kernel
theorem dX8_has_38 : decode cX8_has 38 = .ok (.iconst 1, 1) := by decide +kernel
theorem dX8_has_39 : decode cX8_has 39 = .ok (.goto 4, 3) := by decide +kernel
theorem dX8_has_42 : decode cX8_has 42 = .ok (.iconst 0, 1) := by decide +kernel
theorem dX8_has_43 : decode cX8_has 43 = .ok (.istore_n 3, 1) := by decide +kernel
theorem dX8_has_44 : decode cX8_has 44 = .ok (.iinc 4 1, 3) := by decide +kernel
theorem dX8_has_47 : decode cX8_has 47 = .ok (.goto (-42), 3) := by decide +kernel
theorem dX8_has_50 : decode cX8_has 50 = .ok (.iload_n 3, 1) := by decide +kernel
theorem dX8_has_51 : decode cX8_has 51 = .ok (.ireturn, 1) := by decide +kernel
def vb_X8_has_5 (Q : Int32 → Prop) (ρ : Mem) (rec : Nat → Int32 → Int32 → Int32 → Int32 → Prop) (w1 : Int32) (w2 : Int32) (w3 : Int32) (w4 : Int32) : Prop :=
  ((3 ≤ w4) → (narrow .boolean (.int w3) = .int w3 ∧ Q w3 )) ∧ ((¬ 3 ≤ w4) → (((w3 = 0) → (∀ v3 : Int32, v3 = w4 + 1 → (rec 0 w1 w2 0 v3))) ∧ ((¬ w3 = 0) → (vp_in ((8 + (5 * w1)) + w4) 164 ∧ (vc_X8_amount (fun r5 => (((ρ 1 ((8 + (5 * w1)) + w4).toNatClampNeg) < r5) → (∀ v7 : Int32, v7 = w4 + 1 → (rec 0 w1 w2 0 v7))) ∧ ((¬ (ρ 1 ((8 + (5 * w1)) + w4).toNatClampNeg) < r5) → (∀ v8 : Int32, v8 = w4 + 1 → (rec 0 w1 w2 1 v8)))) w2 w4)))))
def vl_X8_has (Q : Int32 → Prop) (ρ : Mem) : Nat → Nat → Int32 → Int32 → Int32 → Int32 → Prop
  | 0, _, _, _, _, _ => False
  | n + 1, 0, w1, w2, w3, w4 => vb_X8_has_5 Q ρ (vl_X8_has Q ρ n) w1 w2 w3 w4
  | _ + 1, _, _, _, _, _ => False
def vc_X8_has (Q : Int32 → Prop) (ρ : Mem) (x1 : Int32) (x2 : Int32) : Prop :=
  ∃ n : Nat, vl_X8_has Q ρ n 0 x1 x2 1 0
set_option maxHeartbeats 8000000 in
set_option maxRecDepth 100000 in
theorem m_X8_has (l : Launch) (G : GG) (aM : Nat) (ρ : Mem) (x1 : Int32) (x2 : Int32) (Q : Int32 → Prop) (h : vc_X8_has Q ρ x1 x2) : CtI l yX8_has cX8_has 5 (some .boolean) { frames := 1, cells := 0, slots := 0, locals := 21 } [.ref (aM + 0), .int x1, .int x2] G (fun H => rg G LM aM ρ H) (fun r (_ : Unit) => Q r) (fun _ _ => True) (fun _ => False) := by
  unfold CtI
  refine met_start (y := yX8_has) (maxL := 5) (av := [.ref (aM + 0), .int x1, .int x2]) (G := G) (P := fun H => rg G LM aM ρ H) (by decide) rfl (Nat.le_of_ble_eq_true rfl) (fun p e s m below meth c ls C hr hP hK hl => ?_)
  obtain ⟨hx, hb, hml, hown, hts, hlocks⟩ := id C
  have hM : rg G LM aM ρ s.heap := hP
  have hS : va_S (fun _ => False) s.heap s.heap [] := va_S.rf
  have hl : lv_has ls 5 [(0, .ref (aM + 0)), (1, .int x1), (2, .int x2)] := hl
  have K : ∀ n : Nat, (∀ (w1 : Int32) (w2 : Int32) (w3 : Int32) (w4 : Int32) (H : Heap) (locs : List Loc) (ls : Array Slot), rg G LM aM ρ H → va_S (fun _ => False) s.heap H locs → lv_has ls 5 [(0, .ref (aM + 0)), (1, .int w1), (2, .int w2), (3, .int w3), (4, .int w4)] → vl_X8_has Q ρ n 0 w1 w2 w3 w4 → W p l e { frames := 1, cells := 0, slots := 0, locals := 21 } s m [.ref (aM + 0), .int x1, .int x2].toArray below meth c H locs 0 0 (MQ below (va_Qi (fun r (_ : Unit) => Q r) (fun u t => (fun _ _ => True) u t.heap ∧ KK G t) (fun _ => False)) [.ref (aM + 0), .int x1, .int x2].toArray s 0 0 (fun _ => False)) (F0 m 5 ls [])) := by
    intro n
    induction n with
    | zero => exact fun _ _ _ _ _ _ _ _ _ _ h => h.elim
    | succ n ih =>
      · intro w1 w2 w3 w4 H locs ls hM hS hl h
        replace h : vb_X8_has_5 Q ρ (vl_X8_has Q ρ n) w1 w2 w3 w4 := h
        unfold vb_X8_has_5 at h
        refine lv_iload hx hb dX8_has_5 (lv_at hl 4 rfl) ?_
        refine lv_iconst (v := 3) hx hb dX8_has_7 (by decide) ?_
        refine lv_icmp_ge (tgt := 50) hx hb dX8_has_8 (by decide) (fun c1 => ?_) (fun c1 => ?_)
        · replace h := h.1 c1
          refine lv_iload_n hx hb dX8_has_50 rfl (lv_at hl 3 rfl) ?_
          exact g_zret (post := fun r (_ : Unit) => Q r) (P' := fun _ _ => True) (r := w3) (u := ()) C hr hK hS h.1 h.2 trivial dX8_has_51
        · replace h := h.2 c1
          refine lv_iload_n hx hb dX8_has_11 rfl (lv_at hl 3 rfl) ?_
          refine lv_if_eq (tgt := 42) hx hb dX8_has_12 (by decide) (fun c2 => ?_) (fun c2 => ?_)
          · replace h := h.1 c2
            refine lv_iconst (v := 0) hx hb dX8_has_42 (by decide) ?_
            refine lv_istore_n (lv' := [(3, .int 0), (0, .ref (aM + 0)), (1, .int w1), (2, .int w2), (4, .int w4)]) hx hb dX8_has_43 rfl hl (by decide) rfl (fun ls hl => ?_)
            obtain ⟨v3, ev3⟩ : ∃ y : Int32, y = w4 + 1 := ⟨_, rfl⟩
            specialize h v3 ev3
            refine lv_iinc (v := v3) (lv' := [(4, .int v3), (3, .int 0), (0, .ref (aM + 0)), (1, .int w1), (2, .int w2)]) hx hb dX8_has_44 hl (k := 4) rfl (by rw [ev3]; rfl) (by decide) rfl (fun ls hl => ?_)
            refine lv_goto (tgt := 5) hx hb dX8_has_47 (by decide) ?_
            exact (ih) w1 w2 0 v3 _ _ _ hM hS (lv_sub hl [2, 3, 4, 1, 0] rfl) h
          · replace h := h.2 c2
            refine lv_aload_n hx hb dX8_has_15 rfl (lv_at hl 0 rfl) ?_
            refine g_getR (a := aM) (k := 0) (o := 1) C hK hM fl_X8_7 rfl rfl dX8_has_16 ?_
            refine lv_bipush (v := 8) hx hb dX8_has_19 (by decide) ?_
            refine lv_iconst (v := 5) hx hb dX8_has_21 (by decide) ?_
            refine lv_iload_n hx hb dX8_has_22 rfl (lv_at hl 1 rfl) ?_
            refine lv_imul hx hb dX8_has_23 ?_
            refine lv_iadd hx hb dX8_has_24 ?_
            refine lv_iload hx hb dX8_has_25 (lv_at hl 4 rfl) ?_
            refine lv_iadd hx hb dX8_has_27 ?_
            obtain ⟨b4, h⟩ := h
            refine g_ald (a := aM) (k := 1) (n := 164) C hK hM rfl b4 dX8_has_28 ?_
            refine lv_iload_n hx hb dX8_has_29 rfl (lv_at hl 2 rfl) ?_
            refine lv_iload hx hb dX8_has_30 (lv_at hl 4 rfl) ?_
            refine g_sI C hK hl.1 (m_X8_amount l G w2 w4 _ h) mw_X8_amount ms_X8_amount ml_X8_47 rfl ⟨rfl, rfl, Nat.le_of_ble_eq_true rfl, Nat.le_of_ble_eq_true rfl⟩ ⟨Nat.zero_le _, Nat.zero_le _⟩ trivial hS (fun _ h => h.elim) rfl (Nat.le_of_ble_eq_true rfl) dX8_has_32 (fun r5 u H locs h hu _ hq hS => ?_)
            have hM := hM.past hq (fun _ _ h => h)
            refine lv_icmp_lt (tgt := 42) hx hb dX8_has_35 (by decide) (fun c6 => ?_) (fun c6 => ?_)
            · replace h := h.1 c6
              refine lv_iconst (v := 0) hx hb dX8_has_42 (by decide) ?_
              refine lv_istore_n (lv' := [(3, .int 0), (0, .ref (aM + 0)), (1, .int w1), (2, .int w2), (4, .int w4)]) hx hb dX8_has_43 rfl hl (by decide) rfl (fun ls hl => ?_)
              obtain ⟨v7, ev7⟩ : ∃ y : Int32, y = w4 + 1 := ⟨_, rfl⟩
              specialize h v7 ev7
              refine lv_iinc (v := v7) (lv' := [(4, .int v7), (3, .int 0), (0, .ref (aM + 0)), (1, .int w1), (2, .int w2)]) hx hb dX8_has_44 hl (k := 4) rfl (by rw [ev7]; rfl) (by decide) rfl (fun ls hl => ?_)
              refine lv_goto (tgt := 5) hx hb dX8_has_47 (by decide) ?_
              exact (ih) w1 w2 0 v7 _ _ _ hM hS (lv_sub hl [2, 3, 4, 1, 0] rfl) h
            · replace h := h.2 c6
              refine lv_iconst (v := 1) hx hb dX8_has_38 (by decide) ?_
              refine lv_goto (tgt := 43) hx hb dX8_has_39 (by decide) ?_
              refine lv_istore_n (lv' := [(3, .int 1), (0, .ref (aM + 0)), (1, .int w1), (2, .int w2), (4, .int w4)]) hx hb dX8_has_43 rfl hl (by decide) rfl (fun ls hl => ?_)
              obtain ⟨v8, ev8⟩ : ∃ y : Int32, y = w4 + 1 := ⟨_, rfl⟩
              specialize h v8 ev8
              refine lv_iinc (v := v8) (lv' := [(4, .int v8), (3, .int 1), (0, .ref (aM + 0)), (1, .int w1), (2, .int w2)]) hx hb dX8_has_44 hl (k := 4) rfl (by rw [ev8]; rfl) (by decide) rfl (fun ls hl => ?_)
              refine lv_goto (tgt := 5) hx hb dX8_has_47 (by decide) ?_
              exact (ih) w1 w2 1 v8 _ _ _ hM hS (lv_sub hl [2, 3, 4, 1, 0] rfl) h
  unfold vc_X8_has at h
  obtain ⟨n, h⟩ := h
  refine lv_iconst (v := 1) hx hb dX8_has_0 (by decide) ?_
  refine lv_istore_n (lv' := [(3, .int 1), (0, .ref (aM + 0)), (1, .int x1), (2, .int x2)]) hx hb dX8_has_1 rfl hl (by decide) rfl (fun ls hl => ?_)
  refine lv_iconst (v := 0) hx hb dX8_has_2 (by decide) ?_
  refine lv_istore (lv' := [(4, .int 0), (3, .int 1), (0, .ref (aM + 0)), (1, .int x1), (2, .int x2)]) hx hb dX8_has_3 hl (by decide) rfl (fun ls hl => ?_)
  exact ((K n)) x1 x2 1 0 _ _ _ hM hS (lv_sub hl [2, 3, 4, 1, 0] rfl) h
theorem dX8_pays_0 : decode cX8_pays 0 = .ok (.iconst 0, 1) := by decide +kernel
theorem dX8_pays_1 : decode cX8_pays 1 = .ok (.istore_n 3, 1) := by decide +kernel
theorem dX8_pays_2 : decode cX8_pays 2 = .ok (.iload_n 3, 1) := by decide +kernel
theorem dX8_pays_3 : decode cX8_pays 3 = .ok (.iconst 3, 1) := by decide +kernel
theorem dX8_pays_4 : decode cX8_pays 4 = .ok (.if_icmp .ge 30, 3) := by decide +kernel
theorem dX8_pays_7 : decode cX8_pays 7 = .ok (.aload_n 0, 1) := by decide +kernel
theorem dX8_pays_8 : decode cX8_pays 8 = .ok (.getfield 7, 3) := by decide +kernel
theorem dX8_pays_11 : decode cX8_pays 11 = .ok (.bipush 8, 2) := by decide +kernel
theorem dX8_pays_13 : decode cX8_pays 13 = .ok (.iconst 5, 1) := by decide +kernel
theorem dX8_pays_14 : decode cX8_pays 14 = .ok (.iload_n 1, 1) := by decide +kernel
theorem dX8_pays_15 : decode cX8_pays 15 = .ok (.imul, 1) := by decide +kernel
theorem dX8_pays_16 : decode cX8_pays 16 = .ok (.iadd, 1) := by decide +kernel
theorem dX8_pays_17 : decode cX8_pays 17 = .ok (.iload_n 3, 1) := by decide +kernel
theorem dX8_pays_18 : decode cX8_pays 18 = .ok (.iadd, 1) := by decide +kernel
theorem dX8_pays_19 : decode cX8_pays 19 = .ok (.dup2, 1) := by decide +kernel
theorem dX8_pays_20 : decode cX8_pays 20 = .ok (.iaload, 1) := by decide +kernel
theorem dX8_pays_21 : decode cX8_pays 21 = .ok (.iload_n 2, 1) := by decide +kernel
theorem dX8_pays_22 : decode cX8_pays 22 = .ok (.iload_n 3, 1) := by decide +kernel
theorem dX8_pays_23 : decode cX8_pays 23 = .ok (.invokestatic 47, 3) := by decide +kernel
theorem dX8_pays_26 : decode cX8_pays 26 = .ok (.isub, 1) := by decide +kernel
theorem dX8_pays_27 : decode cX8_pays 27 = .ok (.iastore, 1) := by decide +kernel
theorem dX8_pays_28 : decode cX8_pays 28 = .ok (.iinc 3 1, 3) := by decide +kernel
theorem dX8_pays_31 : decode cX8_pays 31 = .ok (.goto (-29), 3) := by decide +kernel
theorem dX8_pays_34 : decode cX8_pays 34 = .ok (.return_, 1) := by decide +kernel
def vb_X8_pays_2 (Q : Mem → Prop) (rec : Nat → Mem → Int32 → Int32 → Int32 → Prop) (ρ : Mem) (w1 : Int32) (w2 : Int32) (w3 : Int32) : Prop :=
  ((3 ≤ w3) → (Q ρ)) ∧ ((¬ 3 ≤ w3) → (vp_in ((8 + (5 * w1)) + w3) 164 ∧ (vc_X8_amount (fun r3 => (∀ ρ4 : Mem, ρ4 = up ρ 1 ((8 + (5 * w1)) + w3).toNatClampNeg ((ρ 1 ((8 + (5 * w1)) + w3).toNatClampNeg) - r3) → (∀ v5 : Int32, v5 = w3 + 1 → (rec 0 ρ4 w1 w2 v5)))) w2 w3)))
def vl_X8_pays (Q : Mem → Prop) : Nat → Nat → Mem → Int32 → Int32 → Int32 → Prop
  | 0, _, _, _, _, _ => False
  | n + 1, 0, ρ, w1, w2, w3 => vb_X8_pays_2 Q (vl_X8_pays Q n) ρ w1 w2 w3
  | _ + 1, _, _, _, _, _ => False
def vc_X8_pays (Q : Mem → Prop) (ρ : Mem) (x1 : Int32) (x2 : Int32) : Prop :=
  ∃ n : Nat, vl_X8_pays Q n 0 ρ x1 x2 0
set_option maxHeartbeats 8000000 in
set_option maxRecDepth 100000 in
theorem m_X8_pays (l : Launch) (G : GG) (aM : Nat) (ρ : Mem) (x1 : Int32) (x2 : Int32) (Q : Mem → Prop) (h : vc_X8_pays Q ρ x1 x2) : CtV l yX8_pays cX8_pays 4 { frames := 1, cells := 0, slots := 0, locals := 21 } [.ref (aM + 0), .int x1, .int x2] G (fun H => rg G LM aM ρ H) (Q) (fun u H => rg G LM aM u H) (RA aM 8) := by
  unfold CtV
  refine met_start (y := yX8_pays) (maxL := 4) (av := [.ref (aM + 0), .int x1, .int x2]) (G := G) (P := fun H => rg G LM aM ρ H) (by decide) rfl (Nat.le_of_ble_eq_true rfl) (fun p e s m below meth c ls C hr hP hK hl => ?_)
  obtain ⟨hx, hb, hml, hown, hts, hlocks⟩ := id C
  have hM : rg G LM aM ρ s.heap := hP
  have hS : va_S (RA aM 8) s.heap s.heap [] := va_S.rf
  have hl : lv_has ls 4 [(0, .ref (aM + 0)), (1, .int x1), (2, .int x2)] := hl
  have K : ∀ n : Nat, (∀ (ρ : Mem) (w1 : Int32) (w2 : Int32) (w3 : Int32) (H : Heap) (locs : List Loc) (ls : Array Slot), rg G LM aM ρ H → va_S (RA aM 8) s.heap H locs → lv_has ls 4 [(0, .ref (aM + 0)), (1, .int w1), (2, .int w2), (3, .int w3)] → vl_X8_pays Q n 0 ρ w1 w2 w3 → W p l e { frames := 1, cells := 0, slots := 0, locals := 21 } s m [.ref (aM + 0), .int x1, .int x2].toArray below meth c H locs 0 0 (MQ below (va_Qv (Q) (fun u t => (fun u H => rg G LM aM u H) u t.heap ∧ KK G t) (RA aM 8)) [.ref (aM + 0), .int x1, .int x2].toArray s 0 0 (RA aM 8)) (F0 m 2 ls [])) := by
    intro n
    induction n with
    | zero => exact fun _ _ _ _ _ _ _ _ _ _ h => h.elim
    | succ n ih =>
      · intro ρ w1 w2 w3 H locs ls hM hS hl h
        replace h : vb_X8_pays_2 Q (vl_X8_pays Q n) ρ w1 w2 w3 := h
        unfold vb_X8_pays_2 at h
        refine lv_iload_n hx hb dX8_pays_2 rfl (lv_at hl 3 rfl) ?_
        refine lv_iconst (v := 3) hx hb dX8_pays_3 (by decide) ?_
        refine lv_icmp_ge (tgt := 34) hx hb dX8_pays_4 (by decide) (fun c1 => ?_) (fun c1 => ?_)
        · replace h := h.1 c1
          exact g_vret (post := Q) (P' := fun u H => rg G LM aM u H) (u := ρ) C hr hK hS h hM dX8_pays_34
        · replace h := h.2 c1
          refine lv_aload_n hx hb dX8_pays_7 rfl (lv_at hl 0 rfl) ?_
          refine g_getR (a := aM) (k := 0) (o := 1) C hK hM fl_X8_7 rfl rfl dX8_pays_8 ?_
          refine lv_bipush (v := 8) hx hb dX8_pays_11 (by decide) ?_
          refine lv_iconst (v := 5) hx hb dX8_pays_13 (by decide) ?_
          refine lv_iload_n hx hb dX8_pays_14 rfl (lv_at hl 1 rfl) ?_
          refine lv_imul hx hb dX8_pays_15 ?_
          refine lv_iadd hx hb dX8_pays_16 ?_
          refine lv_iload_n hx hb dX8_pays_17 rfl (lv_at hl 3 rfl) ?_
          refine lv_iadd hx hb dX8_pays_18 ?_
          refine lv_dup2_11 hx hb dX8_pays_19 rfl rfl ?_
          obtain ⟨b2, h⟩ := h
          refine g_ald (a := aM) (k := 1) (n := 164) C hK hM rfl b2 dX8_pays_20 ?_
          refine lv_iload_n hx hb dX8_pays_21 rfl (lv_at hl 2 rfl) ?_
          refine lv_iload_n hx hb dX8_pays_22 rfl (lv_at hl 3 rfl) ?_
          refine g_sI C hK hl.1 (m_X8_amount l G w2 w3 _ h) mw_X8_amount ms_X8_amount ml_X8_47 rfl ⟨rfl, rfl, Nat.le_of_ble_eq_true rfl, Nat.le_of_ble_eq_true rfl⟩ ⟨Nat.zero_le _, Nat.zero_le _⟩ trivial hS (fun _ h => h.elim) rfl (Nat.le_of_ble_eq_true rfl) dX8_pays_23 (fun r3 u H locs h hu _ hq hS => ?_)
          have hM := hM.past hq (fun _ _ h => h)
          refine lv_isub hx hb dX8_pays_26 ?_
          refine g_ast (a := aM) (k := 1) (n := 164) C hK hM hS rfl b2 (RA_in (by decide)) dX8_pays_27 (fun ρ4 H locs eρ4 hM hS hq => ?_)
          specialize h ρ4 eρ4
          obtain ⟨v5, ev5⟩ : ∃ y : Int32, y = w3 + 1 := ⟨_, rfl⟩
          specialize h v5 ev5
          refine lv_iinc (v := v5) (lv' := [(3, .int v5), (0, .ref (aM + 0)), (1, .int w1), (2, .int w2)]) hx hb dX8_pays_28 hl (k := 3) rfl (by rw [ev5]; rfl) (by decide) rfl (fun ls hl => ?_)
          refine lv_goto (tgt := 2) hx hb dX8_pays_31 (by decide) ?_
          exact (ih) ρ4 w1 w2 v5 _ _ _ hM hS (lv_sub hl [1, 2, 3, 0] rfl) h
  unfold vc_X8_pays at h
  obtain ⟨n, h⟩ := h
  refine lv_iconst (v := 0) hx hb dX8_pays_0 (by decide) ?_
  refine lv_istore_n (lv' := [(3, .int 0), (0, .ref (aM + 0)), (1, .int x1), (2, .int x2)]) hx hb dX8_pays_1 rfl hl (by decide) rfl (fun ls hl => ?_)
  exact ((K n)) ρ x1 x2 0 _ _ _ hM hS (lv_sub hl [1, 2, 3, 0] rfl) h
theorem dX8_player_0 : decode cX8_player 0 = .ok (.aload_n 0, 1) := by decide +kernel
theorem dX8_player_1 : decode cX8_player 1 = .ok (.getfield 7, 3) := by decide +kernel
theorem dX8_player_4 : decode cX8_player 4 = .ok (.iconst 0, 1) := by decide +kernel
theorem dX8_player_5 : decode cX8_player 5 = .ok (.iaload, 1) := by decide +kernel
theorem dX8_player_6 : decode cX8_player 6 = .ok (.istore_n 1, 1) := by decide +kernel
theorem dX8_player_7 : decode cX8_player 7 = .ok (.iload_n 1, 1) := by decide +kernel
theorem dX8_player_8 : decode cX8_player 8 = .ok (.iconst 4, 1) := by decide +kernel
theorem dX8_player_9 : decode cX8_player 9 = .ok (.if_icmp .ne 6, 3) := by decide +kernel
theorem dX8_player_12 : decode cX8_player 12 = .ok (.ldc 51, 2) := by decide +kernel
theorem dX8_player_14 : decode cX8_player 14 = .ok (.ireturn, 1) := by decide +kernel
theorem dX8_player_15 : decode cX8_player 15 = .ok (.aload_n 0, 1) := by decide +kernel
theorem dX8_player_16 : decode cX8_player 16 = .ok (.invokevirtual 52, 3) := by decide +kernel
theorem dX8_player_19 : decode cX8_player 19 = .ok (.iconst 0, 1) := by decide +kernel
theorem dX8_player_20 : decode cX8_player 20 = .ok (.istore_n 2, 1) := by decide +kernel
theorem dX8_player_21 : decode cX8_player 21 = .ok (.iload_n 2, 1) := by decide +kernel
theorem dX8_player_22 : decode cX8_player 22 = .ok (.iconst 3, 1) := by decide +kernel
theorem dX8_player_23 : decode cX8_player 23 = .ok (.if_icmp .ge 69, 3) := by decide +kernel
theorem dX8_player_26 : decode cX8_player 26 = .ok (.aload_n 0, 1) := by decide +kernel
theorem dX8_player_27 : decode cX8_player 27 = .ok (.getfield 7, 3) := by decide +kernel
theorem dX8_player_30 : decode cX8_player 30 = .ok (.bipush 8, 2) := by decide +kernel
theorem dX8_player_32 : decode cX8_player 32 = .ok (.iconst 5, 1) := by decide +kernel
theorem dX8_player_33 : decode cX8_player 33 = .ok (.iload_n 1, 1) := by decide +kernel
theorem dX8_player_34 : decode cX8_player 34 = .ok (.imul, 1) := by decide +kernel
theorem dX8_player_35 : decode cX8_player 35 = .ok (.iadd, 1) := by decide +kernel
theorem dX8_player_36 : decode cX8_player 36 = .ok (.iload_n 2, 1) := by decide +kernel
theorem dX8_player_37 : decode cX8_player 37 = .ok (.iadd, 1) := by decide +kernel
theorem dX8_player_38 : decode cX8_player 38 = .ok (.iconst 5, 1) := by decide +kernel
theorem dX8_player_39 : decode cX8_player 39 = .ok (.iastore, 1) := by decide +kernel
theorem dX8_player_40 : decode cX8_player 40 = .ok (.aload_n 0, 1) := by decide +kernel
theorem dX8_player_41 : decode cX8_player 41 = .ok (.getfield 7, 3) := by decide +kernel
theorem dX8_player_44 : decode cX8_player 44 = .ok (.bipush 28, 2) := by decide +kernel
theorem dX8_player_46 : decode cX8_player 46 = .ok (.bipush 21, 2) := by decide +kernel
theorem dX8_player_48 : decode cX8_player 48 = .ok (.iload_n 1, 1) := by decide +kernel
theorem dX8_player_49 : decode cX8_player 49 = .ok (.imul, 1) := by decide +kernel
theorem dX8_player_50 : decode cX8_player 50 = .ok (.iadd, 1) := by decide +kernel
theorem dX8_player_51 : decode cX8_player 51 = .ok (.bipush 7, 2) := by decide +kernel
theorem dX8_player_53 : decode cX8_player 53 = .ok (.iload_n 2, 1) := by decide +kernel
theorem dX8_player_54 : decode cX8_player 54 = .ok (.imul, 1) := by decide +kernel
theorem dX8_player_55 : decode cX8_player 55 = .ok (.iadd, 1) := by decide +kernel
theorem dX8_player_56 : decode cX8_player 56 = .ok (.iconst 0, 1) := by decide +kernel
theorem dX8_player_57 : decode cX8_player 57 = .ok (.iadd, 1) := by decide +kernel
theorem dX8_player_58 : decode cX8_player 58 = .ok (.bipush 30, 2) := by decide +kernel
theorem dX8_player_60 : decode cX8_player 60 = .ok (.iload_n 2, 1) := by decide +kernel
theorem dX8_player_61 : decode cX8_player 61 = .ok (.imul, 1) := by decide +kernel
theorem dX8_player_62 : decode cX8_player 62 = .ok (.bipush 30, 2) := by decide +kernel
theorem dX8_player_64 : decode cX8_player 64 = .ok (.iadd, 1) := by decide +kernel
theorem dX8_player_65 : decode cX8_player 65 = .ok (.iastore, 1) := by decide +kernel
theorem dX8_player_66 : decode cX8_player 66 = .ok (.aload_n 0, 1) := by decide +kernel
theorem dX8_player_67 : decode cX8_player 67 = .ok (.getfield 7, 3) := by decide +kernel
theorem dX8_player_70 : decode cX8_player 70 = .ok (.bipush 28, 2) := by decide +kernel
theorem dX8_player_72 : decode cX8_player 72 = .ok (.bipush 21, 2) := by decide +kernel
theorem dX8_player_74 : decode cX8_player 74 = .ok (.iload_n 1, 1) := by decide +kernel
theorem dX8_player_75 : decode cX8_player 75 = .ok (.imul, 1) := by decide +kernel
theorem dX8_player_76 : decode cX8_player 76 = .ok (.iadd, 1) := by decide +kernel
theorem dX8_player_77 : decode cX8_player 77 = .ok (.bipush 7, 2) := by decide +kernel
theorem dX8_player_79 : decode cX8_player 79 = .ok (.iload_n 2, 1) := by decide +kernel
theorem dX8_player_80 : decode cX8_player 80 = .ok (.imul, 1) := by decide +kernel
theorem dX8_player_81 : decode cX8_player 81 = .ok (.iadd, 1) := by decide +kernel
theorem dX8_player_82 : decode cX8_player 82 = .ok (.iconst 1, 1) := by decide +kernel
theorem dX8_player_83 : decode cX8_player 83 = .ok (.iadd, 1) := by decide +kernel
theorem dX8_player_84 : decode cX8_player 84 = .ok (.iconst (-1), 1) := by decide +kernel
theorem dX8_player_85 : decode cX8_player 85 = .ok (.iastore, 1) := by decide +kernel
theorem dX8_player_86 : decode cX8_player 86 = .ok (.iinc 2 1, 3) := by decide +kernel
theorem dX8_player_89 : decode cX8_player 89 = .ok (.goto (-68), 3) := by decide +kernel
theorem dX8_player_92 : decode cX8_player 92 = .ok (.aload_n 0, 1) := by decide +kernel
theorem dX8_player_93 : decode cX8_player 93 = .ok (.getfield 7, 3) := by decide +kernel
theorem dX8_player_96 : decode cX8_player 96 = .ok (.iconst 0, 1) := by decide +kernel
theorem dX8_player_97 : decode cX8_player 97 = .ok (.dup2, 1) := by decide +kernel
theorem dX8_player_98 : decode cX8_player 98 = .ok (.iaload, 1) := by decide +kernel
theorem dX8_player_99 : decode cX8_player 99 = .ok (.iconst 1, 1) := by decide +kernel
theorem dX8_player_100 : decode cX8_player 100 = .ok (.iadd, 1) := by decide +kernel
theorem dX8_player_101 : decode cX8_player 101 = .ok (.iastore, 1) := by decide +kernel
theorem dX8_player_102 : decode cX8_player 102 = .ok (.iload_n 1, 1) := by decide +kernel
theorem dX8_player_103 : decode cX8_player 103 = .ok (.ireturn, 1) := by decide +kernel
def vb_X8_player_21 (Q : Int32 → Mem → Prop) (rec : Nat → Mem → Int32 → Int32 → Prop) (ρ : Mem) (w1 : Int32) (w2 : Int32) : Prop :=
  ((3 ≤ w2) → (((∀ ρ6 : Mem, ρ6 = up ρ 1 (0 : Int32).toNatClampNeg ((ρ 1 (0 : Int32).toNatClampNeg) + 1) → (Q w1 ρ6))))) ∧ ((¬ 3 ≤ w2) → (vp_in ((8 + (5 * w1)) + w2) 164 ∧ (∀ ρ8 : Mem, ρ8 = up ρ 1 ((8 + (5 * w1)) + w2).toNatClampNeg 5 → (vp_in (((28 + (21 * w1)) + (7 * w2)) + 0) 164 ∧ (∀ ρ10 : Mem, ρ10 = up ρ8 1 (((28 + (21 * w1)) + (7 * w2)) + 0).toNatClampNeg ((30 * w2) + 30) → (vp_in (((28 + (21 * w1)) + (7 * w2)) + 1) 164 ∧ (∀ ρ12 : Mem, ρ12 = up ρ10 1 (((28 + (21 * w1)) + (7 * w2)) + 1).toNatClampNeg (-1) → (∀ v13 : Int32, v13 = w2 + 1 → (rec 0 ρ12 w1 v13)))))))))
def vl_X8_player (Q : Int32 → Mem → Prop) : Nat → Nat → Mem → Int32 → Int32 → Prop
  | 0, _, _, _, _ => False
  | n + 1, 0, ρ, w1, w2 => vb_X8_player_21 Q (vl_X8_player Q n) ρ w1 w2
  | _ + 1, _, _, _, _ => False
def vc_X8_player (Q : Int32 → Mem → Prop) (ρ : Mem) : Prop :=
  ∃ n : Nat, (∀ v1 : Int32, v1 = (ρ 1 (0 : Int32).toNatClampNeg) → (((¬ v1 = 4) → (vc_X8_changes (fun ρ4 => vl_X8_player Q n 0 ρ4 v1 0) ρ)) ∧ ((v1 = 4) → (Q (-1000003) ρ))))
set_option maxHeartbeats 8000000 in
set_option maxRecDepth 100000 in
theorem m_X8_player (l : Launch) (G : GG) (aM : Nat) (ρ : Mem) (Q : Int32 → Mem → Prop) (h : vc_X8_player Q ρ) : CtI l yX8_player cX8_player 3 (some .int) { frames := 1, cells := 0, slots := 0, locals := 21 } [.ref (aM + 0)] G (fun H => rg G LM aM ρ H) (Q) (fun u H => rg G LM aM u H) (RA aM 8) := by
  unfold CtI
  refine met_start (y := yX8_player) (maxL := 3) (av := [.ref (aM + 0)]) (G := G) (P := fun H => rg G LM aM ρ H) (by decide) rfl (Nat.le_of_ble_eq_true rfl) (fun p e s m below meth c ls C hr hP hK hl => ?_)
  obtain ⟨hx, hb, hml, hown, hts, hlocks⟩ := id C
  have hM : rg G LM aM ρ s.heap := hP
  have hS : va_S (RA aM 8) s.heap s.heap [] := va_S.rf
  have hl : lv_has ls 3 [(0, .ref (aM + 0))] := hl
  have K : ∀ n : Nat, (∀ (ρ : Mem) (w1 : Int32) (w2 : Int32) (H : Heap) (locs : List Loc) (ls : Array Slot), rg G LM aM ρ H → va_S (RA aM 8) s.heap H locs → lv_has ls 3 [(0, .ref (aM + 0)), (1, .int w1), (2, .int w2)] → vl_X8_player Q n 0 ρ w1 w2 → W p l e { frames := 1, cells := 0, slots := 0, locals := 21 } s m [.ref (aM + 0)].toArray below meth c H locs 0 0 (MQ below (va_Qi (Q) (fun u t => (fun u H => rg G LM aM u H) u t.heap ∧ KK G t) (RA aM 8)) [.ref (aM + 0)].toArray s 0 0 (RA aM 8)) (F0 m 21 ls [])) := by
    intro n
    induction n with
    | zero => exact fun _ _ _ _ _ _ _ _ _ h => h.elim
    | succ n ih =>
      · intro ρ w1 w2 H locs ls hM hS hl h
        replace h : vb_X8_player_21 Q (vl_X8_player Q n) ρ w1 w2 := h
        unfold vb_X8_player_21 at h
        refine lv_iload_n hx hb dX8_player_21 rfl (lv_at hl 2 rfl) ?_
        refine lv_iconst (v := 3) hx hb dX8_player_22 (by decide) ?_
        refine lv_icmp_ge (tgt := 92) hx hb dX8_player_23 (by decide) (fun c5 => ?_) (fun c5 => ?_)
        · replace h := h.1 c5
          refine lv_aload_n hx hb dX8_player_92 rfl (lv_at hl 0 rfl) ?_
          refine g_getR (a := aM) (k := 0) (o := 1) C hK hM fl_X8_7 rfl rfl dX8_player_93 ?_
          refine lv_iconst (v := 0) hx hb dX8_player_96 (by decide) ?_
          refine lv_dup2_11 hx hb dX8_player_97 rfl rfl ?_
          refine g_ald (a := aM) (k := 1) (n := 164) C hK hM rfl (vp_dec (by decide)) dX8_player_98 ?_
          refine lv_iconst (v := 1) hx hb dX8_player_99 (by decide) ?_
          refine lv_iadd hx hb dX8_player_100 ?_
          refine g_ast (a := aM) (k := 1) (n := 164) C hK hM hS rfl (vp_dec (by decide)) (RA_in (by decide)) dX8_player_101 (fun ρ6 H locs eρ6 hM hS hq => ?_)
          specialize h ρ6 eρ6
          refine lv_iload_n hx hb dX8_player_102 rfl (lv_at hl 1 rfl) ?_
          exact g_iret (post := Q) (P' := fun u H => rg G LM aM u H) (r := w1) (u := ρ6) C hr hK hS h hM dX8_player_103
        · replace h := h.2 c5
          refine lv_aload_n hx hb dX8_player_26 rfl (lv_at hl 0 rfl) ?_
          refine g_getR (a := aM) (k := 0) (o := 1) C hK hM fl_X8_7 rfl rfl dX8_player_27 ?_
          refine lv_bipush (v := 8) hx hb dX8_player_30 (by decide) ?_
          refine lv_iconst (v := 5) hx hb dX8_player_32 (by decide) ?_
          refine lv_iload_n hx hb dX8_player_33 rfl (lv_at hl 1 rfl) ?_
          refine lv_imul hx hb dX8_player_34 ?_
          refine lv_iadd hx hb dX8_player_35 ?_
          refine lv_iload_n hx hb dX8_player_36 rfl (lv_at hl 2 rfl) ?_
          refine lv_iadd hx hb dX8_player_37 ?_
          refine lv_iconst (v := 5) hx hb dX8_player_38 (by decide) ?_
          obtain ⟨b7, h⟩ := h
          refine g_ast (a := aM) (k := 1) (n := 164) C hK hM hS rfl b7 (RA_in (by decide)) dX8_player_39 (fun ρ8 H locs eρ8 hM hS hq => ?_)
          specialize h ρ8 eρ8
          refine lv_aload_n hx hb dX8_player_40 rfl (lv_at hl 0 rfl) ?_
          refine g_getR (a := aM) (k := 0) (o := 1) C hK hM fl_X8_7 rfl rfl dX8_player_41 ?_
          refine lv_bipush (v := 28) hx hb dX8_player_44 (by decide) ?_
          refine lv_bipush (v := 21) hx hb dX8_player_46 (by decide) ?_
          refine lv_iload_n hx hb dX8_player_48 rfl (lv_at hl 1 rfl) ?_
          refine lv_imul hx hb dX8_player_49 ?_
          refine lv_iadd hx hb dX8_player_50 ?_
          refine lv_bipush (v := 7) hx hb dX8_player_51 (by decide) ?_
          refine lv_iload_n hx hb dX8_player_53 rfl (lv_at hl 2 rfl) ?_
          refine lv_imul hx hb dX8_player_54 ?_
          refine lv_iadd hx hb dX8_player_55 ?_
          refine lv_iconst (v := 0) hx hb dX8_player_56 (by decide) ?_
          refine lv_iadd hx hb dX8_player_57 ?_
          refine lv_bipush (v := 30) hx hb dX8_player_58 (by decide) ?_
          refine lv_iload_n hx hb dX8_player_60 rfl (lv_at hl 2 rfl) ?_
          refine lv_imul hx hb dX8_player_61 ?_
          refine lv_bipush (v := 30) hx hb dX8_player_62 (by decide) ?_
          refine lv_iadd hx hb dX8_player_64 ?_
          obtain ⟨b9, h⟩ := h
          refine g_ast (a := aM) (k := 1) (n := 164) C hK hM hS rfl b9 (RA_in (by decide)) dX8_player_65 (fun ρ10 H locs eρ10 hM hS hq => ?_)
          specialize h ρ10 eρ10
          refine lv_aload_n hx hb dX8_player_66 rfl (lv_at hl 0 rfl) ?_
          refine g_getR (a := aM) (k := 0) (o := 1) C hK hM fl_X8_7 rfl rfl dX8_player_67 ?_
          refine lv_bipush (v := 28) hx hb dX8_player_70 (by decide) ?_
          refine lv_bipush (v := 21) hx hb dX8_player_72 (by decide) ?_
          refine lv_iload_n hx hb dX8_player_74 rfl (lv_at hl 1 rfl) ?_
          refine lv_imul hx hb dX8_player_75 ?_
          refine lv_iadd hx hb dX8_player_76 ?_
          refine lv_bipush (v := 7) hx hb dX8_player_77 (by decide) ?_
          refine lv_iload_n hx hb dX8_player_79 rfl (lv_at hl 2 rfl) ?_
          refine lv_imul hx hb dX8_player_80 ?_
          refine lv_iadd hx hb dX8_player_81 ?_
          refine lv_iconst (v := 1) hx hb dX8_player_82 (by decide) ?_
          refine lv_iadd hx hb dX8_player_83 ?_
          refine lv_iconst (v := (-1)) hx hb dX8_player_84 (by decide) ?_
          obtain ⟨b11, h⟩ := h
          refine g_ast (a := aM) (k := 1) (n := 164) C hK hM hS rfl b11 (RA_in (by decide)) dX8_player_85 (fun ρ12 H locs eρ12 hM hS hq => ?_)
          specialize h ρ12 eρ12
          obtain ⟨v13, ev13⟩ : ∃ y : Int32, y = w2 + 1 := ⟨_, rfl⟩
          specialize h v13 ev13
          refine lv_iinc (v := v13) (lv' := [(2, .int v13), (0, .ref (aM + 0)), (1, .int w1)]) hx hb dX8_player_86 hl (k := 2) rfl (by rw [ev13]; rfl) (by decide) rfl (fun ls hl => ?_)
          refine lv_goto (tgt := 21) hx hb dX8_player_89 (by decide) ?_
          exact (ih) ρ12 w1 v13 _ _ _ hM hS (lv_sub hl [1, 2, 0] rfl) h
  unfold vc_X8_player at h
  obtain ⟨n, h⟩ := h
  refine lv_aload_n hx hb dX8_player_0 rfl (lv_at hl 0 rfl) ?_
  refine g_getR (a := aM) (k := 0) (o := 1) C hK hM fl_X8_7 rfl rfl dX8_player_1 ?_
  refine lv_iconst (v := 0) hx hb dX8_player_4 (by decide) ?_
  refine g_ald (a := aM) (k := 1) (n := 164) C hK hM rfl (vp_dec (by decide)) dX8_player_5 ?_
  refine lv_topi (fun v1 ev1 => ?_)
  specialize h v1 ev1
  refine lv_istore_n (lv' := [(1, .int v1), (0, .ref (aM + 0))]) hx hb dX8_player_6 rfl hl (by decide) rfl (fun ls hl => ?_)
  refine lv_iload_n hx hb dX8_player_7 rfl (lv_at hl 0 rfl) ?_
  refine lv_iconst (v := 4) hx hb dX8_player_8 (by decide) ?_
  refine lv_icmp_ne (tgt := 15) hx hb dX8_player_9 (by decide) (fun c2 => ?_) (fun c2 => ?_)
  · replace h := h.1 c2
    refine lv_aload_n hx hb dX8_player_15 rfl (lv_at hl 1 rfl) ?_
    refine g_vV C hK hl.1 (m_X8_changes l G aM ρ _ h) mw_X8_changes mi_X8_changes ml_X8_52 rfl ⟨rfl, rfl, Nat.le_of_ble_eq_true rfl, Nat.le_of_ble_eq_true rfl⟩ ⟨Nat.zero_le _, Nat.zero_le _⟩ (g_recv (a := aM) (k := 0) hK hM rfl rfl) hM hS (fun _ h => h) rfl (Nat.le_of_ble_eq_true rfl) dX8_player_16 (fun u H locs h hu _ hq hS => ?_)
    obtain ⟨ρ4, rfl⟩ : ∃ z, z = u := ⟨_, rfl⟩
    have hM := hu
    refine lv_iconst (v := 0) hx hb dX8_player_19 (by decide) ?_
    refine lv_istore_n (lv' := [(2, .int 0), (1, .int v1), (0, .ref (aM + 0))]) hx hb dX8_player_20 rfl hl (by decide) rfl (fun ls hl => ?_)
    exact ((K n)) ρ4 v1 0 _ _ _ hM hS (lv_sub hl [2, 1, 0] rfl) h
  · replace h := h.2 c2
    refine g_ldc C kc_X8_51 dX8_player_12 ?_
    exact g_iret (post := Q) (P' := fun u H => rg G LM aM u H) (r := (-1000003)) (u := ρ) C hr hK hS h hM dX8_player_14
