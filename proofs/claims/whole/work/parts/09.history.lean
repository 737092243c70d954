theorem dX3_dropOldest_0 : decode cX3_dropOldest 0 = .ok (.aload_n 0, 1) := by decide +kernel
theorem dX3_dropOldest_1 : decode cX3_dropOldest 1 = .ok (.getfield 11, 3) := by decide +kernel
theorem dX3_dropOldest_4 : decode cX3_dropOldest 4 = .ok (.iconst 0, 1) := by decide +kernel
theorem dX3_dropOldest_5 : decode cX3_dropOldest 5 = .ok (.aaload, 1) := by decide +kernel
theorem dX3_dropOldest_6 : decode cX3_dropOldest 6 = .ok (.astore_n 1, 1) := by decide +kernel
theorem dX3_dropOldest_7 : decode cX3_dropOldest 7 = .ok (.iconst 0, 1) := by decide +kernel
theorem dX3_dropOldest_8 : decode cX3_dropOldest 8 = .ok (.istore_n 2, 1) := by decide +kernel
theorem dX3_dropOldest_9 : decode cX3_dropOldest 9 = .ok (.iload_n 2, 1) := by decide +kernel
theorem dX3_dropOldest_10 : decode cX3_dropOldest 10 = .ok (.iconst 3, 1) := by decide +kernel
theorem dX3_dropOldest_11 : decode cX3_dropOldest 11 = .ok (.if_icmp .ge 23, 3) := by decide +kernel
theorem dX3_dropOldest_14 : decode cX3_dropOldest 14 = .ok (.aload_n 0, 1) := by decide +kernel
theorem dX3_dropOldest_15 : decode cX3_dropOldest 15 = .ok (.getfield 11, 3) := by decide +kernel
theorem dX3_dropOldest_18 : decode cX3_dropOldest 18 = .ok (.iload_n 2, 1) := by decide +kernel
theorem dX3_dropOldest_19 : decode cX3_dropOldest 19 = .ok (.aload_n 0, 1) := by decide +kernel
theorem dX3_dropOldest_20 : decode cX3_dropOldest 20 = .ok (.getfield 11, 3) := by decide +kernel
theorem dX3_dropOldest_23 : decode cX3_dropOldest 23 = .ok (.iload_n 2, 1) := by decide +kernel
theorem dX3_dropOldest_24 : decode cX3_dropOldest 24 = .ok (.iconst 1, 1) := by decide +kernel
theorem dX3_dropOldest_25 : decode cX3_dropOldest 25 = .ok (.iadd, 1) := by decide +kernel
theorem dX3_dropOldest_26 : decode cX3_dropOldest 26 = .ok (.aaload, 1) := by decide +kernel
theorem dX3_dropOldest_27 : decode cX3_dropOldest 27 = .ok (.aastore, 1) := by decide +kernel
theorem dX3_dropOldest_28 : decode cX3_dropOldest 28 = .ok (.iinc 2 1, 3) := by decide +kernel
theorem dX3_dropOldest_31 : decode cX3_dropOldest 31 = .ok (.goto (-22), 3) := by decide +kernel
theorem dX3_dropOldest_34 : decode cX3_dropOldest 34 = .ok (.aload_n 0, 1) := by decide +kernel
theorem dX3_dropOldest_35 : decode cX3_dropOldest 35 = .ok (.getfield 11, 3) := by decide +kernel
theorem dX3_dropOldest_38 : decode cX3_dropOldest 38 = .ok (.iconst 3, 1) := by decide +kernel
theorem dX3_dropOldest_39 : decode cX3_dropOldest 39 = .ok (.aload_n 1, 1) := by decide +kernel
theorem dX3_dropOldest_40 : decode cX3_dropOldest 40 = .ok (.aastore, 1) := by decide +kernel
theorem dX3_dropOldest_41 : decode cX3_dropOldest 41 = .ok (.aload_n 0, 1) := by decide +kernel
theorem dX3_dropOldest_42 : decode cX3_dropOldest 42 = .ok (.dup, 1) := by decide +kernel
theorem dX3_dropOldest_43 : decode cX3_dropOldest 43 = .ok (.getfield 18, 3) := by decide +kernel
theorem dX3_dropOldest_46 : decode cX3_dropOldest 46 = .ok (.iconst 1, 1) := by decide +kernel
theorem dX3_dropOldest_47 : decode cX3_dropOldest 47 = .ok (.isub, 1) := by decide +kernel
theorem dX3_dropOldest_48 : decode cX3_dropOldest 48 = .ok (.putfield 18, 3) := by decide +kernel
theorem dX3_dropOldest_51 : decode cX3_dropOldest 51 = .ok (.return_, 1) := by decide +kernel
theorem dX3_record_0 : decode cX3_record 0 = .ok (.aload_n 0, 1) := by decide +kernel
theorem dX3_record_1 : decode cX3_record 1 = .ok (.getfield 18, 3) := by decide +kernel
theorem dX3_record_4 : decode cX3_record 4 = .ok (.iconst 4, 1) := by decide +kernel
theorem dX3_record_5 : decode cX3_record 5 = .ok (.if_icmp .lt 7, 3) := by decide +kernel
theorem dX3_record_8 : decode cX3_record 8 = .ok (.aload_n 0, 1) := by decide +kernel
theorem dX3_record_9 : decode cX3_record 9 = .ok (.invokevirtual 22, 3) := by decide +kernel
theorem dX3_record_12 : decode cX3_record 12 = .ok (.aload_n 0, 1) := by decide +kernel
theorem dX3_record_13 : decode cX3_record 13 = .ok (.getfield 11, 3) := by decide +kernel
theorem dX3_record_16 : decode cX3_record 16 = .ok (.aload_n 0, 1) := by decide +kernel
theorem dX3_record_17 : decode cX3_record 17 = .ok (.getfield 18, 3) := by decide +kernel
theorem dX3_record_20 : decode cX3_record 20 = .ok (.aaload, 1) := by decide +kernel
theorem dX3_record_21 : decode cX3_record 21 = .ok (.aload_n 1, 1) := by decide +kernel
theorem dX3_record_22 : decode cX3_record 22 = .ok (.invokevirtual 25, 3) := by decide +kernel
theorem dX3_record_25 : decode cX3_record 25 = .ok (.aload_n 0, 1) := by decide +kernel
theorem dX3_record_26 : decode cX3_record 26 = .ok (.dup, 1) := by decide +kernel
theorem dX3_record_27 : decode cX3_record 27 = .ok (.getfield 18, 3) := by decide +kernel
theorem dX3_record_30 : decode cX3_record 30 = .ok (.iconst 1, 1) := by decide +kernel
theorem dX3_record_31 : decode cX3_record 31 = .ok (.iadd, 1) := by decide +kernel
theorem dX3_record_32 : decode cX3_record 32 = .ok (.putfield 18, 3) := by decide +kernel
theorem dX3_record_35 : decode cX3_record 35 = .ok (.return_, 1) := by decide +kernel
theorem dX3_restore_0 : decode cX3_restore 0 = .ok (.aload_n 0, 1) := by decide +kernel
theorem dX3_restore_1 : decode cX3_restore 1 = .ok (.getfield 18, 3) := by decide +kernel
theorem dX3_restore_4 : decode cX3_restore 4 = .ok (.ifCond .gt 6, 3) := by decide +kernel
theorem dX3_restore_7 : decode cX3_restore 7 = .ok (.ldc 29, 2) := by decide +kernel
theorem dX3_restore_9 : decode cX3_restore 9 = .ok (.ireturn, 1) := by decide +kernel
theorem dX3_restore_10 : decode cX3_restore 10 = .ok (.aload_n 0, 1) := by decide +kernel
theorem dX3_restore_11 : decode cX3_restore 11 = .ok (.dup, 1) := by decide +kernel
theorem dX3_restore_12 : decode cX3_restore 12 = .ok (.getfield 18, 3) := by decide +kernel
theorem dX3_restore_15 : decode cX3_restore 15 = .ok (.iconst 1, 1) := by decide +kernel
theorem dX3_restore_16 : decode cX3_restore 16 = .ok (.isub, 1) := by decide +kernel
theorem dX3_restore_17 : decode cX3_restore 17 = .ok (.putfield 18, 3) := by decide +kernel
theorem dX3_restore_20 : decode cX3_restore 20 = .ok (.aload_n 1, 1) := by decide +kernel
theorem dX3_restore_21 : decode cX3_restore 21 = .ok (.aload_n 0, 1) := by decide +kernel
theorem dX3_restore_22 : decode cX3_restore 22 = .ok (.getfield 11, 3) := by decide +kernel
theorem dX3_restore_25 : decode cX3_restore 25 = .ok (.aload_n 0, 1) := by decide +kernel
theorem dX3_restore_26 : decode cX3_restore 26 = .ok (.getfield 18, 3) := by decide +kernel
theorem dX3_restore_29 : decode cX3_restore 29 = .ok (.aaload, 1) := by decide +kernel
theorem dX3_restore_30 : decode cX3_restore 30 = .ok (.invokevirtual 25, 3) := by decide +kernel
theorem dX3_restore_33 : decode cX3_restore 33 = .ok (.aload_n 0, 1) := by decide +kernel
theorem dX3_restore_34 : decode cX3_restore 34 = .ok (.getfield 18, 3) := by decide +kernel
theorem dX3_restore_37 : decode cX3_restore 37 = .ok (.ireturn, 1) := by decide +kernel
/-! the history: its games stand behind it, in an order that turns -/
def HG (G : GG) (q : Nat) (σ : Nat → Mem) (H : Heap) : Prop := ∃ b : Nat → Nat, H[q]? = some (vp_cell G.2.2 (4, .inr (.inr (.inr (.inr (fun j => some (b j))))))) ∧ (∀ j, j < 4 → rg G LG (b j) (σ j) H) ∧ (∀ j, j < 4 → ∃ i, i < 4 ∧ b j = q + 1 + 22 * i) ∧ (∀ i j, i < 4 → j < 4 → b i = b j → i = j)
theorem HG.kept {G : GG} {q : Nat} {σ : Nat → Mem} {H H1 : Heap} (h : HG G q σ H) (hq : ∀ k, k < 89 → H1[q + k]? = H[q + k]?) : HG G q σ H1 := by
  obtain ⟨b, h1, h2, h3, h4⟩ := h
  refine ⟨b, (show H1[q]? = H[q]? from hq 0 (by omega)).trans h1, fun j hj => (h2 j hj).kept (fun k hk => ?_), h3, h4⟩
  obtain ⟨i, hi, e⟩ := h3 j hj
  have hk : k < 22 := hk
  have := hq (1 + 22 * i + k) (by omega)
  rw [show q + (1 + 22 * i + k) = b j + k by omega] at this
  exact this
theorem HG.lt {G : GG} {q : Nat} {σ : Nat → Mem} {H : Heap} (h : HG G q σ H) {k : Nat} (hk : k < 89) : q + k < H.size := by
  obtain ⟨b, h1, h2, h3, h4⟩ := h
  by_cases hk0 : k = 0
  · subst hk0
    exact (Array.getElem?_eq_some_iff.mp h1).1
  -- four different places below four: one of them is the one
  have key : ∀ i, i < 4 → ∃ j, j < 4 ∧ b j = q + 1 + 22 * i := by
    obtain ⟨i0, l0, e0⟩ := h3 0 (by omega)
    obtain ⟨i1, l1, e1⟩ := h3 1 (by omega)
    obtain ⟨i2, l2, e2⟩ := h3 2 (by omega)
    obtain ⟨i3, l3, e3⟩ := h3 3 (by omega)
    have n01 : i0 ≠ i1 := fun e => absurd (h4 0 1 (by omega) (by omega) (by rw [e0, e1, e])) (by omega)
    have n02 : i0 ≠ i2 := fun e => absurd (h4 0 2 (by omega) (by omega) (by rw [e0, e2, e])) (by omega)
    have n03 : i0 ≠ i3 := fun e => absurd (h4 0 3 (by omega) (by omega) (by rw [e0, e3, e])) (by omega)
    have n12 : i1 ≠ i2 := fun e => absurd (h4 1 2 (by omega) (by omega) (by rw [e1, e2, e])) (by omega)
    have n13 : i1 ≠ i3 := fun e => absurd (h4 1 3 (by omega) (by omega) (by rw [e1, e3, e])) (by omega)
    have n23 : i2 ≠ i3 := fun e => absurd (h4 2 3 (by omega) (by omega) (by rw [e2, e3, e])) (by omega)
    intro i hi
    by_cases q0 : i = i0
    · exact ⟨0, by omega, by rw [e0, q0]⟩
    by_cases q1 : i = i1
    · exact ⟨1, by omega, by rw [e1, q1]⟩
    by_cases q2 : i = i2
    · exact ⟨2, by omega, by rw [e2, q2]⟩
    · exact ⟨3, by omega, by rw [e3, show i = i3 by omega]⟩
  obtain ⟨j, hj, e⟩ := key ((k - 1) / 22) (by omega)
  have := (h2 j hj).lt (k := (k - 1) % 22) (show (k - 1) % 22 < 22 from Nat.mod_lt _ (by omega))
  omega
theorem HG.past {G : GG} {q : Nat} {σ : Nat → Mem} {H H1 : Heap} {A : Nat → Prop} (h : HG G q σ H) (hq : ∀ x, x < H.size → ¬ A x → H1[x]? = H[x]?) (hA : ∀ k, k < 89 → ¬ A (q + k)) : HG G q σ H1 := h.kept fun k hk => hq _ (h.lt hk) (hA k hk)
section RH
variable {p : Program} {l : Launch} {e : Env} {R : Room} {s : State} {m : MethodId} {args : Array Value} {below : List Frame} {meth : Method} {c : Code} {H : Heap} {locs : List Loc} {cells slots : Nat} {Q : State → Prop}
variable {cc : ByteArray} {own : String} {nL pc : Nat} {ls : Array Slot} {rest : List Value} {G : GG} {A : Nat → Prop} {H0 : Heap}
theorem g_aald (C : CX p m meth c s args cc own nL) (hK : KK G s) {q n v : Nat} {f : Nat → Option Nat} {i : Int32} (hc : H[q]? = some (vp_cell G.2.2 (n, .inr (.inr (.inr (.inr f)))))) (hin : vp_in i n) (hf : f i.toNatClampNeg = some v) (hdg : decode cc pc = .ok (.aaload, 1))
    (kk : W p l e R s m args below meth c H locs cells slots Q (F0 m (pc + 1) ls (.ref v :: rest))) : W p l e R s m args below meth c H locs cells slots Q (F0 m pc ls (.int i :: .ref q :: rest)) := by
  obtain ⟨hx, hb, hml, hown, hts, -⟩ := C
  refine va_aldq (ws := [(q, .inl (G.2.2, n, .inr (.inr (.inr (.inr f)))))]) hx hb hK.1 (fun k x hx => ?_) 0 1 rfl rfl hin hdg ?_
  · cases k with
    | zero => cases hx; exact hc
    | succ k => simp at hx
  · rw [hf]
    exact kk
theorem g_aast (C : CX p m meth c s args cc own nL) (hK : KK G s) (hS : va_S A H0 H locs) {q n v : Nat} {γ : Mem} {f : Nat → Option Nat} {i : Int32} (hc : H[q]? = some (vp_cell G.2.2 (n, .inr (.inr (.inr (.inr f)))))) (hv : rg G LG v γ H) (hin : vp_in i n) (hA : A q) (hdg : decode cc pc = .ok (.aastore, 1))
    (kk : ∀ (H1 : Heap) (locs1 : List Loc), H1[q]? = some (vp_cell G.2.2 (n, .inr (.inr (.inr (.inr (va_up f i.toNatClampNeg (some v))))))) → (∀ x, x ≠ q → H1[x]? = H[x]?) → va_S A H0 H1 locs1 → W p l e R s m args below meth c H1 locs1 cells slots Q (F0 m (pc + 1) ls rest)) : W p l e R s m args below meth c H locs cells slots Q (F0 m pc ls (.ref v :: .int i :: .ref q :: rest)) := by
  obtain ⟨hx, hb, hml, hown, hts, -⟩ := C
  have hlt : i.toNatClampNeg < n := Nat.not_le.mp fun q => hin (Or.inr q)
  have h0 : ¬ i < 0 := fun q => hin (Or.inl q)
  obtain ⟨r', hr', cellV, g1, g2, g3, -⟩ := hv 0 _ rfl
  have hcls := (hK.1.1 1 (RX1, TX1, 7) rfl).2
  obtain ⟨kA, comp, k1, k2, k3, -⟩ := (hK.1.2 1 (G.2.2, .object RX1) rfl).2
  have hcomp : comp = G.1.1 1 := Option.some.inj (k3.symm.trans hcls.1)
  subst hcomp
  obtain ⟨kC, hkC, -⟩ := hcls.2
  refine W.aast hx hb hc (fun q h => by cases h) (fun h => by cases h) k1 k2 rfl hkC ⟨h0, by show _ < (arrV _ _ _).slots.size; rw [arrV_size]; exact hlt⟩ g1 (fun q h => by rw [g3] at h; cases h) (by rw [g2]; exact hkC) (by rw [g2]; exact va_assign hcls) rfl rfl hdg fun H1 e z oq => ?_
  refine kk H1 _ ?_ oq (hS.put z oq hA)
  rw [e]
  rw [vp_cell_q, vp_cell_q, arrV_store]
  congr 2
  funext x
  by_cases hx : x = i.toNatClampNeg
  · subst hx
    simp [updV, va_up, va_rf]
  · simp [updV, va_up, hx]
end RH
def rotσ (σ : Nat → Mem) : Nat → Mem := fun j => if j = 3 then σ 0 else σ (j + 1)
def vc_X3_dropOldest (Q : Mem → (Nat → Mem) → Prop) (η : Mem) (σ : Nat → Mem) : Prop := Q (up η 0 0 (η 0 0 - 1)) (rotσ σ)
def vk_rec (Q : Mem → (Nat → Mem) → Prop) (η : Mem) (σ : Nat → Mem) (γ : Mem) : Prop := vp_in (η 0 0) 4 ∧ vc_X1_copyFrom (fun τ => Q (up η 0 0 (η 0 0 + 1)) (va_up σ (η 0 0).toNatClampNeg τ)) (σ (η 0 0).toNatClampNeg) γ
def vc_X3_record (Q : Mem → (Nat → Mem) → Prop) (η : Mem) (σ : Nat → Mem) (γ : Mem) : Prop := (η 0 0 < 4 → vk_rec Q η σ γ) ∧ (¬ η 0 0 < 4 → vk_rec Q (up η 0 0 (η 0 0 - 1)) (rotσ σ) γ)
def vc_X3_restore (Q : Int32 → Mem → Mem → Prop) (η : Mem) (σ : Nat → Mem) (γ : Mem) : Prop := (0 < η 0 0 → ∀ η1, η1 = up η 0 0 (η 0 0 - 1) → vp_in (η1 0 0) 4 ∧ vc_X1_copyFrom (fun γ1 => Q (η1 0 0) η1 γ1) γ (σ (η1 0 0).toNatClampNeg)) ∧ (¬ 0 < η 0 0 → Q (-1000002) η γ)
set_option maxHeartbeats 8000000 in
set_option maxRecDepth 100000 in
theorem m_X3_dropOldest (l : Launch) (G : GG) (aH : Nat) (η : Mem) (σ : Nat → Mem) (Q : Mem → (Nat → Mem) → Prop) (h : vc_X3_dropOldest Q η σ) : CtV l yX3_dropOldest cX3_dropOldest 3 { frames := 0, cells := 0, slots := 0, locals := 0 } [.ref (aH + 0)] G (fun H => rg G LH aH η H ∧ HG G (aH + 1) σ H) (fun (u : Mem × (Nat → Mem)) => Q u.1 u.2) (fun (u : Mem × (Nat → Mem)) H => rg G LH aH u.1 H ∧ HG G (aH + 1) u.2 H) (RA aH 90) := by
  unfold CtV
  refine met_start (y := yX3_dropOldest) (maxL := 3) (av := [.ref (aH + 0)]) (G := G) (P := fun H => rg G LH aH η H ∧ HG G (aH + 1) σ H) (by decide) rfl (Nat.le_of_ble_eq_true rfl) (fun p e s m below meth c ls C hr hP hK hl => ?_)
  obtain ⟨hx, hb, hml, hown, hts, hlocks⟩ := id C
  obtain ⟨hH, hZ⟩ := hP
  have hS : va_S (RA aH 90) s.heap s.heap [] := va_S.rf
  have hl : lv_has ls 3 [(0, .ref (aH + 0))] := hl
  obtain ⟨b, hc, hr2, hb1, hb2⟩ := hZ
  obtain ⟨i0, l0, e0⟩ := hb1 0 (by decide)
  obtain ⟨i1, l1, e1⟩ := hb1 1 (by decide)
  obtain ⟨i2, l2, e2⟩ := hb1 2 (by decide)
  obtain ⟨i3, l3, e3⟩ := hb1 3 (by decide)
  have r0 := hr2 0 (by decide)
  have r1 := hr2 1 (by decide)
  have r2 := hr2 2 (by decide)
  have r3 := hr2 3 (by decide)
  have hA1 : RA aH 90 (aH + 1) := RA_in (by decide)
  refine lv_aload_n hx hb dX3_dropOldest_0 rfl (lv_at hl 0 rfl) ?_
  refine g_getR (a := aH) (k := 0) (o := 1) C hK hH fl_X3_11 rfl rfl dX3_dropOldest_1 ?_
  refine lv_iconst (v := 0) hx hb dX3_dropOldest_4 (by decide) ?_
  refine g_aald (i := 0) (v := b 0) C hK hc (vp_dec (by decide)) rfl dX3_dropOldest_5 ?_
  refine lv_astore_n (lv' := [(1, .ref (b 0)), (0, .ref (aH + 0))]) hx hb dX3_dropOldest_6 rfl hl (by decide) rfl (fun ls hl => ?_)
  refine lv_iconst (v := 0) hx hb dX3_dropOldest_7 (by decide) ?_
  refine lv_istore_n (lv' := [(2, .int 0), (1, .ref (b 0)), (0, .ref (aH + 0))]) hx hb dX3_dropOldest_8 rfl hl (by decide) rfl (fun ls hl => ?_)
  refine lv_iload_n hx hb dX3_dropOldest_9 rfl (lv_at hl 0 rfl) ?_
  refine lv_iconst (v := 3) hx hb dX3_dropOldest_10 (by decide) ?_
  refine lv_icmp_ge (tgt := 34) hx hb dX3_dropOldest_11 (by decide) (fun c1 => absurd c1 (by decide)) (fun c1 => ?_)
  refine lv_aload_n hx hb dX3_dropOldest_14 rfl (lv_at hl 2 rfl) ?_
  refine g_getR (a := aH) (k := 0) (o := 1) C hK hH fl_X3_11 rfl rfl dX3_dropOldest_15 ?_
  refine lv_iload_n hx hb dX3_dropOldest_18 rfl (lv_at hl 0 rfl) ?_
  refine lv_aload_n hx hb dX3_dropOldest_19 rfl (lv_at hl 2 rfl) ?_
  refine g_getR (a := aH) (k := 0) (o := 1) C hK hH fl_X3_11 rfl rfl dX3_dropOldest_20 ?_
  refine lv_iload_n hx hb dX3_dropOldest_23 rfl (lv_at hl 0 rfl) ?_
  refine lv_iconst (v := 1) hx hb dX3_dropOldest_24 (by decide) ?_
  refine lv_iadd hx hb dX3_dropOldest_25 ?_
  refine g_aald (i := 0 + 1) (v := b 1) C hK hc (vp_dec (by decide)) (by rfl) dX3_dropOldest_26 ?_
  refine g_aast (i := 0) (v := b 1) C hK hS hc r1 (vp_dec (by decide)) hA1 dX3_dropOldest_27 (fun H locs hc oq hS => ?_)
  have hH := hH.kept (fun j hj => oq _ (by have hj : j < 1 := hj; omega))
  have r0 := r0.kept (fun j hj => oq _ (by omega))
  have r1 := r1.kept (fun j hj => oq _ (by omega))
  have r2 := r2.kept (fun j hj => oq _ (by omega))
  have r3 := r3.kept (fun j hj => oq _ (by omega))
  refine lv_iinc (v := 1) (lv' := [(2, .int 1), (1, .ref (b 0)), (0, .ref (aH + 0))]) hx hb dX3_dropOldest_28 hl (k := 0) rfl (by rfl) (by decide) rfl (fun ls hl => ?_)
  refine lv_goto (tgt := 9) hx hb dX3_dropOldest_31 (by decide) ?_
  refine lv_iload_n hx hb dX3_dropOldest_9 rfl (lv_at hl 0 rfl) ?_
  refine lv_iconst (v := 3) hx hb dX3_dropOldest_10 (by decide) ?_
  refine lv_icmp_ge (tgt := 34) hx hb dX3_dropOldest_11 (by decide) (fun c1 => absurd c1 (by decide)) (fun c1 => ?_)
  refine lv_aload_n hx hb dX3_dropOldest_14 rfl (lv_at hl 2 rfl) ?_
  refine g_getR (a := aH) (k := 0) (o := 1) C hK hH fl_X3_11 rfl rfl dX3_dropOldest_15 ?_
  refine lv_iload_n hx hb dX3_dropOldest_18 rfl (lv_at hl 0 rfl) ?_
  refine lv_aload_n hx hb dX3_dropOldest_19 rfl (lv_at hl 2 rfl) ?_
  refine g_getR (a := aH) (k := 0) (o := 1) C hK hH fl_X3_11 rfl rfl dX3_dropOldest_20 ?_
  refine lv_iload_n hx hb dX3_dropOldest_23 rfl (lv_at hl 0 rfl) ?_
  refine lv_iconst (v := 1) hx hb dX3_dropOldest_24 (by decide) ?_
  refine lv_iadd hx hb dX3_dropOldest_25 ?_
  refine g_aald (i := 1 + 1) (v := b 2) C hK hc (vp_dec (by decide)) (by rfl) dX3_dropOldest_26 ?_
  refine g_aast (i := 1) (v := b 2) C hK hS hc r2 (vp_dec (by decide)) hA1 dX3_dropOldest_27 (fun H locs hc oq hS => ?_)
  have hH := hH.kept (fun j hj => oq _ (by have hj : j < 1 := hj; omega))
  have r0 := r0.kept (fun j hj => oq _ (by omega))
  have r1 := r1.kept (fun j hj => oq _ (by omega))
  have r2 := r2.kept (fun j hj => oq _ (by omega))
  have r3 := r3.kept (fun j hj => oq _ (by omega))
  refine lv_iinc (v := 2) (lv' := [(2, .int 2), (1, .ref (b 0)), (0, .ref (aH + 0))]) hx hb dX3_dropOldest_28 hl (k := 0) rfl (by rfl) (by decide) rfl (fun ls hl => ?_)
  refine lv_goto (tgt := 9) hx hb dX3_dropOldest_31 (by decide) ?_
  refine lv_iload_n hx hb dX3_dropOldest_9 rfl (lv_at hl 0 rfl) ?_
  refine lv_iconst (v := 3) hx hb dX3_dropOldest_10 (by decide) ?_
  refine lv_icmp_ge (tgt := 34) hx hb dX3_dropOldest_11 (by decide) (fun c1 => absurd c1 (by decide)) (fun c1 => ?_)
  refine lv_aload_n hx hb dX3_dropOldest_14 rfl (lv_at hl 2 rfl) ?_
  refine g_getR (a := aH) (k := 0) (o := 1) C hK hH fl_X3_11 rfl rfl dX3_dropOldest_15 ?_
  refine lv_iload_n hx hb dX3_dropOldest_18 rfl (lv_at hl 0 rfl) ?_
  refine lv_aload_n hx hb dX3_dropOldest_19 rfl (lv_at hl 2 rfl) ?_
  refine g_getR (a := aH) (k := 0) (o := 1) C hK hH fl_X3_11 rfl rfl dX3_dropOldest_20 ?_
  refine lv_iload_n hx hb dX3_dropOldest_23 rfl (lv_at hl 0 rfl) ?_
  refine lv_iconst (v := 1) hx hb dX3_dropOldest_24 (by decide) ?_
  refine lv_iadd hx hb dX3_dropOldest_25 ?_
  refine g_aald (i := 2 + 1) (v := b 3) C hK hc (vp_dec (by decide)) (by rfl) dX3_dropOldest_26 ?_
  refine g_aast (i := 2) (v := b 3) C hK hS hc r3 (vp_dec (by decide)) hA1 dX3_dropOldest_27 (fun H locs hc oq hS => ?_)
  have hH := hH.kept (fun j hj => oq _ (by have hj : j < 1 := hj; omega))
  have r0 := r0.kept (fun j hj => oq _ (by omega))
  have r1 := r1.kept (fun j hj => oq _ (by omega))
  have r2 := r2.kept (fun j hj => oq _ (by omega))
  have r3 := r3.kept (fun j hj => oq _ (by omega))
  refine lv_iinc (v := 3) (lv' := [(2, .int 3), (1, .ref (b 0)), (0, .ref (aH + 0))]) hx hb dX3_dropOldest_28 hl (k := 0) rfl (by rfl) (by decide) rfl (fun ls hl => ?_)
  refine lv_goto (tgt := 9) hx hb dX3_dropOldest_31 (by decide) ?_
  refine lv_iload_n hx hb dX3_dropOldest_9 rfl (lv_at hl 0 rfl) ?_
  refine lv_iconst (v := 3) hx hb dX3_dropOldest_10 (by decide) ?_
  refine lv_icmp_ge (tgt := 34) hx hb dX3_dropOldest_11 (by decide) (fun c1 => ?_) (fun c1 => absurd c1 (by decide))
  refine lv_aload_n hx hb dX3_dropOldest_34 rfl (lv_at hl 2 rfl) ?_
  refine g_getR (a := aH) (k := 0) (o := 1) C hK hH fl_X3_11 rfl rfl dX3_dropOldest_35 ?_
  refine lv_iconst (v := 3) hx hb dX3_dropOldest_38 (by decide) ?_
  refine lv_aload_n hx hb dX3_dropOldest_39 rfl (lv_at hl 1 rfl) ?_
  refine g_aast (i := 3) (v := b 0) C hK hS hc r0 (vp_dec (by decide)) hA1 dX3_dropOldest_40 (fun H locs hc oq hS => ?_)
  have hH := hH.kept (fun j hj => oq _ (by have hj : j < 1 := hj; omega))
  have r0 := r0.kept (fun j hj => oq _ (by omega))
  have r1 := r1.kept (fun j hj => oq _ (by omega))
  have r2 := r2.kept (fun j hj => oq _ (by omega))
  have r3 := r3.kept (fun j hj => oq _ (by omega))
  refine lv_aload_n hx hb dX3_dropOldest_41 rfl (lv_at hl 2 rfl) ?_
  refine lv_dup hx hb dX3_dropOldest_42 rfl ?_
  refine g_getI (a := aH) (k := 0) C hK hH fl_X3_18 rfl rfl dX3_dropOldest_43 ?_
  refine lv_iconst (v := 1) hx hb dX3_dropOldest_46 (by decide) ?_
  refine lv_isub hx hb dX3_dropOldest_47 ?_
  refine g_put (a := aH) (k := 0) C hK hH hS fl_X3_18 fp_X3_0 rfl rfl (by rfl) (by rfl) (RA_in (by decide)) dX3_dropOldest_48 (fun η1 H locs eη1 hH hS oq => ?_)
  have hc := (oq (aH + 1) (by omega)).trans hc
  have r0 := r0.kept (fun j hj => oq _ (by omega))
  have r1 := r1.kept (fun j hj => oq _ (by omega))
  have r2 := r2.kept (fun j hj => oq _ (by omega))
  have r3 := r3.kept (fun j hj => oq _ (by omega))
  subst eη1
  have hZ : HG G (aH + 1) (rotσ σ) H := by
    refine ⟨fun j => if j = 3 then b 0 else b (j + 1), ?_, ?_, ?_, ?_⟩
    · rw [hc, vp_cell_q, vp_cell_q]
      congr 1
    · intro j hj
      have : j = 0 ∨ j = 1 ∨ j = 2 ∨ j = 3 := by omega
      rcases this with rfl | rfl | rfl | rfl
      · exact r1
      · exact r2
      · exact r3
      · exact r0
    · intro j hj
      have : j = 0 ∨ j = 1 ∨ j = 2 ∨ j = 3 := by omega
      rcases this with rfl | rfl | rfl | rfl
      · exact ⟨i1, l1, e1⟩
      · exact ⟨i2, l2, e2⟩
      · exact ⟨i3, l3, e3⟩
      · exact ⟨i0, l0, e0⟩
    · intro i j hi hj e
      by_cases qi : i = 3 <;> by_cases qj : j = 3
      · omega
      · simp only [qi, if_true, qj, if_false] at e
        have := hb2 _ _ (by omega) (by omega) e
        omega
      · simp only [qi, if_false, qj, if_true] at e
        have := hb2 _ _ (by omega) (by omega) e
        omega
      · simp only [qi, qj, if_false] at e
        have := hb2 _ _ (by omega) (by omega) e
        omega
  exact g_vret (post := fun (u : Mem × (Nat → Mem)) => Q u.1 u.2) (P' := fun (u : Mem × (Nat → Mem)) H => rg G LH aH u.1 H ∧ HG G (aH + 1) u.2 H) (u := (up η 0 0 (η 0 0 - 1), rotσ σ)) C hr hK hS h ⟨hH, hZ⟩ dX3_dropOldest_51
set_option maxHeartbeats 8000000 in
set_option maxRecDepth 100000 in
theorem m_X3_record (l : Launch) (G : GG) (aH aG : Nat) (η : Mem) (σ : Nat → Mem) (γ : Mem) (hd : aH + 90 ≤ aG ∨ aG + 22 ≤ aH) (Q : Mem → (Nat → Mem) → Prop) (h : vc_X3_record Q η σ γ) : CtV l yX3_record cX3_record 2 { frames := 4, cells := 0, slots := 0, locals := 103 } [.ref (aH + 0), .ref (aG + 0)] G (fun H => rg G LH aH η H ∧ HG G (aH + 1) σ H ∧ rg G LG aG γ H) (fun (u : Mem × (Nat → Mem)) => Q u.1 u.2) (fun (u : Mem × (Nat → Mem)) H => rg G LH aH u.1 H ∧ HG G (aH + 1) u.2 H) (RA aH 90) := by
  unfold CtV
  refine met_start (y := yX3_record) (maxL := 2) (av := [.ref (aH + 0), .ref (aG + 0)]) (G := G) (P := fun H => rg G LH aH η H ∧ HG G (aH + 1) σ H ∧ rg G LG aG γ H) (by decide) rfl (Nat.le_of_ble_eq_true rfl) (fun p e s m below meth c ls C hr hP hK hl => ?_)
  obtain ⟨hx, hb, hml, hown, hts, hlocks⟩ := id C
  obtain ⟨hH, hZ, hG⟩ := hP
  have hS : va_S (RA aH 90) s.heap s.heap [] := va_S.rf
  have hl : lv_has ls 2 [(0, .ref (aH + 0)), (1, .ref (aG + 0))] := hl
  have K : ∀ (η : Mem) (σ : Nat → Mem) (H : Heap) (locs : List Loc), rg G LH aH η H → HG G (aH + 1) σ H → rg G LG aG γ H → va_S (RA aH 90) s.heap H locs → vk_rec Q η σ γ → W p l e { frames := 4, cells := 0, slots := 0, locals := 103 } s m [.ref (aH + 0), .ref (aG + 0)].toArray below meth c H locs 0 0 (MQ below (va_Qv (fun (u : Mem × (Nat → Mem)) => Q u.1 u.2) (fun u t => (fun (u : Mem × (Nat → Mem)) H => rg G LH aH u.1 H ∧ HG G (aH + 1) u.2 H) u t.heap ∧ KK G t) (RA aH 90)) [.ref (aH + 0), .ref (aG + 0)].toArray s 0 0 (RA aH 90)) (F0 m 12 ls []) := by
    intro η σ H locs hH hZ hG hS h
    obtain ⟨hin, h⟩ := h
    obtain ⟨b, hc, hr2, hb1, hb2⟩ := hZ
    refine lv_aload_n hx hb dX3_record_12 rfl (lv_at hl 0 rfl) ?_
    refine g_getR (a := aH) (k := 0) (o := 1) C hK hH fl_X3_11 rfl rfl dX3_record_13 ?_
    refine lv_aload_n hx hb dX3_record_16 rfl (lv_at hl 0 rfl) ?_
    refine g_getI (a := aH) (k := 0) C hK hH fl_X3_18 rfl rfl dX3_record_17 ?_
    refine g_aald (v := b (η 0 0).toNatClampNeg) C hK hc hin rfl dX3_record_20 ?_
    refine lv_aload_n hx hb dX3_record_21 rfl (lv_at hl 1 rfl) ?_
    have hj : (η 0 0).toNatClampNeg < 4 := Nat.not_le.mp fun q => hin (Or.inr q)
    generalize hjj : (η 0 0).toNatClampNeg = j at hj h ⊢
    obtain ⟨i, li, ei⟩ := hb1 j hj
    have hT := hr2 j hj
    refine g_vV C hK hl.1 (m_X1_copyFrom l G (b j) aG (σ j) γ (by omega) _ h) mw_X1_copyFrom mi_X1_copyFrom ml_X3_25 rfl ⟨rfl, rfl, Nat.le_of_ble_eq_true rfl, Nat.le_of_ble_eq_true rfl⟩ ⟨Nat.zero_le _, Nat.zero_le _⟩ (g_recv (a := b j) (k := 0) hK hT rfl rfl) ⟨hT, hG⟩ hS (fun q hq => by simp only [RA] at hq ⊢; omega) rfl (Nat.le_of_ble_eq_true rfl) dX3_record_22 (fun τ H1 locs h hT _ hq hS => ?_)
    have hH := hH.past hq (fun k hk hq => by have hk : k < 1 := hk; simp only [RA] at hq; omega)
    have hc : H1[aH + 1]? = _ := (hq (aH + 1) (Array.getElem?_eq_some_iff.mp hc).1 (fun hq => by simp only [RA] at hq; omega)).trans hc
    have hr3 : ∀ k, k < 4 → rg G LG (b k) (va_up σ j τ k) H1 := by
      intro k hk
      by_cases hkj : k = j
      · subst hkj
        rw [show va_up σ k τ k = τ from if_pos rfl]
        exact hT
      · rw [show va_up σ j τ k = σ k from if_neg hkj]
        obtain ⟨i2, li2, ei2⟩ := hb1 k hk
        have hne : i2 ≠ i := fun e => hkj (hb2 k j hk hj (by rw [ei2, ei, e]))
        exact (hr2 k hk).past hq (fun x hx hq => by have hx : x < 22 := hx; simp only [RA] at hq; omega)
    refine lv_aload_n hx hb dX3_record_25 rfl (lv_at hl 0 rfl) ?_
    refine lv_dup hx hb dX3_record_26 rfl ?_
    refine g_getI (a := aH) (k := 0) C hK hH fl_X3_18 rfl rfl dX3_record_27 ?_
    refine lv_iconst (v := 1) hx hb dX3_record_30 (by decide) ?_
    refine lv_iadd hx hb dX3_record_31 ?_
    refine g_put (a := aH) (k := 0) C hK hH hS fl_X3_18 fp_X3_0 rfl rfl (by rfl) (by rfl) (RA_in (by decide)) dX3_record_32 (fun η1 H2 locs eη1 hH hS oq => ?_)
    subst eη1
    have hZ : HG G (aH + 1) (va_up σ j τ) H2 := by
      refine ⟨b, (oq (aH + 1) (by omega)).trans hc, fun k hk => ?_, hb1, hb2⟩
      obtain ⟨i2, li2, ei2⟩ := hb1 k hk
      exact (hr3 k hk).kept (fun x hx => oq _ (by omega))
    exact g_vret (post := fun (u : Mem × (Nat → Mem)) => Q u.1 u.2) (P' := fun (u : Mem × (Nat → Mem)) H => rg G LH aH u.1 H ∧ HG G (aH + 1) u.2 H) (u := (up η 0 0 (η 0 0 + 1), va_up σ j τ)) C hr hK hS h ⟨hH, hZ⟩ dX3_record_35
  refine lv_aload_n hx hb dX3_record_0 rfl (lv_at hl 0 rfl) ?_
  refine g_getI (a := aH) (k := 0) C hK hH fl_X3_18 rfl rfl dX3_record_1 ?_
  refine lv_iconst (v := 4) hx hb dX3_record_4 (by decide) ?_
  refine lv_icmp_lt (tgt := 12) hx hb dX3_record_5 (by decide) (fun c1 => ?_) (fun c1 => ?_)
  · exact K η σ _ _ hH hZ hG hS (h.1 c1)
  · refine lv_aload_n hx hb dX3_record_8 rfl (lv_at hl 0 rfl) ?_
    refine g_vV C hK hl.1 (m_X3_dropOldest l G aH η σ (fun η σ => vk_rec Q η σ γ) (h.2 c1)) mw_X3_dropOldest mi_X3_dropOldest ml_X3_22 rfl ⟨rfl, rfl, Nat.le_of_ble_eq_true rfl, Nat.le_of_ble_eq_true rfl⟩ ⟨Nat.zero_le _, Nat.zero_le _⟩ (g_recv (a := aH) (k := 0) hK hH rfl rfl) ⟨hH, hZ⟩ hS (fun q hq => hq) rfl (Nat.le_of_ble_eq_true rfl) dX3_record_9 (fun u H1 locs h hu _ hq hS => ?_)
    have hG := hG.past hq (fun k hk hq => by have hk : k < 22 := hk; simp only [RA] at hq; omega)
    exact K u.1 u.2 _ _ hu.1 hu.2 hG hS h
set_option maxHeartbeats 8000000 in
set_option maxRecDepth 100000 in
theorem m_X3_restore (l : Launch) (G : GG) (aH aG : Nat) (η : Mem) (σ : Nat → Mem) (γ : Mem) (hd : aH + 90 ≤ aG ∨ aG + 22 ≤ aH) (Q : Int32 → Mem → Mem → Prop) (h : vc_X3_restore Q η σ γ) : CtI l yX3_restore cX3_restore 2 (some .int) { frames := 4, cells := 0, slots := 0, locals := 103 } [.ref (aH + 0), .ref (aG + 0)] G (fun H => rg G LH aH η H ∧ HG G (aH + 1) σ H ∧ rg G LG aG γ H) (fun r (u : Mem × Mem) => Q r u.1 u.2) (fun (u : Mem × Mem) H => rg G LH aH u.1 H ∧ rg G LG aG u.2 H) (fun q => RA aH 1 q ∨ RA aG 22 q) := by
  unfold CtI
  refine met_start (y := yX3_restore) (maxL := 2) (av := [.ref (aH + 0), .ref (aG + 0)]) (G := G) (P := fun H => rg G LH aH η H ∧ HG G (aH + 1) σ H ∧ rg G LG aG γ H) (by decide) rfl (Nat.le_of_ble_eq_true rfl) (fun p e s m below meth c ls C hr hP hK hl => ?_)
  obtain ⟨hx, hb, hml, hown, hts, hlocks⟩ := id C
  obtain ⟨hH, hZ, hG⟩ := hP
  have hS : va_S (fun q => RA aH 1 q ∨ RA aG 22 q) s.heap s.heap [] := va_S.rf
  have hl : lv_has ls 2 [(0, .ref (aH + 0)), (1, .ref (aG + 0))] := hl
  refine lv_aload_n hx hb dX3_restore_0 rfl (lv_at hl 0 rfl) ?_
  refine g_getI (a := aH) (k := 0) C hK hH fl_X3_18 rfl rfl dX3_restore_1 ?_
  refine lv_if_gt (tgt := 10) hx hb dX3_restore_4 (by decide) (fun c1 => ?_) (fun c1 => ?_)
  · replace h := h.1 c1
    refine lv_aload_n hx hb dX3_restore_10 rfl (lv_at hl 0 rfl) ?_
    refine lv_dup hx hb dX3_restore_11 rfl ?_
    refine g_getI (a := aH) (k := 0) C hK hH fl_X3_18 rfl rfl dX3_restore_12 ?_
    refine lv_iconst (v := 1) hx hb dX3_restore_15 (by decide) ?_
    refine lv_isub hx hb dX3_restore_16 ?_
    refine g_put (a := aH) (k := 0) C hK hH hS fl_X3_18 fp_X3_0 rfl rfl (by rfl) (by rfl) (Or.inl (RA_in (by decide))) dX3_restore_17 (fun η1 H locs eη1 hH hS hq => ?_)
    specialize h η1 eη1
    have hZ := hZ.kept (fun j hj => hq _ (by omega))
    have hG := hG.kept (fun j hj => hq _ (by have hj : j < 22 := hj; omega))
    obtain ⟨hin, h⟩ := h
    obtain ⟨b, hc, hr2, hb1, hb2⟩ := hZ
    refine lv_aload_n hx hb dX3_restore_20 rfl (lv_at hl 1 rfl) ?_
    refine lv_aload_n hx hb dX3_restore_21 rfl (lv_at hl 0 rfl) ?_
    refine g_getR (a := aH) (k := 0) (o := 1) C hK hH fl_X3_11 rfl rfl dX3_restore_22 ?_
    refine lv_aload_n hx hb dX3_restore_25 rfl (lv_at hl 0 rfl) ?_
    refine g_getI (a := aH) (k := 0) C hK hH fl_X3_18 rfl rfl dX3_restore_26 ?_
    refine g_aald (v := b (η1 0 0).toNatClampNeg) C hK hc hin rfl dX3_restore_29 ?_
    have hj : (η1 0 0).toNatClampNeg < 4 := Nat.not_le.mp fun q => hin (Or.inr q)
    obtain ⟨i, li, ei⟩ := hb1 _ hj
    have hF := hr2 _ hj
    refine g_vV C hK hl.1 (m_X1_copyFrom l G aG (b (η1 0 0).toNatClampNeg) γ (σ (η1 0 0).toNatClampNeg) (by omega) _ h) mw_X1_copyFrom mi_X1_copyFrom ml_X3_25 rfl ⟨rfl, rfl, Nat.le_of_ble_eq_true rfl, Nat.le_of_ble_eq_true rfl⟩ ⟨Nat.zero_le _, Nat.zero_le _⟩ (g_recv (a := aG) (k := 0) hK hG rfl rfl) ⟨hG, hF⟩ hS (fun q hq => Or.inr hq) rfl (Nat.le_of_ble_eq_true rfl) dX3_restore_30 (fun γ1 H1 locs h hG _ hq hS => ?_)
    have hH := hH.past hq (fun k hk hq => by have hk : k < 1 := hk; simp only [RA] at hq; omega)
    refine lv_aload_n hx hb dX3_restore_33 rfl (lv_at hl 0 rfl) ?_
    refine g_getI (a := aH) (k := 0) C hK hH fl_X3_18 rfl rfl dX3_restore_34 ?_
    exact g_iret (post := fun r (u : Mem × Mem) => Q r u.1 u.2) (P' := fun (u : Mem × Mem) H => rg G LH aH u.1 H ∧ rg G LG aG u.2 H) (r := η1 0 0) (u := (η1, γ1)) C hr hK hS h ⟨hH, hG⟩ dX3_restore_37
  · replace h := h.2 c1
    refine g_ldc C kc_X3_29 dX3_restore_7 ?_
    exact g_iret (post := fun r (u : Mem × Mem) => Q r u.1 u.2) (P' := fun (u : Mem × Mem) H => rg G LH aH u.1 H ∧ rg G LG aG u.2 H) (r := (-1000002)) (u := (η, γ)) C hr hK hS h ⟨hH, hG⟩ dX3_restore_9
