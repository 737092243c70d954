/-! copies of rows, by System.arraycopy -/
def cp (γ : Mem) (k : Nat) (f : Nat → Int32) : Mem := fun k' => if k' = k then f else γ k'
theorem cp_s (γ : Mem) (k : Nat) (f : Nat → Int32) : cp γ k f k = f := if_pos rfl
theorem cp_n (γ : Mem) {k j : Nat} (f : Nat → Int32) (h : j ≠ k) : cp γ k f j = γ j := if_neg h
theorem cell_cong (cA : ClassId) {n : Nat} {f g : Nat → Int32} (h : ∀ j, j < n → f j = g j) : vp_cell cA (n, .inl f) = vp_cell cA (n, .inl g) := by
  rw [vp_cell_i, vp_cell_i]
  unfold arrV
  congr 1
  apply Array.ext
  · simp
  · intro i h1 h2
    simp only [Array.size_ofFn] at h1
    simp [h i h1]
theorem acopy_link : Cond.methodLink RX7 278 arraycopyName ∈ BIG := big_of (by decide +kernel) rfl
theorem acopy_nat : Cond.native arraycopyName ∈ BIG := big_of (by decide +kernel) rfl
theorem acopy_stat : Cond.static arraycopyName ∈ BIG := big_of (by decide +kernel) rfl
theorem acopy_ini : Cond.initialized "java/lang/System" ∈ BIG := big_of (by decide +kernel) rfl
section RC
variable {p : Program} {l : Launch} {e : Env} {R : Room} {s : State} {m : MethodId} {args : Array Value} {below : List Frame} {meth : Method} {c : Code} {H : Heap} {locs : List Loc} {cells slots : Nat} {Q : State → Prop}
variable {cc : ByteArray} {own : String} {nL pc : Nat} {ls : Array Slot} {rest : List Value} {G : GG} {A : Nat → Prop} {H0 : Heap}
theorem g_acopy (C : CX p m meth c s args cc RX7 nL) (hK : KK G s) (hls : ls.size = nL) {a0 a n : Nat} {f g : Nat → Int32} (hc0 : H[a0]? = some (vp_cell G.2.1 (n, .inl f))) (hc1 : H[a]? = some (vp_cell G.2.1 (n, .inl g))) (hn : n < 2 ^ 31) (hS : va_S A H0 H locs) (hA : A a)
    (hframes : 1 ≤ R.frames) (hlocals : (rest.map fun v => v.category).sum + (nativeFrameWords "java/lang/System" "arraycopy" 5 + 11) ≤ R.locals) (hdg : decode cc pc = .ok (.invokestatic 278, 3))
    (kk : ∀ (H1 : Heap) (locs1 : List Loc), H1[a]? = some (vp_cell G.2.1 (n, .inl f)) → H1.size = H.size → (∀ q, q ≠ a → H1[q]? = H[q]?) → va_S A H0 H1 locs1 → W p l e R s m args below meth c H1 locs1 cells slots Q (F0 m (pc + 3) ls rest)) : W p l e R s m args below meth c H locs cells slots Q (F0 m pc ls (.int (nI n) :: .int 0 :: .ref a :: .int 0 :: .ref a0 :: rest)) := by
  obtain ⟨hx, hb, hml, hown, hts, -⟩ := C
  intro T hT X
  have hcl : (nI n).toNatClampNeg = n := nI_clamp hn
  have h00 : (0 : Int32).toNatClampNeg = 0 := by decide
  have h01 : (0 : Int32).toInt = 0 := by decide
  have hin : (nI n).toInt = (n : Int) := nI_toInt hn
  obtain ⟨-, k0, hk0, cm0, hkk0⟩ := (hK.1.2 0 _ rfl).1 n (fun j => .int (f j))
  obtain ⟨-, k1, hk1, cm1, hkk1⟩ := (hK.1.2 0 _ rfl).1 n (fun j => .int (g j))
  obtain ⟨vm', X', step⟩ := X.arraycopy hx hown (hts _ acopy_link) (hts _ acopy_nat) (hts _ acopy_stat) (hts _ acopy_ini) (src := a0) (dst := a) (cs := vp_cell G.2.1 (n, .inl f)) (cd := vp_cell G.2.1 (n, .inl g)) (srcPos := 0) (destPos := 0) (n := nI n) (by rw [hT]; exact hc0) (by rw [hT]; exact hc1)
    (fun _ h => by cases h) (fun _ h => by cases h) (fun h => by cases h) (fun h => by cases h) hk0 hk1 hkk0 hkk1 (by simp [refKind]) (by decide) (by decide) (nI_pos hn)
    (by rw [hin]; show ¬ (0 : Int32).toInt + (n : Int) > ((arrV G.2.1 n (fun j => .int (f j))).slots.size : Int); rw [arrV_size]; omega)
    (by rw [hin]; show ¬ (0 : Int32).toInt + (n : Int) > ((arrV G.2.1 n (fun j => .int (g j))).slots.size : Int); rw [arrV_size]; omega)
    (fun vm₁ _ i hi => by
      have hi : i < n := by rw [hcl] at hi; exact hi
      have e : (vp_cell G.2.1 (n, .inl f)).slots.getD ((0 : Int32).toNatClampNeg + i) .null = .int (f ((0 : Int32).toNatClampNeg + i)) := by
        show (arrV G.2.1 n (fun j => .int (f j))).slots.getD _ _ = _
        rw [Array.getD_eq_getD_getElem?, arrV_read _ _ (by omega)]
        rfl
      refine ⟨?_, ?_⟩
      · rw [e]
        rfl
      · rw [e]
        exact trivial)
    (g := F0 m pc ls (.int (nI n) :: .int 0 :: .ref a :: .int 0 :: .ref a0 :: rest)) rfl (by rw [hml]; exact hls) (rest := rest) rfl (by rw [hb]; exact hdg) hframes (by show 2 * 0 + _ + _ ≤ _; omega)
  have e1 : copied (vp_cell G.2.1 (n, .inl f)) (vp_cell G.2.1 (n, .inl g)) 0 0 (nI n) = vp_cell G.2.1 (n, .inl f) := by
    have e2 : copied (vp_cell G.2.1 (n, .inl f)) (vp_cell G.2.1 (n, .inl g)) 0 0 (nI n) = vp_cell G.2.1 (n, .inl (va_cpy f g (0 : Int32).toNatClampNeg (0 : Int32).toNatClampNeg (nI n).toNatClampNeg)) := va_copied (fun z => .int z) G.2.1 G.2.1 f g (by rw [hcl]; omega)
    rw [e2]
    refine cell_cong _ (fun j hj => ?_)
    rw [hcl, h00]
    simp only [va_cpy]
    rw [if_pos (by omega)]
    congr 1
    omega
  rw [e1] at X' step
  have hl : a < H.size := (Array.getElem?_eq_some_iff.mp hc1).1
  have hheap : ((T.setVm vm').setCell a (vp_cell G.2.1 (n, .inl f))).heap = H.setIfInBounds a (vp_cell G.2.1 (n, .inl f)) := by rw [← hT]; rfl
  have oq : ∀ q : Nat, q ≠ a → (H.setIfInBounds a (vp_cell G.2.1 (n, .inl f)))[q]? = H[q]? := fun q hq => by simp [Array.getElem?_setIfInBounds, Ne.symm hq]
  obtain ⟨t, a1, b1⟩ := kk _ _ (show (H.setIfInBounds a _)[a]? = some _ by simp [Array.getElem?_setIfInBounds, hl]) (by simp) oq ⟨by simp; exact hS.1, fun q g1 g2 => by
      rw [oq q (fun e => g2 (by rw [e]; exact hA))]
      exact hS.2.1 q g1 g2, fun q hq => by
      rcases List.mem_append.mp hq with h | h
      · exact hS.2.2 q h
      · obtain ⟨z, -, hz⟩ := List.mem_map.mp h
        rw [← hz]
        exact hA⟩ _ hheap X'
  exact ⟨t, step t a1, b1⟩
end RC
theorem dX7_copyRow_0 : decode cX7_copyRow 0 = .ok (.aload_n 0, 1) := by decide +kernel
theorem dX7_copyRow_1 : decode cX7_copyRow 1 = .ok (.iconst 0, 1) := by decide +kernel
theorem dX7_copyRow_2 : decode cX7_copyRow 2 = .ok (.aload_n 1, 1) := by decide +kernel
theorem dX7_copyRow_3 : decode cX7_copyRow 3 = .ok (.iconst 0, 1) := by decide +kernel
theorem dX7_copyRow_4 : decode cX7_copyRow 4 = .ok (.aload_n 0, 1) := by decide +kernel
theorem dX7_copyRow_5 : decode cX7_copyRow 5 = .ok (.arraylength, 1) := by decide +kernel
theorem dX7_copyRow_6 : decode cX7_copyRow 6 = .ok (.aload_n 1, 1) := by decide +kernel
theorem dX7_copyRow_7 : decode cX7_copyRow 7 = .ok (.arraylength, 1) := by decide +kernel
theorem dX7_copyRow_8 : decode cX7_copyRow 8 = .ok (.invokestatic 273, 3) := by decide +kernel
theorem dX7_copyRow_11 : decode cX7_copyRow 11 = .ok (.invokestatic 278, 3) := by decide +kernel
theorem dX7_copyRow_14 : decode cX7_copyRow 14 = .ok (.return_, 1) := by decide +kernel
def vc_X7_copyRow (Q : Mem → Prop) (τ γ : Mem) (kA kB : Nat) : Prop := Q (cp τ kB (γ kA))
theorem rg.cp {G : GG} {L : List KD} {a : Nat} {τ : Mem} {H H1 : Heap} {k n : Nat} {f : Nat → Int32} (hG : rg G L a τ H) (hk : L[k]? = some (.inl n)) (he : H1[a + k]? = some (vp_cell G.2.1 (n, .inl f))) (oq : ∀ q, q ≠ a + k → H1[q]? = H[q]?) : rg G L a (cp τ k f) H1 := by
  intro j kd hj
  by_cases hjk : j = k
  · subst hjk
    rw [hk] at hj
    cases hj
    rw [cp_s]
    exact he
  · rw [cp_n τ f hjk]
    exact (hG j kd hj).kept (oq _ (fun q => hjk (Nat.add_left_cancel q)))
theorem m_X7_copyRow (l : Launch) (G : GG) (aT aS : Nat) (τ γ : Mem) {n : Nat} (kA : Nat) (hkA : LG[kA]? = some (.inl n)) (kB : Nat) (hkB : LG[kB]? = some (.inl n)) (hd : aT + 22 ≤ aS ∨ aS + 22 ≤ aT) (Q : Mem → Prop) (h : vc_X7_copyRow Q τ γ kA kB) : CtV l yX7_copyRow cX7_copyRow 2 { frames := 1, cells := 0, slots := 0, locals := 40 } [.ref (aS + kA), .ref (aT + kB)] G (fun H => rg G LG aT τ H ∧ rg G LG aS γ H) Q (fun u H => rg G LG aT u H) (RA aT 22) := by
  have hn : n < 2 ^ 31 := by
    have h1 : kA < 22 := (List.getElem?_eq_some_iff.mp hkA).1
    have h2 : ∀ k, k < 22 → ∀ n, LG[k]? = some (.inl n) → n < 2 ^ 31 := by
      intro k hk n hn
      have : ∀ kd ∈ LG, ∀ n, kd = Sum.inl n → n < 2 ^ 31 := by
        intro kd hkd n e
        subst e
        simp only [LG, List.mem_cons, List.not_mem_nil, or_false, Sum.inl.injEq, reduceCtorEq, false_or] at hkd
        omega
      exact this _ (List.mem_of_getElem? hn) n rfl
    exact h2 kA h1 n hkA
  unfold CtV
  refine met_start (y := yX7_copyRow) (maxL := 2) (av := [.ref (aS + kA), .ref (aT + kB)]) (G := G) (P := fun H => rg G LG aT τ H ∧ rg G LG aS γ H) (by decide) rfl (Nat.le_of_ble_eq_true rfl) (fun p e s m below meth c ls C hr hP hK hl => ?_)
  obtain ⟨hx, hb, hml, hown, hts, hlocks⟩ := id C
  obtain ⟨hT, hG⟩ := hP
  have hS : va_S (RA aT 22) s.heap s.heap [] := va_S.rf
  have hl : lv_has ls 2 [(0, .ref (aS + kA)), (1, .ref (aT + kB))] := hl
  refine lv_aload_n hx hb dX7_copyRow_0 rfl (lv_at hl 0 rfl) ?_
  refine lv_iconst (v := 0) hx hb dX7_copyRow_1 (by decide) ?_
  refine lv_aload_n hx hb dX7_copyRow_2 rfl (lv_at hl 1 rfl) ?_
  refine lv_iconst (v := 0) hx hb dX7_copyRow_3 (by decide) ?_
  refine lv_aload_n hx hb dX7_copyRow_4 rfl (lv_at hl 0 rfl) ?_
  refine g_len (a := aS) (k := kA) (n := n) (v := nI n) C hK hG hkA rfl dX7_copyRow_5 ?_
  refine lv_aload_n hx hb dX7_copyRow_6 rfl (lv_at hl 1 rfl) ?_
  refine g_len (a := aT) (k := kB) (n := n) (v := nI n) C hK hT hkB rfl dX7_copyRow_7 ?_
  refine va_mmin hx hb (hml.trans hl.1.symm) hown (hts _ ml_X7_273) (hts _ math_min_s) (hts _ math_i) (hts _ math_min_c) (Nat.le_of_ble_eq_true rfl) (Nat.le_of_ble_eq_true rfl) (Nat.zero_le _) (Nat.zero_le _) dX7_copyRow_8 ?_
  rw [ite_self]
  have hkB' : kB < 22 := (List.getElem?_eq_some_iff.mp hkB).1
  refine g_acopy C hK hl.1 (n := n) (f := γ kA) (g := τ kB) (hG kA _ hkA) (hT kB _ hkB) hn hS (RA_in hkB') (Nat.le_of_ble_eq_true rfl) (by decide) dX7_copyRow_11 (fun H1 locs1 he hz oq hS => ?_)
  have hT := hT.cp hkB he oq
  exact g_vret (post := Q) (P' := fun u H => rg G LG aT u H) (u := cp τ kB (γ kA)) C hr hK hS h hT dX7_copyRow_14
