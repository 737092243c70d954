def ξ0 : Mem := fun _ _ => 0
def γ0 : Mem := fun k f => if k = 2 then 5 else if k = 5 then szG f else if k = 6 then -1 else 0
def σ0 : Nat → Mem := fun _ => γ0
theorem nwl_tbl : ∀ q ∈ nwl, Cond.methodLinkNest q.1 q.2.1 q.2.2.1 q.2.2.2 ∈ lw_tbl := by decide +kernel
theorem rg_G0 {G : GG} {a : Nat} {H : Heap} (h : cl_at G a (esG G a) H) : rg G LG a γ0 H := by
  intro k kd hk
  have hk0 : k < 22 := (List.getElem?_eq_some_iff.mp hk).1
  rcases (show k = 0 ∨ k = 1 ∨ k = 2 ∨ k = 3 ∨ k = 4 ∨ k = 5 ∨ k = 6 ∨ k = 7 ∨ k = 8 ∨ k = 9 ∨ k = 10 ∨ k = 11 ∨ k = 12 ∨ k = 13 ∨ k = 14 ∨ k = 15 ∨ k = 16 ∨ k = 17 ∨ k = 18 ∨ k = 19 ∨ k = 20 ∨ k = 21 by omega) with rfl | rfl | rfl | rfl | rfl | rfl | rfl | rfl | rfl | rfl | rfl | rfl | rfl | rfl | rfl | rfl | rfl | rfl | rfl | rfl | rfl | rfl
  · obtain rfl : _ = kd := Option.some.inj ((show LG[0]? = some (.inr (1, [none, some 1, some 4, some 12, some 18, some 21, none])) from rfl).symm.trans hk)
    exact h 0 _ rfl
  · obtain rfl : _ = kd := Option.some.inj ((show LG[1]? = some (.inr (5, [none, none, some 2, some 3])) from rfl).symm.trans hk)
    exact h 1 _ rfl
  · obtain rfl : _ = kd := Option.some.inj ((show LG[2]? = some (.inl 12) from rfl).symm.trans hk)
    exact h 2 _ rfl
  · obtain rfl : _ = kd := Option.some.inj ((show LG[3]? = some (.inl 4) from rfl).symm.trans hk)
    exact h 3 _ rfl
  · obtain rfl : _ = kd := Option.some.inj ((show LG[4]? = some (.inr (2, [none, some 5, some 6, some 7, some 8, some 9, some 10, some 11])) from rfl).symm.trans hk)
    exact h 4 _ rfl
  · obtain rfl : _ = kd := Option.some.inj ((show LG[5]? = some (.inl 12) from rfl).symm.trans hk)
    exact h 5 _ rfl
  · obtain rfl : _ = kd := Option.some.inj ((show LG[6]? = some (.inl 12) from rfl).symm.trans hk)
    exact h 6 _ rfl
  · obtain rfl : _ = kd := Option.some.inj ((show LG[7]? = some (.inl 12) from rfl).symm.trans hk)
    exact h 7 _ rfl
  · obtain rfl : _ = kd := Option.some.inj ((show LG[8]? = some (.inl 12) from rfl).symm.trans hk)
    exact h 8 _ rfl
  · obtain rfl : _ = kd := Option.some.inj ((show LG[9]? = some (.inl 12) from rfl).symm.trans hk)
    exact h 9 _ rfl
  · obtain rfl : _ = kd := Option.some.inj ((show LG[10]? = some (.inl 12) from rfl).symm.trans hk)
    exact h 10 _ rfl
  · obtain rfl : _ = kd := Option.some.inj ((show LG[11]? = some (.inl 12) from rfl).symm.trans hk)
    exact h 11 _ rfl
  · obtain rfl : _ = kd := Option.some.inj ((show LG[12]? = some (.inr (6, [none, some 13, some 14, some 15, some 16, some 17])) from rfl).symm.trans hk)
    exact h 12 _ rfl
  · obtain rfl : _ = kd := Option.some.inj ((show LG[13]? = some (.inl 8) from rfl).symm.trans hk)
    exact h 13 _ rfl
  · obtain rfl : _ = kd := Option.some.inj ((show LG[14]? = some (.inl 8) from rfl).symm.trans hk)
    exact h 14 _ rfl
  · obtain rfl : _ = kd := Option.some.inj ((show LG[15]? = some (.inl 8) from rfl).symm.trans hk)
    exact h 15 _ rfl
  · obtain rfl : _ = kd := Option.some.inj ((show LG[16]? = some (.inl 8) from rfl).symm.trans hk)
    exact h 16 _ rfl
  · obtain rfl : _ = kd := Option.some.inj ((show LG[17]? = some (.inl 8) from rfl).symm.trans hk)
    exact h 17 _ rfl
  · obtain rfl : _ = kd := Option.some.inj ((show LG[18]? = some (.inr (0, [none, some 19, some 20])) from rfl).symm.trans hk)
    exact h 18 _ rfl
  · obtain rfl : _ = kd := Option.some.inj ((show LG[19]? = some (.inl 6) from rfl).symm.trans hk)
    exact h 19 _ rfl
  · obtain rfl : _ = kd := Option.some.inj ((show LG[20]? = some (.inl 6) from rfl).symm.trans hk)
    exact h 20 _ rfl
  · obtain rfl : _ = kd := Option.some.inj ((show LG[21]? = some (.inl 12) from rfl).symm.trans hk)
    exact h 21 _ rfl
theorem rg_O0 {G : GG} {a : Nat} {H : Heap} (h : cl_at G a (esO G a) H) : rg G LO a ξ0 H := by
  intro k kd hk
  have hk0 : k < 3 := (List.getElem?_eq_some_iff.mp hk).1
  rcases (show k = 0 ∨ k = 1 ∨ k = 2 by omega) with rfl | rfl | rfl
  · obtain rfl : _ = kd := Option.some.inj ((show LO[0]? = some (.inr (4, [none, none, none, none, none, none, some 1, some 2])) from rfl).symm.trans hk)
    exact h 0 _ rfl
  · obtain rfl : _ = kd := Option.some.inj ((show LO[1]? = some (.inl 60) from rfl).symm.trans hk)
    exact h 1 _ rfl
  · obtain rfl : _ = kd := Option.some.inj ((show LO[2]? = some (.inl 4) from rfl).symm.trans hk)
    exact h 2 _ rfl
theorem rg_M0 {G : GG} {a : Nat} {H : Heap} (h : cl_at G a (esM G a) H) : rg G LM a ξ0 H := by
  intro k kd hk
  have hk0 : k < 8 := (List.getElem?_eq_some_iff.mp hk).1
  rcases (show k = 0 ∨ k = 1 ∨ k = 2 ∨ k = 3 ∨ k = 4 ∨ k = 5 ∨ k = 6 ∨ k = 7 by omega) with rfl | rfl | rfl | rfl | rfl | rfl | rfl | rfl
  · obtain rfl : _ = kd := Option.some.inj ((show LM[0]? = some (.inr (8, [some 1, some 2, some 3, some 4, none, none, some 5, none, some 6, none, none, none, none, none, none, none, some 7])) from rfl).symm.trans hk)
    exact h 0 _ rfl
  · obtain rfl : _ = kd := Option.some.inj ((show LM[1]? = some (.inl 164) from rfl).symm.trans hk)
    exact h 1 _ rfl
  · obtain rfl : _ = kd := Option.some.inj ((show LM[2]? = some (.inl 656) from rfl).symm.trans hk)
    exact h 2 _ rfl
  · obtain rfl : _ = kd := Option.some.inj ((show LM[3]? = some (.inl 164) from rfl).symm.trans hk)
    exact h 3 _ rfl
  · obtain rfl : _ = kd := Option.some.inj ((show LM[4]? = some (.inl 164) from rfl).symm.trans hk)
    exact h 4 _ rfl
  · obtain rfl : _ = kd := Option.some.inj ((show LM[5]? = some (.inl 60) from rfl).symm.trans hk)
    exact h 5 _ rfl
  · obtain rfl : _ = kd := Option.some.inj ((show LM[6]? = some (.inl 12) from rfl).symm.trans hk)
    exact h 6 _ rfl
  · obtain rfl : _ = kd := Option.some.inj ((show LM[7]? = some (.inl 4) from rfl).symm.trans hk)
    exact h 7 _ rfl
theorem world0 {G : GG} {x : Nat} {H : Heap} (h : cl_at G x (esX G x) H) : rg G LX x ξ0 H ∧ rg G LG (x + 1) γ0 H ∧ rg G LG (x + 23) γ0 H ∧ rg G LH (x + 45) ξ0 H ∧ HG G (x + 46) σ0 H ∧ rg G LO (x + 135) ξ0 H := by
  have h : cl_at G x (((([.inr (7, [.ref (x + 1), .ref (x + 23), .ref (x + 45), .ref (x + 135)])] ++ esG G (x + 1)) ++ esG G (x + 23)) ++ esH G (x + 45)) ++ esO G (x + 135)) H := h
  have hO : cl_at G (x + 135) (esO G (x + 135)) H := h.right
  have hH : cl_at G (x + 45) (esH G (x + 45)) H := h.left.right
  have hT : cl_at G (x + 23) (esG G (x + 23)) H := h.left.left.right
  have hG : cl_at G (x + 1) (esG G (x + 1)) H := h.left.left.left.right
  have hX := h.left.left.left.left
  refine ⟨fun k kd hk => ?_, rg_G0 hG, rg_G0 hT, fun k kd hk => ?_, ?_, rg_O0 hO⟩
  · have hk0 : k < 1 := (List.getElem?_eq_some_iff.mp hk).1
    obtain rfl : k = 0 := by omega
    obtain rfl : _ = kd := Option.some.inj ((show LX[0]? = some (.inr (7, [some 1, some 23, some 45, some 135])) from rfl).symm.trans hk)
    exact hX 0 _ rfl
  · have hk0 : k < 1 := (List.getElem?_eq_some_iff.mp hk).1
    obtain rfl : k = 0 := by omega
    obtain rfl : _ = kd := Option.some.inj ((show LH[0]? = some (.inr (3, [none, some 1])) from rfl).symm.trans hk)
    exact hH 0 _ rfl
  · have hH : cl_at G (x + 45) (((([.inr (3, [.int 0, .ref ((x + 45) + 1)]), .inl (G.2.2, 4, .inr (.inr (.inr (.inr (fun j => some ((x + 45) + 2 + 22 * j))))))] ++ esG G ((x + 45) + 2)) ++ esG G ((x + 45) + 24)) ++ esG G ((x + 45) + 46)) ++ esG G ((x + 45) + 68)) H := hH
    have g3 : cl_at G (x + 45 + 68) (esG G (x + 45 + 68)) H := hH.right
    have g2 : cl_at G (x + 45 + 46) (esG G (x + 45 + 46)) H := hH.left.right
    have g1 : cl_at G (x + 45 + 24) (esG G (x + 45 + 24)) H := hH.left.left.right
    have g0 : cl_at G (x + 45 + 2) (esG G (x + 45 + 2)) H := hH.left.left.left.right
    have ga := hH.left.left.left.left 1 _ rfl
    refine ⟨fun j => x + 45 + 2 + 22 * j, ga, fun j hj => ?_, fun j hj => ⟨j, hj, rfl⟩, fun i j hi hj e => by dsimp only at e; omega⟩
    rcases (show j = 0 ∨ j = 1 ∨ j = 2 ∨ j = 3 by omega) with rfl | rfl | rfl | rfl
    · exact rg_G0 g0
    · exact rg_G0 g1
    · exact rg_G0 g2
    · exact rg_G0 g3
theorem kk_start {s : State} {b : Addr} (ht0 : ∀ w ∈ lw_tbl, w.before #[Value.ref b] s = true) : ∃ G : GG, KK G s := by
  have hts : ∀ w ∈ BIG, w.before #[Value.ref b] s = true := fun w hw => ht0 w (List.mem_filter.mp hw).1
  obtain ⟨c0, i0, K0⟩ := u_known (C := RX0) (T := TX0) (N := 3) hts inB0 (hts _ ab_X0)
  obtain ⟨c1, i1, K1⟩ := u_known (C := RX1) (T := TX1) (N := 7) hts inB1 (hts _ ab_X1)
  obtain ⟨c2, i2, K2⟩ := u_known (C := RX2) (T := TX2) (N := 8) hts inB2 (hts _ ab_X2)
  obtain ⟨c3, i3, K3⟩ := u_known (C := RX3) (T := TX3) (N := 2) hts inB3 (hts _ ab_X3)
  obtain ⟨c4, i4, K4⟩ := u_known (C := RX4) (T := TX4) (N := 8) hts inB4 (hts _ ab_X4)
  obtain ⟨c5, i5, K5⟩ := u_known (C := RX5) (T := TX5) (N := 4) hts inB5 (hts _ ab_X5)
  obtain ⟨c6, i6, K6⟩ := u_known (C := RX6) (T := TX6) (N := 6) hts inB6 (hts _ ab_X6)
  obtain ⟨c7, i7, K7⟩ := u_known (C := RX7) (T := TX7) (N := 4) hts inB7 (hts _ ab_X7)
  obtain ⟨c8, i8, K8⟩ := u_known (C := RX8) (T := TX8) (N := 17) hts inB8 (hts _ ab_X8)
  obtain ⟨dC, dI, hKc⟩ : ∃ (dC : Nat → ClassId) (dI : Nat → Nat → Nat), ∀ (k : Nat) (q : vw_C), vwCl[k]? = some q → u_Kn s q.1 q.2.1 q.2.2 (dC k) (dI k) := by
    refine ⟨fun k => if k = 0 then c0 else if k = 1 then c1 else if k = 2 then c2 else if k = 3 then c3 else if k = 4 then c4 else if k = 5 then c5 else if k = 6 then c6 else if k = 7 then c7 else c8, fun k => if k = 0 then i0 else if k = 1 then i1 else if k = 2 then i2 else if k = 3 then i3 else if k = 4 then i4 else if k = 5 then i5 else if k = 6 then i6 else if k = 7 then i7 else i8, ?_⟩
    intro k q hq
    match k, hq with
    | 0, hq => cases hq; exact K0
    | 1, hq => cases hq; exact K1
    | 2, hq => cases hq; exact K2
    | 3, hq => cases hq; exact K3
    | 4, hq => cases hq; exact K4
    | 5, hq => cases hq; exact K5
    | 6, hq => cases hq; exact K6
    | 7, hq => cases hq; exact K7
    | 8, hq => cases hq; exact K8
    | k + 9, hq => simp [vwCl] at hq
  obtain ⟨cI, kI, compI, a1, a2, a3⟩ := Cond.arrayClass_spec (hts _ ac_int)
  obtain ⟨comp, cQ, kQ, q1, q2, q3, q4, q5⟩ := Cond.arrayOver_spec (ht0 _ ao_game)
  refine ⟨((dC, dI), cI, cQ), ⟨hKc, fun k q hq => ?_⟩, fun q hq => va_Nw.of rfl (ht0 _ (nwl_tbl q hq)), va_AO.of (ht0 _ ao_game)⟩
  match k, hq with
  | 0, hq => cases hq; exact ⟨fun n z => ⟨(fun k h => by cases h), kI, a2, compI, a3⟩, a1⟩
  | 1, hq => cases hq; exact ⟨fun n z => ⟨(fun k h => by cases h), kQ, q3, comp, q4⟩, kQ, comp, q3, q4, q1, q5⟩
  | k + 2, hq => simp at hq
set_option maxHeartbeats 8000000 in
set_option maxRecDepth 100000 in
theorem start_of (pure0 : ∀ (L : Nat) (xs : Nat → Int32), L ≤ 2560 → ∃ n, vl_L_law L xs ξ0 n 0 γ0 γ0 ξ0 σ0 ξ0 ξ0 0) {p : Program} {e : Env} {s : State} {m : MethodId} {below : List Frame} {meth : Method} {c : Code} (l : Launch) {b L : Nat} {xs : Nat → Int32} (hL : L ≤ 2560) (C0 : lw_At p s m meth c b L xs) : W p l e room_1 s m #[Value.ref b] below meth c s.heap [] 0 0 (lw_Z below #[Value.ref b] s) (entryFrame m ([Value.ref b] : List Value).toArray 4) := by
  obtain ⟨hx, hb, hr, hml, hown, ht0, hXs, hbl, hlocks, hgv⟩ := id C0
  have hts : ∀ w ∈ BIG, w.before #[Value.ref b] s = true := fun w hw => ht0 w (List.mem_filter.mp hw).1
  have C : CX p m meth c s #[Value.ref b] code RL 4 := ⟨hx, hb, hml, hown, hts, hlocks⟩
  obtain ⟨G, hK⟩ := kk_start ht0
  have hl := lv_entry ([.ref b]) (n := 4) (Nat.le_of_ble_eq_true rfl)
  rw [lg_entry_eq]
  generalize (lg_sl ([.ref b]) ++ List.replicate (4 - (lg_sl ([.ref b])).length) Slot.unset).toArray = ls at hl ⊢
  have hl : lv_has ls 4 [(0, .ref b)] := hl
  obtain ⟨x, hx0⟩ : ∃ x, s.heap.size = x := ⟨_, rfl⟩
  have hS : va_S (fun q => x ≤ q) s.heap s.heap [] := va_S.rf
  have hE : cl_at G x [] s.heap := fun k e h => by simp at h
  refine c_new (a := x) (k := 0) (ci := 7) (N := 4) (C0 := RX7) (T := TX7) (fs := [.null, .null, .null, .null]) (es' := [] ++ [.inr (7, [.null, .null, .null, .null])]) C hK rfl inB7 tyX7_ok ck_L_7 ab_X7 ii_X7 (fun j hj => by rcases (show j = 0 ∨ j = 1 ∨ j = 2 ∨ j = 3 by omega) with rfl | rfl | rfl | rfl <;> rfl) hx0 rfl hE hS (Nat.le_of_ble_eq_true rfl) (Nat.le_of_ble_eq_true rfl) dL_law_0 rfl (fun H hz hE hS => ?_)
  refine lv_dup hx hb dL_law_3 rfl ?_
  refine c_init (a := x) (k := 0) (es := []) C hK hl.1 (n_X7_init l G (x + 0)) mw_X7_init mj_X7_init rfl ml_L_9 ⟨rfl, rfl, Nat.le_of_ble_eq_true rfl, Nat.le_of_ble_eq_true rfl⟩ ⟨Nat.le_of_ble_eq_true rfl, Nat.le_of_ble_eq_true rfl⟩ hz hE rfl hS (Nat.le_of_ble_eq_true rfl) dL_law_4 (fun H locs hz hE hS => ?_)
  have hz : H.size = x + 138 := hz
  have hE : cl_at G x (esX G x) H := hE
  refine lv_astore_n (lv' := [(1, .ref x), (0, .ref b)]) hx hb dL_law_7 rfl hl (by decide) rfl (fun ls hl => ?_)
  refine c_new (a := x) (k := 138) (ci := 8) (N := 17) (C0 := RX8) (T := TX8) (fs := [.null, .null, .null, .null, .int 0, .int 0, .null, .int 0, .null, .int 0, .int 0, .int 0, .int 0, .int 0, .int 0, .int 0, .null]) (es' := esX G x ++ [.inr (8, [.null, .null, .null, .null, .int 0, .int 0, .null, .int 0, .null, .int 0, .int 0, .int 0, .int 0, .int 0, .int 0, .int 0, .null])]) C hK rfl inB8 tyX8_ok ck_L_10 ab_X8 ii_X8 (fun j hj => by rcases (show j = 0 ∨ j = 1 ∨ j = 2 ∨ j = 3 ∨ j = 4 ∨ j = 5 ∨ j = 6 ∨ j = 7 ∨ j = 8 ∨ j = 9 ∨ j = 10 ∨ j = 11 ∨ j = 12 ∨ j = 13 ∨ j = 14 ∨ j = 15 ∨ j = 16 by omega) with rfl | rfl | rfl | rfl | rfl | rfl | rfl | rfl | rfl | rfl | rfl | rfl | rfl | rfl | rfl | rfl | rfl <;> rfl) hz rfl hE hS (Nat.le_of_ble_eq_true rfl) (Nat.le_of_ble_eq_true rfl) dL_law_8 rfl (fun H hz hE hS => ?_)
  refine lv_dup hx hb dL_law_11 rfl ?_
  refine c_init (a := x) (k := 138) (es := esX G x) C hK hl.1 (n_X8_init l G (x + 138)) mw_X8_init mj_X8_init rfl ml_L_12 ⟨rfl, rfl, Nat.le_of_ble_eq_true rfl, Nat.le_of_ble_eq_true rfl⟩ ⟨Nat.le_of_ble_eq_true rfl, Nat.le_of_ble_eq_true rfl⟩ hz hE rfl hS (Nat.le_of_ble_eq_true rfl) dL_law_12 (fun H locs hz hE hS => ?_)
  obtain ⟨h1, h2, h3, h4, h5, h6⟩ := world0 hE.left
  have h7 : rg G LM (x + 138) ξ0 H := rg_M0 hE.right
  refine lv_astore_n (lv' := [(2, .ref (x + 138)), (1, .ref x), (0, .ref b)]) hx hb dL_law_15 rfl hl (by decide) rfl (fun ls hl => ?_)
  refine lv_iconst (v := 0) hx hb dL_law_16 (by decide) ?_
  refine lv_istore_n (lv' := [(3, .int 0), (2, .ref (x + 138)), (1, .ref x), (0, .ref b)]) hx hb dL_law_17 rfl hl (by decide) rfl (fun ls hl => ?_)
  obtain ⟨n, hn⟩ := pure0 L xs hL
  exact (lawK_all C hr hK hXs hbl hx0 rfl ξ0 n).1 γ0 γ0 ξ0 σ0 ξ0 ξ0 0 _ _ _ h1 h2 h3 h4 h5 h6 h7 hS (lv_sub hl [3, 2, 1, 0] rfl) hn
