theorem ck_X7_9 : Cond.classLink RX7 9 RX1 ∈ BIG := big_1 (i := 21) (by rfl) rfl
theorem ck_X7_19 : Cond.classLink RX7 19 RX3 ∈ BIG := big_1 (i := 180) (by rfl) rfl
theorem ck_X7_26 : Cond.classLink RX7 26 RX4 ∈ BIG := big_1 (i := 197) (by rfl) rfl
theorem ck_X1_9 : Cond.classLink RX1 9 RX5 ∈ BIG := big_1 (i := 27) (by rfl) rfl
theorem ck_X1_18 : Cond.classLink RX1 18 RX2 ∈ BIG := big_1 (i := 52) (by rfl) rfl
theorem ck_X1_25 : Cond.classLink RX1 25 RX6 ∈ BIG := big_1 (i := 94) (by rfl) rfl
theorem ck_X1_32 : Cond.classLink RX1 32 RX0 ∈ BIG := big_1 (i := 131) (by rfl) rfl
theorem ck_X3_9 : Cond.classLink RX3 9 RX1 ∈ BIG := big_1 (i := 186) (by rfl) rfl
theorem ck_L_7 : Cond.classLink RL 7 RX7 ∈ BIG := big_1 (i := 13) (by rfl) rfl
theorem ck_L_10 : Cond.classLink RL 10 RX8 ∈ BIG := big_3 (i := 206) (by rfl) rfl
theorem ab_X7 : Cond.instantiable RX7 4 ∈ BIG := big_1 (i := 14) (by rfl) rfl
theorem ab_X0 : Cond.instantiable RX0 3 ∈ BIG := big_1 (i := 132) (by rfl) rfl
theorem ab_X1 : Cond.instantiable RX1 7 ∈ BIG := big_1 (i := 22) (by rfl) rfl
theorem ab_X2 : Cond.instantiable RX2 8 ∈ BIG := big_1 (i := 53) (by rfl) rfl
theorem ab_X3 : Cond.instantiable RX3 2 ∈ BIG := big_1 (i := 181) (by rfl) rfl
theorem ab_X4 : Cond.instantiable RX4 8 ∈ BIG := big_1 (i := 198) (by rfl) rfl
theorem ab_X5 : Cond.instantiable RX5 4 ∈ BIG := big_1 (i := 28) (by rfl) rfl
theorem ab_X6 : Cond.instantiable RX6 6 ∈ BIG := big_1 (i := 95) (by rfl) rfl
theorem ab_X8 : Cond.instantiable RX8 17 ∈ BIG := big_3 (i := 207) (by rfl) rfl
theorem ii_X0 : Cond.initialized RX0 ∈ BIG := big_1 (i := 6) (by rfl) rfl
theorem ii_X1 : Cond.initialized RX1 ∈ BIG := big_1 (i := 2) (by rfl) rfl
theorem ii_X2 : Cond.initialized RX2 ∈ BIG := big_1 (i := 4) (by rfl) rfl
theorem ii_X3 : Cond.initialized RX3 ∈ BIG := big_1 (i := 7) (by rfl) rfl
theorem ii_X4 : Cond.initialized RX4 ∈ BIG := big_1 (i := 8) (by rfl) rfl
theorem ii_X5 : Cond.initialized RX5 ∈ BIG := big_1 (i := 3) (by rfl) rfl
theorem ii_X6 : Cond.initialized RX6 ∈ BIG := big_1 (i := 5) (by rfl) rfl
theorem ii_X7 : Cond.initialized RX7 ∈ BIG := big_1 (i := 1) (by rfl) rfl
theorem ii_X8 : Cond.initialized RX8 ∈ BIG := big_1 (i := 9) (by rfl) rfl
theorem oi_X7_3 : Cond.methodLink RX7 3 Lib.objectInit ∈ BIG := big_1 (i := 18) (by rfl) rfl
theorem oi_X0_3 : Cond.methodLink RX0 3 Lib.objectInit ∈ BIG := big_1 (i := 136) (by rfl) rfl
theorem oi_X1_3 : Cond.methodLink RX1 3 Lib.objectInit ∈ BIG := big_1 (i := 26) (by rfl) rfl
theorem oi_X2_3 : Cond.methodLink RX2 3 Lib.objectInit ∈ BIG := big_1 (i := 57) (by rfl) rfl
theorem oi_X3_3 : Cond.methodLink RX3 3 Lib.objectInit ∈ BIG := big_1 (i := 185) (by rfl) rfl
theorem oi_X4_3 : Cond.methodLink RX4 3 Lib.objectInit ∈ BIG := big_1 (i := 202) (by rfl) rfl
theorem oi_X5_3 : Cond.methodLink RX5 3 Lib.objectInit ∈ BIG := big_1 (i := 32) (by rfl) rfl
theorem oi_X6_3 : Cond.methodLink RX6 3 Lib.objectInit ∈ BIG := big_1 (i := 99) (by rfl) rfl
theorem oi_X8_1 : Cond.methodLink RX8 1 Lib.objectInit ∈ BIG := big_3 (i := 211) (by rfl) rfl
def esC (G : GG) (a : Nat) : List va_E := [.inr (0, [.int 0, .ref (a + 1), .ref (a + 2)]), .inl (G.2.1, 6, .inl (fun _ => 0)), .inl (G.2.1, 6, .inl (fun _ => 0))]
def esT (G : GG) (a : Nat) : List va_E := [.inr (6, [.int 0, .ref (a + 1), .ref (a + 2), .ref (a + 3), .ref (a + 4), .ref (a + 5)]), .inl (G.2.1, 8, .inl (fun _ => 0)), .inl (G.2.1, 8, .inl (fun _ => 0)), .inl (G.2.1, 8, .inl (fun _ => 0)), .inl (G.2.1, 8, .inl (fun _ => 0)), .inl (G.2.1, 8, .inl (fun _ => 0))]
def esP (G : GG) (a : Nat) : List va_E := [.inr (5, [.int 0, .int 0, .ref (a + 1), .ref (a + 2)]), .inl (G.2.1, 12, .inl (fun _ => 5)), .inl (G.2.1, 4, .inl (fun _ => 0))]
def szG : Nat → Int32 := fun f => if f % 3 = 0 then 30 else if f % 3 = 1 then 60 else 90
def esL (G : GG) (a : Nat) : List va_E := [.inr (2, [.int 0, .ref (a + 1), .ref (a + 2), .ref (a + 3), .ref (a + 4), .ref (a + 5), .ref (a + 6), .ref (a + 7)]), .inl (G.2.1, 12, .inl (szG)), .inl (G.2.1, 12, .inl (fun _ => -1)), .inl (G.2.1, 12, .inl (fun _ => 0)), .inl (G.2.1, 12, .inl (fun _ => 0)), .inl (G.2.1, 12, .inl (fun _ => 0)), .inl (G.2.1, 12, .inl (fun _ => 0)), .inl (G.2.1, 12, .inl (fun _ => 0))]
def esG (G : GG) (a : Nat) : List va_E := ((((([.inr (1, [.int 0, .ref (a + 1), .ref (a + 4), .ref (a + 12), .ref (a + 18), .ref (a + 21), .int 0])] ++ esP G (a + 1)) ++ esL G (a + 4)) ++ esT G (a + 12)) ++ esC G (a + 18)) ++ [.inl (G.2.1, 12, .inl (fun _ => 0))])
def esO (G : GG) (a : Nat) : List va_E := [.inr (4, [.int 0, .int 0, .int 0, .int 0, .int 0, .int 0, .ref (a + 1), .ref (a + 2)]), .inl (G.2.1, 60, .inl (fun _ => 0)), .inl (G.2.1, 4, .inl (fun _ => 0))]
def esH (G : GG) (a : Nat) : List va_E := (((([.inr (3, [.int 0, .ref (a + 1)]), .inl (G.2.2, 4, .inr (.inr (.inr (.inr (fun j => some (a + 2 + 22 * j))))))] ++ esG G (a + 2)) ++ esG G (a + 24)) ++ esG G (a + 46)) ++ esG G (a + 68))
def esX (G : GG) (a : Nat) : List va_E := (((([.inr (7, [.ref (a + 1), .ref (a + 23), .ref (a + 45), .ref (a + 135)])] ++ esG G (a + 1)) ++ esG G (a + 23)) ++ esH G (a + 45)) ++ esO G (a + 135))
def esM (G : GG) (a : Nat) : List va_E := [.inr (8, [.ref (a + 1), .ref (a + 2), .ref (a + 3), .ref (a + 4), .int 0, .int 0, .ref (a + 5), .int 0, .ref (a + 6), .int 0, .int 0, .int 0, .int 0, .int 0, .int 0, .int 0, .ref (a + 7)]), .inl (G.2.1, 164, .inl (fun _ => 0)), .inl (G.2.1, 656, .inl (fun _ => 0)), .inl (G.2.1, 164, .inl (fun _ => 0)), .inl (G.2.1, 164, .inl (fun _ => 0)), .inl (G.2.1, 60, .inl (fun _ => 0)), .inl (G.2.1, 12, .inl (fun _ => 0)), .inl (G.2.1, 4, .inl (fun _ => 0))]
theorem dX0_init_0 : decode cX0_init 0 = .ok (.aload_n 0, 1) := by decide +kernel
theorem dX0_init_1 : decode cX0_init 1 = .ok (.invokespecial 3, 3) := by decide +kernel
theorem dX0_init_4 : decode cX0_init 4 = .ok (.aload_n 0, 1) := by decide +kernel
theorem dX0_init_5 : decode cX0_init 5 = .ok (.bipush 6, 2) := by decide +kernel
theorem dX0_init_7 : decode cX0_init 7 = .ok (.newarray .int, 2) := by decide +kernel
theorem dX0_init_9 : decode cX0_init 9 = .ok (.putfield 9, 3) := by decide +kernel
theorem dX0_init_12 : decode cX0_init 12 = .ok (.aload_n 0, 1) := by decide +kernel
theorem dX0_init_13 : decode cX0_init 13 = .ok (.bipush 6, 2) := by decide +kernel
theorem dX0_init_15 : decode cX0_init 15 = .ok (.newarray .int, 2) := by decide +kernel
theorem dX0_init_17 : decode cX0_init 17 = .ok (.putfield 15, 3) := by decide +kernel
theorem dX0_init_20 : decode cX0_init 20 = .ok (.return_, 1) := by decide +kernel
set_option maxHeartbeats 16000000 in
set_option maxRecDepth 100000 in
theorem n_X0_init (l : Launch) (G : GG) (a : Nat) : CtN l yX0_init cX0_init 1 { frames := 1, cells := 2, slots := 12, locals := 12 } a 0 [.int 0, .null, .null] G (esC G a) 2 12 := by
  refine met_startN (own := RX0) (by decide) rfl rfl (Nat.le_of_ble_eq_true rfl) (fun p e s m below meth c ls C hr hname hz hE hK hl => ?_)
  obtain ⟨hx, hb, hml, hown, hts, hlocks⟩ := id C
  have hS : va_S (fun q => a ≤ q) s.heap s.heap [] := va_S.rf
  refine lv_aload_n hx hb dX0_init_0 rfl (lv_at hl 0 rfl) ?_
  refine c_obj C hl.1 oi_X0_3 dX0_init_1 (Nat.le_of_ble_eq_true rfl) (Nat.le_of_ble_eq_true rfl) ?_
  refine lv_aload_n hx hb dX0_init_4 rfl (lv_at hl 0 rfl) ?_
  refine lv_bipush (v := 6) hx hb dX0_init_5 (by decide) ?_
  refine c_newa (k := 1) (N := 6) (es' := [.inr (0, [.int 0, .null, .null]), .inl (G.2.1, 6, .inl (fun _ => 0))]) C hK hz rfl hE hS (by decide) (by decide) (Nat.le_of_ble_eq_true rfl) (Nat.le_of_ble_eq_true rfl) (Nat.le_of_ble_eq_true rfl) dX0_init_7 rfl (fun H hz hE hS => ?_)
  refine c_put (k := 0) (f := 1) (ci := 0) (ty := (.array .int)) (es' := [.inr (0, [.int 0, .ref (a + 1), .null]), .inl (G.2.1, 6, .inl (fun _ => 0))]) C hK hname hE hS rfl rfl fl_X0_9 tyX0_ok nmX0 rfl rfl (by decide +kernel) rfl rfl (Nat.le_of_ble_eq_true rfl) (Nat.le_add_right a _) dX0_init_9 rfl (fun H locs hsz hE hS => ?_)
  have hz := hsz.trans hz
  refine lv_aload_n hx hb dX0_init_12 rfl (lv_at hl 0 rfl) ?_
  refine lv_bipush (v := 6) hx hb dX0_init_13 (by decide) ?_
  refine c_newa (k := 2) (N := 6) (es' := [.inr (0, [.int 0, .ref (a + 1), .null]), .inl (G.2.1, 6, .inl (fun _ => 0)), .inl (G.2.1, 6, .inl (fun _ => 0))]) C hK hz rfl hE hS (by decide) (by decide) (Nat.le_of_ble_eq_true rfl) (Nat.le_of_ble_eq_true rfl) (Nat.le_of_ble_eq_true rfl) dX0_init_15 rfl (fun H hz hE hS => ?_)
  refine c_put (k := 0) (f := 2) (ci := 0) (ty := (.array .int)) (es' := [.inr (0, [.int 0, .ref (a + 1), .ref (a + 2)]), .inl (G.2.1, 6, .inl (fun _ => 0)), .inl (G.2.1, 6, .inl (fun _ => 0))]) C hK hname hE hS rfl rfl fl_X0_15 tyX0_ok nmX0 rfl rfl (by decide +kernel) rfl rfl (Nat.le_of_ble_eq_true rfl) (Nat.le_add_right a _) dX0_init_17 rfl (fun H locs hsz hE hS => ?_)
  have hz := hsz.trans hz
  exact c_ret (es := esC G a) C hr hK hE hz hS rfl rfl dX0_init_20
theorem dX6_init_0 : decode cX6_init 0 = .ok (.aload_n 0, 1) := by decide +kernel
theorem dX6_init_1 : decode cX6_init 1 = .ok (.invokespecial 3, 3) := by decide +kernel
theorem dX6_init_4 : decode cX6_init 4 = .ok (.aload_n 0, 1) := by decide +kernel
theorem dX6_init_5 : decode cX6_init 5 = .ok (.bipush 8, 2) := by decide +kernel
theorem dX6_init_7 : decode cX6_init 7 = .ok (.newarray .int, 2) := by decide +kernel
theorem dX6_init_9 : decode cX6_init 9 = .ok (.putfield 9, 3) := by decide +kernel
theorem dX6_init_12 : decode cX6_init 12 = .ok (.aload_n 0, 1) := by decide +kernel
theorem dX6_init_13 : decode cX6_init 13 = .ok (.bipush 8, 2) := by decide +kernel
theorem dX6_init_15 : decode cX6_init 15 = .ok (.newarray .int, 2) := by decide +kernel
theorem dX6_init_17 : decode cX6_init 17 = .ok (.putfield 15, 3) := by decide +kernel
theorem dX6_init_20 : decode cX6_init 20 = .ok (.aload_n 0, 1) := by decide +kernel
theorem dX6_init_21 : decode cX6_init 21 = .ok (.bipush 8, 2) := by decide +kernel
theorem dX6_init_23 : decode cX6_init 23 = .ok (.newarray .int, 2) := by decide +kernel
theorem dX6_init_25 : decode cX6_init 25 = .ok (.putfield 18, 3) := by decide +kernel
theorem dX6_init_28 : decode cX6_init 28 = .ok (.aload_n 0, 1) := by decide +kernel
theorem dX6_init_29 : decode cX6_init 29 = .ok (.bipush 8, 2) := by decide +kernel
theorem dX6_init_31 : decode cX6_init 31 = .ok (.newarray .int, 2) := by decide +kernel
theorem dX6_init_33 : decode cX6_init 33 = .ok (.putfield 21, 3) := by decide +kernel
theorem dX6_init_36 : decode cX6_init 36 = .ok (.aload_n 0, 1) := by decide +kernel
theorem dX6_init_37 : decode cX6_init 37 = .ok (.bipush 8, 2) := by decide +kernel
theorem dX6_init_39 : decode cX6_init 39 = .ok (.newarray .int, 2) := by decide +kernel
theorem dX6_init_41 : decode cX6_init 41 = .ok (.putfield 24, 3) := by decide +kernel
theorem dX6_init_44 : decode cX6_init 44 = .ok (.return_, 1) := by decide +kernel
set_option maxHeartbeats 16000000 in
set_option maxRecDepth 100000 in
theorem n_X6_init (l : Launch) (G : GG) (a : Nat) : CtN l yX6_init cX6_init 1 { frames := 1, cells := 5, slots := 40, locals := 12 } a 6 [.int 0, .null, .null, .null, .null, .null] G (esT G a) 5 40 := by
  refine met_startN (own := RX6) (by decide) rfl rfl (Nat.le_of_ble_eq_true rfl) (fun p e s m below meth c ls C hr hname hz hE hK hl => ?_)
  obtain ⟨hx, hb, hml, hown, hts, hlocks⟩ := id C
  have hS : va_S (fun q => a ≤ q) s.heap s.heap [] := va_S.rf
  refine lv_aload_n hx hb dX6_init_0 rfl (lv_at hl 0 rfl) ?_
  refine c_obj C hl.1 oi_X6_3 dX6_init_1 (Nat.le_of_ble_eq_true rfl) (Nat.le_of_ble_eq_true rfl) ?_
  refine lv_aload_n hx hb dX6_init_4 rfl (lv_at hl 0 rfl) ?_
  refine lv_bipush (v := 8) hx hb dX6_init_5 (by decide) ?_
  refine c_newa (k := 1) (N := 8) (es' := [.inr (6, [.int 0, .null, .null, .null, .null, .null]), .inl (G.2.1, 8, .inl (fun _ => 0))]) C hK hz rfl hE hS (by decide) (by decide) (Nat.le_of_ble_eq_true rfl) (Nat.le_of_ble_eq_true rfl) (Nat.le_of_ble_eq_true rfl) dX6_init_7 rfl (fun H hz hE hS => ?_)
  refine c_put (k := 0) (f := 1) (ci := 6) (ty := (.array .int)) (es' := [.inr (6, [.int 0, .ref (a + 1), .null, .null, .null, .null]), .inl (G.2.1, 8, .inl (fun _ => 0))]) C hK hname hE hS rfl rfl fl_X6_9 tyX6_ok nmX6 rfl rfl (by decide +kernel) rfl rfl (Nat.le_of_ble_eq_true rfl) (Nat.le_add_right a _) dX6_init_9 rfl (fun H locs hsz hE hS => ?_)
  have hz := hsz.trans hz
  refine lv_aload_n hx hb dX6_init_12 rfl (lv_at hl 0 rfl) ?_
  refine lv_bipush (v := 8) hx hb dX6_init_13 (by decide) ?_
  refine c_newa (k := 2) (N := 8) (es' := [.inr (6, [.int 0, .ref (a + 1), .null, .null, .null, .null]), .inl (G.2.1, 8, .inl (fun _ => 0)), .inl (G.2.1, 8, .inl (fun _ => 0))]) C hK hz rfl hE hS (by decide) (by decide) (Nat.le_of_ble_eq_true rfl) (Nat.le_of_ble_eq_true rfl) (Nat.le_of_ble_eq_true rfl) dX6_init_15 rfl (fun H hz hE hS => ?_)
  refine c_put (k := 0) (f := 2) (ci := 6) (ty := (.array .int)) (es' := [.inr (6, [.int 0, .ref (a + 1), .ref (a + 2), .null, .null, .null]), .inl (G.2.1, 8, .inl (fun _ => 0)), .inl (G.2.1, 8, .inl (fun _ => 0))]) C hK hname hE hS rfl rfl fl_X6_15 tyX6_ok nmX6 rfl rfl (by decide +kernel) rfl rfl (Nat.le_of_ble_eq_true rfl) (Nat.le_add_right a _) dX6_init_17 rfl (fun H locs hsz hE hS => ?_)
  have hz := hsz.trans hz
  refine lv_aload_n hx hb dX6_init_20 rfl (lv_at hl 0 rfl) ?_
  refine lv_bipush (v := 8) hx hb dX6_init_21 (by decide) ?_
  refine c_newa (k := 3) (N := 8) (es' := [.inr (6, [.int 0, .ref (a + 1), .ref (a + 2), .null, .null, .null]), .inl (G.2.1, 8, .inl (fun _ => 0)), .inl (G.2.1, 8, .inl (fun _ => 0)), .inl (G.2.1, 8, .inl (fun _ => 0))]) C hK hz rfl hE hS (by decide) (by decide) (Nat.le_of_ble_eq_true rfl) (Nat.le_of_ble_eq_true rfl) (Nat.le_of_ble_eq_true rfl) dX6_init_23 rfl (fun H hz hE hS => ?_)
  refine c_put (k := 0) (f := 3) (ci := 6) (ty := (.array .int)) (es' := [.inr (6, [.int 0, .ref (a + 1), .ref (a + 2), .ref (a + 3), .null, .null]), .inl (G.2.1, 8, .inl (fun _ => 0)), .inl (G.2.1, 8, .inl (fun _ => 0)), .inl (G.2.1, 8, .inl (fun _ => 0))]) C hK hname hE hS rfl rfl fl_X6_18 tyX6_ok nmX6 rfl rfl (by decide +kernel) rfl rfl (Nat.le_of_ble_eq_true rfl) (Nat.le_add_right a _) dX6_init_25 rfl (fun H locs hsz hE hS => ?_)
  have hz := hsz.trans hz
  refine lv_aload_n hx hb dX6_init_28 rfl (lv_at hl 0 rfl) ?_
  refine lv_bipush (v := 8) hx hb dX6_init_29 (by decide) ?_
  refine c_newa (k := 4) (N := 8) (es' := [.inr (6, [.int 0, .ref (a + 1), .ref (a + 2), .ref (a + 3), .null, .null]), .inl (G.2.1, 8, .inl (fun _ => 0)), .inl (G.2.1, 8, .inl (fun _ => 0)), .inl (G.2.1, 8, .inl (fun _ => 0)), .inl (G.2.1, 8, .inl (fun _ => 0))]) C hK hz rfl hE hS (by decide) (by decide) (Nat.le_of_ble_eq_true rfl) (Nat.le_of_ble_eq_true rfl) (Nat.le_of_ble_eq_true rfl) dX6_init_31 rfl (fun H hz hE hS => ?_)
  refine c_put (k := 0) (f := 4) (ci := 6) (ty := (.array .int)) (es' := [.inr (6, [.int 0, .ref (a + 1), .ref (a + 2), .ref (a + 3), .ref (a + 4), .null]), .inl (G.2.1, 8, .inl (fun _ => 0)), .inl (G.2.1, 8, .inl (fun _ => 0)), .inl (G.2.1, 8, .inl (fun _ => 0)), .inl (G.2.1, 8, .inl (fun _ => 0))]) C hK hname hE hS rfl rfl fl_X6_21 tyX6_ok nmX6 rfl rfl (by decide +kernel) rfl rfl (Nat.le_of_ble_eq_true rfl) (Nat.le_add_right a _) dX6_init_33 rfl (fun H locs hsz hE hS => ?_)
  have hz := hsz.trans hz
  refine lv_aload_n hx hb dX6_init_36 rfl (lv_at hl 0 rfl) ?_
  refine lv_bipush (v := 8) hx hb dX6_init_37 (by decide) ?_
  refine c_newa (k := 5) (N := 8) (es' := [.inr (6, [.int 0, .ref (a + 1), .ref (a + 2), .ref (a + 3), .ref (a + 4), .null]), .inl (G.2.1, 8, .inl (fun _ => 0)), .inl (G.2.1, 8, .inl (fun _ => 0)), .inl (G.2.1, 8, .inl (fun _ => 0)), .inl (G.2.1, 8, .inl (fun _ => 0)), .inl (G.2.1, 8, .inl (fun _ => 0))]) C hK hz rfl hE hS (by decide) (by decide) (Nat.le_of_ble_eq_true rfl) (Nat.le_of_ble_eq_true rfl) (Nat.le_of_ble_eq_true rfl) dX6_init_39 rfl (fun H hz hE hS => ?_)
  refine c_put (k := 0) (f := 5) (ci := 6) (ty := (.array .int)) (es' := [.inr (6, [.int 0, .ref (a + 1), .ref (a + 2), .ref (a + 3), .ref (a + 4), .ref (a + 5)]), .inl (G.2.1, 8, .inl (fun _ => 0)), .inl (G.2.1, 8, .inl (fun _ => 0)), .inl (G.2.1, 8, .inl (fun _ => 0)), .inl (G.2.1, 8, .inl (fun _ => 0)), .inl (G.2.1, 8, .inl (fun _ => 0))]) C hK hname hE hS rfl rfl fl_X6_24 tyX6_ok nmX6 rfl rfl (by decide +kernel) rfl rfl (Nat.le_of_ble_eq_true rfl) (Nat.le_add_right a _) dX6_init_41 rfl (fun H locs hsz hE hS => ?_)
  have hz := hsz.trans hz
  exact c_ret (es := esT G a) C hr hK hE hz hS rfl rfl dX6_init_44
theorem dX5_init_0 : decode cX5_init 0 = .ok (.aload_n 0, 1) := by decide +kernel
theorem dX5_init_1 : decode cX5_init 1 = .ok (.invokespecial 3, 3) := by decide +kernel
theorem dX5_init_4 : decode cX5_init 4 = .ok (.aload_n 0, 1) := by decide +kernel
theorem dX5_init_5 : decode cX5_init 5 = .ok (.bipush 12, 2) := by decide +kernel
theorem dX5_init_7 : decode cX5_init 7 = .ok (.newarray .int, 2) := by decide +kernel
theorem dX5_init_9 : decode cX5_init 9 = .ok (.putfield 9, 3) := by decide +kernel
theorem dX5_init_12 : decode cX5_init 12 = .ok (.aload_n 0, 1) := by decide +kernel
theorem dX5_init_13 : decode cX5_init 13 = .ok (.iconst 4, 1) := by decide +kernel
theorem dX5_init_14 : decode cX5_init 14 = .ok (.newarray .int, 2) := by decide +kernel
theorem dX5_init_16 : decode cX5_init 16 = .ok (.putfield 15, 3) := by decide +kernel
theorem dX5_init_19 : decode cX5_init 19 = .ok (.iconst 0, 1) := by decide +kernel
theorem dX5_init_20 : decode cX5_init 20 = .ok (.istore_n 1, 1) := by decide +kernel
theorem dX5_init_21 : decode cX5_init 21 = .ok (.iload_n 1, 1) := by decide +kernel
theorem dX5_init_22 : decode cX5_init 22 = .ok (.aload_n 0, 1) := by decide +kernel
theorem dX5_init_23 : decode cX5_init 23 = .ok (.getfield 9, 3) := by decide +kernel
theorem dX5_init_26 : decode cX5_init 26 = .ok (.arraylength, 1) := by decide +kernel
theorem dX5_init_27 : decode cX5_init 27 = .ok (.if_icmp .ge 16, 3) := by decide +kernel
theorem dX5_init_30 : decode cX5_init 30 = .ok (.aload_n 0, 1) := by decide +kernel
theorem dX5_init_31 : decode cX5_init 31 = .ok (.getfield 9, 3) := by decide +kernel
theorem dX5_init_34 : decode cX5_init 34 = .ok (.iload_n 1, 1) := by decide +kernel
theorem dX5_init_35 : decode cX5_init 35 = .ok (.iconst 5, 1) := by decide +kernel
theorem dX5_init_36 : decode cX5_init 36 = .ok (.iastore, 1) := by decide +kernel
theorem dX5_init_37 : decode cX5_init 37 = .ok (.iinc 1 1, 3) := by decide +kernel
theorem dX5_init_40 : decode cX5_init 40 = .ok (.goto (-19), 3) := by decide +kernel
theorem dX5_init_43 : decode cX5_init 43 = .ok (.return_, 1) := by decide +kernel
set_option maxHeartbeats 16000000 in
set_option maxRecDepth 100000 in
theorem n_X5_init (l : Launch) (G : GG) (a : Nat) : CtN l yX5_init cX5_init 2 { frames := 1, cells := 2, slots := 16, locals := 12 } a 5 [.int 0, .int 0, .null, .null] G (esP G a) 2 16 := by
  refine met_startN (own := RX5) (by decide) rfl rfl (Nat.le_of_ble_eq_true rfl) (fun p e s m below meth c ls C hr hname hz hE hK hl => ?_)
  obtain ⟨hx, hb, hml, hown, hts, hlocks⟩ := id C
  have hS : va_S (fun q => a ≤ q) s.heap s.heap [] := va_S.rf
  refine lv_aload_n hx hb dX5_init_0 rfl (lv_at hl 0 rfl) ?_
  refine c_obj C hl.1 oi_X5_3 dX5_init_1 (Nat.le_of_ble_eq_true rfl) (Nat.le_of_ble_eq_true rfl) ?_
  refine lv_aload_n hx hb dX5_init_4 rfl (lv_at hl 0 rfl) ?_
  refine lv_bipush (v := 12) hx hb dX5_init_5 (by decide) ?_
  refine c_newa (k := 1) (N := 12) (es' := [.inr (5, [.int 0, .int 0, .null, .null]), .inl (G.2.1, 12, .inl (fun _ => 0))]) C hK hz rfl hE hS (by decide) (by decide) (Nat.le_of_ble_eq_true rfl) (Nat.le_of_ble_eq_true rfl) (Nat.le_of_ble_eq_true rfl) dX5_init_7 rfl (fun H hz hE hS => ?_)
  refine c_put (k := 0) (f := 2) (ci := 5) (ty := (.array .int)) (es' := [.inr (5, [.int 0, .int 0, .ref (a + 1), .null]), .inl (G.2.1, 12, .inl (fun _ => 0))]) C hK hname hE hS rfl rfl fl_X5_9 tyX5_ok nmX5 rfl rfl (by decide +kernel) rfl rfl (Nat.le_of_ble_eq_true rfl) (Nat.le_add_right a _) dX5_init_9 rfl (fun H locs hsz hE hS => ?_)
  have hz := hsz.trans hz
  refine lv_aload_n hx hb dX5_init_12 rfl (lv_at hl 0 rfl) ?_
  refine lv_iconst (v := 4) hx hb dX5_init_13 (by decide) ?_
  refine c_newa (k := 2) (N := 4) (es' := [.inr (5, [.int 0, .int 0, .ref (a + 1), .null]), .inl (G.2.1, 12, .inl (fun _ => 0)), .inl (G.2.1, 4, .inl (fun _ => 0))]) C hK hz rfl hE hS (by decide) (by decide) (Nat.le_of_ble_eq_true rfl) (Nat.le_of_ble_eq_true rfl) (Nat.le_of_ble_eq_true rfl) dX5_init_14 rfl (fun H hz hE hS => ?_)
  refine c_put (k := 0) (f := 3) (ci := 5) (ty := (.array .int)) (es' := [.inr (5, [.int 0, .int 0, .ref (a + 1), .ref (a + 2)]), .inl (G.2.1, 12, .inl (fun _ => 0)), .inl (G.2.1, 4, .inl (fun _ => 0))]) C hK hname hE hS rfl rfl fl_X5_15 tyX5_ok nmX5 rfl rfl (by decide +kernel) rfl rfl (Nat.le_of_ble_eq_true rfl) (Nat.le_add_right a _) dX5_init_16 rfl (fun H locs hsz hE hS => ?_)
  have hz := hsz.trans hz
  refine lv_iconst (v := 0) hx hb dX5_init_19 (by decide) ?_
  refine lv_istore_n (lv' := [(1, .int 0), (0, .ref a)]) hx hb dX5_init_20 rfl hl (by decide) rfl (fun ls hl => ?_)
  refine lv_iload_n hx hb dX5_init_21 rfl (lv_at hl 0 rfl) ?_
  refine lv_aload_n hx hb dX5_init_22 rfl (lv_at hl 1 rfl) ?_
  refine c_get (k := 0) C hK hE rfl fl_X5_9 rfl dX5_init_23 ?_
  refine c_len (k := 1) (v := 12) C hK hE rfl (by rfl) dX5_init_26 ?_
  refine lv_icmp_ge (tgt := 43) hx hb dX5_init_27 (by decide) (fun c1 => absurd c1 (by decide)) (fun c1 => ?_)
  refine lv_aload_n hx hb dX5_init_30 rfl (lv_at hl 1 rfl) ?_
  refine c_get (k := 0) C hK hE rfl fl_X5_9 rfl dX5_init_31 ?_
  refine lv_iload_n hx hb dX5_init_34 rfl (lv_at hl 0 rfl) ?_
  refine lv_iconst (v := 5) hx hb dX5_init_35 (by decide) ?_
  refine c_ast (k := 1) (i := 0) C hK hE hS rfl (vp_dec (by decide)) (Nat.le_add_right a _) dX5_init_36 (fun g1 H locs eg1 hsz hE hS => ?_)
  have hz := hsz.trans hz
  have hE : cl_at G a [.inr (5, [.int 0, .int 0, .ref (a + 1), .ref (a + 2)]), .inl (G.2.1, 12, .inl g1), .inl (G.2.1, 4, .inl (fun _ => 0))] H := hE
  refine lv_iinc (v := 1) (lv' := [(1, .int 1), (0, .ref a)]) hx hb dX5_init_37 hl (k := 0) rfl (by rfl) (by decide) rfl (fun ls hl => ?_)
  refine lv_goto (tgt := 21) hx hb dX5_init_40 (by decide) ?_
  refine lv_iload_n hx hb dX5_init_21 rfl (lv_at hl 0 rfl) ?_
  refine lv_aload_n hx hb dX5_init_22 rfl (lv_at hl 1 rfl) ?_
  refine c_get (k := 0) C hK hE rfl fl_X5_9 rfl dX5_init_23 ?_
  refine c_len (k := 1) (v := 12) C hK hE rfl (by rfl) dX5_init_26 ?_
  refine lv_icmp_ge (tgt := 43) hx hb dX5_init_27 (by decide) (fun c1 => absurd c1 (by decide)) (fun c1 => ?_)
  refine lv_aload_n hx hb dX5_init_30 rfl (lv_at hl 1 rfl) ?_
  refine c_get (k := 0) C hK hE rfl fl_X5_9 rfl dX5_init_31 ?_
  refine lv_iload_n hx hb dX5_init_34 rfl (lv_at hl 0 rfl) ?_
  refine lv_iconst (v := 5) hx hb dX5_init_35 (by decide) ?_
  refine c_ast (k := 1) (i := 1) C hK hE hS rfl (vp_dec (by decide)) (Nat.le_add_right a _) dX5_init_36 (fun g2 H locs eg2 hsz hE hS => ?_)
  have hz := hsz.trans hz
  have hE : cl_at G a [.inr (5, [.int 0, .int 0, .ref (a + 1), .ref (a + 2)]), .inl (G.2.1, 12, .inl g2), .inl (G.2.1, 4, .inl (fun _ => 0))] H := hE
  refine lv_iinc (v := 2) (lv' := [(1, .int 2), (0, .ref a)]) hx hb dX5_init_37 hl (k := 0) rfl (by rfl) (by decide) rfl (fun ls hl => ?_)
  refine lv_goto (tgt := 21) hx hb dX5_init_40 (by decide) ?_
  refine lv_iload_n hx hb dX5_init_21 rfl (lv_at hl 0 rfl) ?_
  refine lv_aload_n hx hb dX5_init_22 rfl (lv_at hl 1 rfl) ?_
  refine c_get (k := 0) C hK hE rfl fl_X5_9 rfl dX5_init_23 ?_
  refine c_len (k := 1) (v := 12) C hK hE rfl (by rfl) dX5_init_26 ?_
  refine lv_icmp_ge (tgt := 43) hx hb dX5_init_27 (by decide) (fun c1 => absurd c1 (by decide)) (fun c1 => ?_)
  refine lv_aload_n hx hb dX5_init_30 rfl (lv_at hl 1 rfl) ?_
  refine c_get (k := 0) C hK hE rfl fl_X5_9 rfl dX5_init_31 ?_
  refine lv_iload_n hx hb dX5_init_34 rfl (lv_at hl 0 rfl) ?_
  refine lv_iconst (v := 5) hx hb dX5_init_35 (by decide) ?_
  refine c_ast (k := 1) (i := 2) C hK hE hS rfl (vp_dec (by decide)) (Nat.le_add_right a _) dX5_init_36 (fun g3 H locs eg3 hsz hE hS => ?_)
  have hz := hsz.trans hz
  have hE : cl_at G a [.inr (5, [.int 0, .int 0, .ref (a + 1), .ref (a + 2)]), .inl (G.2.1, 12, .inl g3), .inl (G.2.1, 4, .inl (fun _ => 0))] H := hE
  refine lv_iinc (v := 3) (lv' := [(1, .int 3), (0, .ref a)]) hx hb dX5_init_37 hl (k := 0) rfl (by rfl) (by decide) rfl (fun ls hl => ?_)
  refine lv_goto (tgt := 21) hx hb dX5_init_40 (by decide) ?_
  refine lv_iload_n hx hb dX5_init_21 rfl (lv_at hl 0 rfl) ?_
  refine lv_aload_n hx hb dX5_init_22 rfl (lv_at hl 1 rfl) ?_
  refine c_get (k := 0) C hK hE rfl fl_X5_9 rfl dX5_init_23 ?_
  refine c_len (k := 1) (v := 12) C hK hE rfl (by rfl) dX5_init_26 ?_
  refine lv_icmp_ge (tgt := 43) hx hb dX5_init_27 (by decide) (fun c1 => absurd c1 (by decide)) (fun c1 => ?_)
  refine lv_aload_n hx hb dX5_init_30 rfl (lv_at hl 1 rfl) ?_
  refine c_get (k := 0) C hK hE rfl fl_X5_9 rfl dX5_init_31 ?_
  refine lv_iload_n hx hb dX5_init_34 rfl (lv_at hl 0 rfl) ?_
  refine lv_iconst (v := 5) hx hb dX5_init_35 (by decide) ?_
  refine c_ast (k := 1) (i := 3) C hK hE hS rfl (vp_dec (by decide)) (Nat.le_add_right a _) dX5_init_36 (fun g4 H locs eg4 hsz hE hS => ?_)
  have hz := hsz.trans hz
  have hE : cl_at G a [.inr (5, [.int 0, .int 0, .ref (a + 1), .ref (a + 2)]), .inl (G.2.1, 12, .inl g4), .inl (G.2.1, 4, .inl (fun _ => 0))] H := hE
  refine lv_iinc (v := 4) (lv' := [(1, .int 4), (0, .ref a)]) hx hb dX5_init_37 hl (k := 0) rfl (by rfl) (by decide) rfl (fun ls hl => ?_)
  refine lv_goto (tgt := 21) hx hb dX5_init_40 (by decide) ?_
  refine lv_iload_n hx hb dX5_init_21 rfl (lv_at hl 0 rfl) ?_
  refine lv_aload_n hx hb dX5_init_22 rfl (lv_at hl 1 rfl) ?_
  refine c_get (k := 0) C hK hE rfl fl_X5_9 rfl dX5_init_23 ?_
  refine c_len (k := 1) (v := 12) C hK hE rfl (by rfl) dX5_init_26 ?_
  refine lv_icmp_ge (tgt := 43) hx hb dX5_init_27 (by decide) (fun c1 => absurd c1 (by decide)) (fun c1 => ?_)
  refine lv_aload_n hx hb dX5_init_30 rfl (lv_at hl 1 rfl) ?_
  refine c_get (k := 0) C hK hE rfl fl_X5_9 rfl dX5_init_31 ?_
  refine lv_iload_n hx hb dX5_init_34 rfl (lv_at hl 0 rfl) ?_
  refine lv_iconst (v := 5) hx hb dX5_init_35 (by decide) ?_
  refine c_ast (k := 1) (i := 4) C hK hE hS rfl (vp_dec (by decide)) (Nat.le_add_right a _) dX5_init_36 (fun g5 H locs eg5 hsz hE hS => ?_)
  have hz := hsz.trans hz
  have hE : cl_at G a [.inr (5, [.int 0, .int 0, .ref (a + 1), .ref (a + 2)]), .inl (G.2.1, 12, .inl g5), .inl (G.2.1, 4, .inl (fun _ => 0))] H := hE
  refine lv_iinc (v := 5) (lv' := [(1, .int 5), (0, .ref a)]) hx hb dX5_init_37 hl (k := 0) rfl (by rfl) (by decide) rfl (fun ls hl => ?_)
  refine lv_goto (tgt := 21) hx hb dX5_init_40 (by decide) ?_
  refine lv_iload_n hx hb dX5_init_21 rfl (lv_at hl 0 rfl) ?_
  refine lv_aload_n hx hb dX5_init_22 rfl (lv_at hl 1 rfl) ?_
  refine c_get (k := 0) C hK hE rfl fl_X5_9 rfl dX5_init_23 ?_
  refine c_len (k := 1) (v := 12) C hK hE rfl (by rfl) dX5_init_26 ?_
  refine lv_icmp_ge (tgt := 43) hx hb dX5_init_27 (by decide) (fun c1 => absurd c1 (by decide)) (fun c1 => ?_)
  refine lv_aload_n hx hb dX5_init_30 rfl (lv_at hl 1 rfl) ?_
  refine c_get (k := 0) C hK hE rfl fl_X5_9 rfl dX5_init_31 ?_
  refine lv_iload_n hx hb dX5_init_34 rfl (lv_at hl 0 rfl) ?_
  refine lv_iconst (v := 5) hx hb dX5_init_35 (by decide) ?_
  refine c_ast (k := 1) (i := 5) C hK hE hS rfl (vp_dec (by decide)) (Nat.le_add_right a _) dX5_init_36 (fun g6 H locs eg6 hsz hE hS => ?_)
  have hz := hsz.trans hz
  have hE : cl_at G a [.inr (5, [.int 0, .int 0, .ref (a + 1), .ref (a + 2)]), .inl (G.2.1, 12, .inl g6), .inl (G.2.1, 4, .inl (fun _ => 0))] H := hE
  refine lv_iinc (v := 6) (lv' := [(1, .int 6), (0, .ref a)]) hx hb dX5_init_37 hl (k := 0) rfl (by rfl) (by decide) rfl (fun ls hl => ?_)
  refine lv_goto (tgt := 21) hx hb dX5_init_40 (by decide) ?_
  refine lv_iload_n hx hb dX5_init_21 rfl (lv_at hl 0 rfl) ?_
  refine lv_aload_n hx hb dX5_init_22 rfl (lv_at hl 1 rfl) ?_
  refine c_get (k := 0) C hK hE rfl fl_X5_9 rfl dX5_init_23 ?_
  refine c_len (k := 1) (v := 12) C hK hE rfl (by rfl) dX5_init_26 ?_
  refine lv_icmp_ge (tgt := 43) hx hb dX5_init_27 (by decide) (fun c1 => absurd c1 (by decide)) (fun c1 => ?_)
  refine lv_aload_n hx hb dX5_init_30 rfl (lv_at hl 1 rfl) ?_
  refine c_get (k := 0) C hK hE rfl fl_X5_9 rfl dX5_init_31 ?_
  refine lv_iload_n hx hb dX5_init_34 rfl (lv_at hl 0 rfl) ?_
  refine lv_iconst (v := 5) hx hb dX5_init_35 (by decide) ?_
  refine c_ast (k := 1) (i := 6) C hK hE hS rfl (vp_dec (by decide)) (Nat.le_add_right a _) dX5_init_36 (fun g7 H locs eg7 hsz hE hS => ?_)
  have hz := hsz.trans hz
  have hE : cl_at G a [.inr (5, [.int 0, .int 0, .ref (a + 1), .ref (a + 2)]), .inl (G.2.1, 12, .inl g7), .inl (G.2.1, 4, .inl (fun _ => 0))] H := hE
  refine lv_iinc (v := 7) (lv' := [(1, .int 7), (0, .ref a)]) hx hb dX5_init_37 hl (k := 0) rfl (by rfl) (by decide) rfl (fun ls hl => ?_)
  refine lv_goto (tgt := 21) hx hb dX5_init_40 (by decide) ?_
  refine lv_iload_n hx hb dX5_init_21 rfl (lv_at hl 0 rfl) ?_
  refine lv_aload_n hx hb dX5_init_22 rfl (lv_at hl 1 rfl) ?_
  refine c_get (k := 0) C hK hE rfl fl_X5_9 rfl dX5_init_23 ?_
  refine c_len (k := 1) (v := 12) C hK hE rfl (by rfl) dX5_init_26 ?_
  refine lv_icmp_ge (tgt := 43) hx hb dX5_init_27 (by decide) (fun c1 => absurd c1 (by decide)) (fun c1 => ?_)
  refine lv_aload_n hx hb dX5_init_30 rfl (lv_at hl 1 rfl) ?_
  refine c_get (k := 0) C hK hE rfl fl_X5_9 rfl dX5_init_31 ?_
  refine lv_iload_n hx hb dX5_init_34 rfl (lv_at hl 0 rfl) ?_
  refine lv_iconst (v := 5) hx hb dX5_init_35 (by decide) ?_
  refine c_ast (k := 1) (i := 7) C hK hE hS rfl (vp_dec (by decide)) (Nat.le_add_right a _) dX5_init_36 (fun g8 H locs eg8 hsz hE hS => ?_)
  have hz := hsz.trans hz
  have hE : cl_at G a [.inr (5, [.int 0, .int 0, .ref (a + 1), .ref (a + 2)]), .inl (G.2.1, 12, .inl g8), .inl (G.2.1, 4, .inl (fun _ => 0))] H := hE
  refine lv_iinc (v := 8) (lv' := [(1, .int 8), (0, .ref a)]) hx hb dX5_init_37 hl (k := 0) rfl (by rfl) (by decide) rfl (fun ls hl => ?_)
  refine lv_goto (tgt := 21) hx hb dX5_init_40 (by decide) ?_
  refine lv_iload_n hx hb dX5_init_21 rfl (lv_at hl 0 rfl) ?_
  refine lv_aload_n hx hb dX5_init_22 rfl (lv_at hl 1 rfl) ?_
  refine c_get (k := 0) C hK hE rfl fl_X5_9 rfl dX5_init_23 ?_
  refine c_len (k := 1) (v := 12) C hK hE rfl (by rfl) dX5_init_26 ?_
  refine lv_icmp_ge (tgt := 43) hx hb dX5_init_27 (by decide) (fun c1 => absurd c1 (by decide)) (fun c1 => ?_)
  refine lv_aload_n hx hb dX5_init_30 rfl (lv_at hl 1 rfl) ?_
  refine c_get (k := 0) C hK hE rfl fl_X5_9 rfl dX5_init_31 ?_
  refine lv_iload_n hx hb dX5_init_34 rfl (lv_at hl 0 rfl) ?_
  refine lv_iconst (v := 5) hx hb dX5_init_35 (by decide) ?_
  refine c_ast (k := 1) (i := 8) C hK hE hS rfl (vp_dec (by decide)) (Nat.le_add_right a _) dX5_init_36 (fun g9 H locs eg9 hsz hE hS => ?_)
  have hz := hsz.trans hz
  have hE : cl_at G a [.inr (5, [.int 0, .int 0, .ref (a + 1), .ref (a + 2)]), .inl (G.2.1, 12, .inl g9), .inl (G.2.1, 4, .inl (fun _ => 0))] H := hE
  refine lv_iinc (v := 9) (lv' := [(1, .int 9), (0, .ref a)]) hx hb dX5_init_37 hl (k := 0) rfl (by rfl) (by decide) rfl (fun ls hl => ?_)
  refine lv_goto (tgt := 21) hx hb dX5_init_40 (by decide) ?_
  refine lv_iload_n hx hb dX5_init_21 rfl (lv_at hl 0 rfl) ?_
  refine lv_aload_n hx hb dX5_init_22 rfl (lv_at hl 1 rfl) ?_
  refine c_get (k := 0) C hK hE rfl fl_X5_9 rfl dX5_init_23 ?_
  refine c_len (k := 1) (v := 12) C hK hE rfl (by rfl) dX5_init_26 ?_
  refine lv_icmp_ge (tgt := 43) hx hb dX5_init_27 (by decide) (fun c1 => absurd c1 (by decide)) (fun c1 => ?_)
  refine lv_aload_n hx hb dX5_init_30 rfl (lv_at hl 1 rfl) ?_
  refine c_get (k := 0) C hK hE rfl fl_X5_9 rfl dX5_init_31 ?_
  refine lv_iload_n hx hb dX5_init_34 rfl (lv_at hl 0 rfl) ?_
  refine lv_iconst (v := 5) hx hb dX5_init_35 (by decide) ?_
  refine c_ast (k := 1) (i := 9) C hK hE hS rfl (vp_dec (by decide)) (Nat.le_add_right a _) dX5_init_36 (fun g10 H locs eg10 hsz hE hS => ?_)
  have hz := hsz.trans hz
  have hE : cl_at G a [.inr (5, [.int 0, .int 0, .ref (a + 1), .ref (a + 2)]), .inl (G.2.1, 12, .inl g10), .inl (G.2.1, 4, .inl (fun _ => 0))] H := hE
  refine lv_iinc (v := 10) (lv' := [(1, .int 10), (0, .ref a)]) hx hb dX5_init_37 hl (k := 0) rfl (by rfl) (by decide) rfl (fun ls hl => ?_)
  refine lv_goto (tgt := 21) hx hb dX5_init_40 (by decide) ?_
  refine lv_iload_n hx hb dX5_init_21 rfl (lv_at hl 0 rfl) ?_
  refine lv_aload_n hx hb dX5_init_22 rfl (lv_at hl 1 rfl) ?_
  refine c_get (k := 0) C hK hE rfl fl_X5_9 rfl dX5_init_23 ?_
  refine c_len (k := 1) (v := 12) C hK hE rfl (by rfl) dX5_init_26 ?_
  refine lv_icmp_ge (tgt := 43) hx hb dX5_init_27 (by decide) (fun c1 => absurd c1 (by decide)) (fun c1 => ?_)
  refine lv_aload_n hx hb dX5_init_30 rfl (lv_at hl 1 rfl) ?_
  refine c_get (k := 0) C hK hE rfl fl_X5_9 rfl dX5_init_31 ?_
  refine lv_iload_n hx hb dX5_init_34 rfl (lv_at hl 0 rfl) ?_
  refine lv_iconst (v := 5) hx hb dX5_init_35 (by decide) ?_
  refine c_ast (k := 1) (i := 10) C hK hE hS rfl (vp_dec (by decide)) (Nat.le_add_right a _) dX5_init_36 (fun g11 H locs eg11 hsz hE hS => ?_)
  have hz := hsz.trans hz
  have hE : cl_at G a [.inr (5, [.int 0, .int 0, .ref (a + 1), .ref (a + 2)]), .inl (G.2.1, 12, .inl g11), .inl (G.2.1, 4, .inl (fun _ => 0))] H := hE
  refine lv_iinc (v := 11) (lv' := [(1, .int 11), (0, .ref a)]) hx hb dX5_init_37 hl (k := 0) rfl (by rfl) (by decide) rfl (fun ls hl => ?_)
  refine lv_goto (tgt := 21) hx hb dX5_init_40 (by decide) ?_
  refine lv_iload_n hx hb dX5_init_21 rfl (lv_at hl 0 rfl) ?_
  refine lv_aload_n hx hb dX5_init_22 rfl (lv_at hl 1 rfl) ?_
  refine c_get (k := 0) C hK hE rfl fl_X5_9 rfl dX5_init_23 ?_
  refine c_len (k := 1) (v := 12) C hK hE rfl (by rfl) dX5_init_26 ?_
  refine lv_icmp_ge (tgt := 43) hx hb dX5_init_27 (by decide) (fun c1 => absurd c1 (by decide)) (fun c1 => ?_)
  refine lv_aload_n hx hb dX5_init_30 rfl (lv_at hl 1 rfl) ?_
  refine c_get (k := 0) C hK hE rfl fl_X5_9 rfl dX5_init_31 ?_
  refine lv_iload_n hx hb dX5_init_34 rfl (lv_at hl 0 rfl) ?_
  refine lv_iconst (v := 5) hx hb dX5_init_35 (by decide) ?_
  refine c_ast (k := 1) (i := 11) C hK hE hS rfl (vp_dec (by decide)) (Nat.le_add_right a _) dX5_init_36 (fun g12 H locs eg12 hsz hE hS => ?_)
  have hz := hsz.trans hz
  have hE : cl_at G a [.inr (5, [.int 0, .int 0, .ref (a + 1), .ref (a + 2)]), .inl (G.2.1, 12, .inl g12), .inl (G.2.1, 4, .inl (fun _ => 0))] H := hE
  refine lv_iinc (v := 12) (lv' := [(1, .int 12), (0, .ref a)]) hx hb dX5_init_37 hl (k := 0) rfl (by rfl) (by decide) rfl (fun ls hl => ?_)
  refine lv_goto (tgt := 21) hx hb dX5_init_40 (by decide) ?_
  refine lv_iload_n hx hb dX5_init_21 rfl (lv_at hl 0 rfl) ?_
  refine lv_aload_n hx hb dX5_init_22 rfl (lv_at hl 1 rfl) ?_
  refine c_get (k := 0) C hK hE rfl fl_X5_9 rfl dX5_init_23 ?_
  refine c_len (k := 1) (v := 12) C hK hE rfl (by rfl) dX5_init_26 ?_
  refine lv_icmp_ge (tgt := 43) hx hb dX5_init_27 (by decide) (fun c1 => ?_) (fun c1 => absurd c1 (by decide))
  have hE := hE.arr (k := 1) (n := 12) (g := fun _ => 5) rfl (fun j hj => by subst eg12; subst eg11; subst eg10; subst eg9; subst eg8; subst eg7; subst eg6; subst eg5; subst eg4; subst eg3; subst eg2; subst eg1; rcases (show j = 0 ∨ j = 1 ∨ j = 2 ∨ j = 3 ∨ j = 4 ∨ j = 5 ∨ j = 6 ∨ j = 7 ∨ j = 8 ∨ j = 9 ∨ j = 10 ∨ j = 11 by omega) with rfl | rfl | rfl | rfl | rfl | rfl | rfl | rfl | rfl | rfl | rfl | rfl <;> rfl)
  exact c_ret (es := esP G a) C hr hK hE hz hS rfl rfl dX5_init_43
theorem dX2_init_0 : decode cX2_init 0 = .ok (.aload_n 0, 1) := by decide +kernel
theorem dX2_init_1 : decode cX2_init 1 = .ok (.invokespecial 3, 3) := by decide +kernel
theorem dX2_init_4 : decode cX2_init 4 = .ok (.aload_n 0, 1) := by decide +kernel
theorem dX2_init_5 : decode cX2_init 5 = .ok (.bipush 12, 2) := by decide +kernel
theorem dX2_init_7 : decode cX2_init 7 = .ok (.newarray .int, 2) := by decide +kernel
theorem dX2_init_9 : decode cX2_init 9 = .ok (.putfield 9, 3) := by decide +kernel
theorem dX2_init_12 : decode cX2_init 12 = .ok (.aload_n 0, 1) := by decide +kernel
theorem dX2_init_13 : decode cX2_init 13 = .ok (.bipush 12, 2) := by decide +kernel
theorem dX2_init_15 : decode cX2_init 15 = .ok (.newarray .int, 2) := by decide +kernel
theorem dX2_init_17 : decode cX2_init 17 = .ok (.putfield 15, 3) := by decide +kernel
theorem dX2_init_20 : decode cX2_init 20 = .ok (.aload_n 0, 1) := by decide +kernel
theorem dX2_init_21 : decode cX2_init 21 = .ok (.bipush 12, 2) := by decide +kernel
theorem dX2_init_23 : decode cX2_init 23 = .ok (.newarray .int, 2) := by decide +kernel
theorem dX2_init_25 : decode cX2_init 25 = .ok (.putfield 18, 3) := by decide +kernel
theorem dX2_init_28 : decode cX2_init 28 = .ok (.aload_n 0, 1) := by decide +kernel
theorem dX2_init_29 : decode cX2_init 29 = .ok (.bipush 12, 2) := by decide +kernel
theorem dX2_init_31 : decode cX2_init 31 = .ok (.newarray .int, 2) := by decide +kernel
theorem dX2_init_33 : decode cX2_init 33 = .ok (.putfield 21, 3) := by decide +kernel
theorem dX2_init_36 : decode cX2_init 36 = .ok (.aload_n 0, 1) := by decide +kernel
theorem dX2_init_37 : decode cX2_init 37 = .ok (.bipush 12, 2) := by decide +kernel
theorem dX2_init_39 : decode cX2_init 39 = .ok (.newarray .int, 2) := by decide +kernel
theorem dX2_init_41 : decode cX2_init 41 = .ok (.putfield 24, 3) := by decide +kernel
theorem dX2_init_44 : decode cX2_init 44 = .ok (.aload_n 0, 1) := by decide +kernel
theorem dX2_init_45 : decode cX2_init 45 = .ok (.bipush 12, 2) := by decide +kernel
theorem dX2_init_47 : decode cX2_init 47 = .ok (.newarray .int, 2) := by decide +kernel
theorem dX2_init_49 : decode cX2_init 49 = .ok (.putfield 27, 3) := by decide +kernel
theorem dX2_init_52 : decode cX2_init 52 = .ok (.aload_n 0, 1) := by decide +kernel
theorem dX2_init_53 : decode cX2_init 53 = .ok (.bipush 12, 2) := by decide +kernel
theorem dX2_init_55 : decode cX2_init 55 = .ok (.newarray .int, 2) := by decide +kernel
theorem dX2_init_57 : decode cX2_init 57 = .ok (.putfield 30, 3) := by decide +kernel
theorem dX2_init_60 : decode cX2_init 60 = .ok (.iconst 0, 1) := by decide +kernel
theorem dX2_init_61 : decode cX2_init 61 = .ok (.istore_n 1, 1) := by decide +kernel
theorem dX2_init_62 : decode cX2_init 62 = .ok (.iload_n 1, 1) := by decide +kernel
theorem dX2_init_63 : decode cX2_init 63 = .ok (.bipush 12, 2) := by decide +kernel
theorem dX2_init_65 : decode cX2_init 65 = .ok (.if_icmp .ge 30, 3) := by decide +kernel
theorem dX2_init_68 : decode cX2_init 68 = .ok (.aload_n 0, 1) := by decide +kernel
theorem dX2_init_69 : decode cX2_init 69 = .ok (.getfield 9, 3) := by decide +kernel
theorem dX2_init_72 : decode cX2_init 72 = .ok (.iload_n 1, 1) := by decide +kernel
theorem dX2_init_73 : decode cX2_init 73 = .ok (.bipush 30, 2) := by decide +kernel
theorem dX2_init_75 : decode cX2_init 75 = .ok (.iload_n 1, 1) := by decide +kernel
theorem dX2_init_76 : decode cX2_init 76 = .ok (.iconst 3, 1) := by decide +kernel
theorem dX2_init_77 : decode cX2_init 77 = .ok (.irem, 1) := by decide +kernel
theorem dX2_init_78 : decode cX2_init 78 = .ok (.iconst 1, 1) := by decide +kernel
theorem dX2_init_79 : decode cX2_init 79 = .ok (.iadd, 1) := by decide +kernel
theorem dX2_init_80 : decode cX2_init 80 = .ok (.imul, 1) := by decide +kernel
theorem dX2_init_81 : decode cX2_init 81 = .ok (.iastore, 1) := by decide +kernel
theorem dX2_init_82 : decode cX2_init 82 = .ok (.aload_n 0, 1) := by decide +kernel
theorem dX2_init_83 : decode cX2_init 83 = .ok (.getfield 15, 3) := by decide +kernel
theorem dX2_init_86 : decode cX2_init 86 = .ok (.iload_n 1, 1) := by decide +kernel
theorem dX2_init_87 : decode cX2_init 87 = .ok (.iconst (-1), 1) := by decide +kernel
theorem dX2_init_88 : decode cX2_init 88 = .ok (.iastore, 1) := by decide +kernel
theorem dX2_init_89 : decode cX2_init 89 = .ok (.iinc 1 1, 3) := by decide +kernel
theorem dX2_init_92 : decode cX2_init 92 = .ok (.goto (-30), 3) := by decide +kernel
theorem dX2_init_95 : decode cX2_init 95 = .ok (.return_, 1) := by decide +kernel
set_option maxHeartbeats 16000000 in
set_option maxRecDepth 100000 in
theorem n_X2_init (l : Launch) (G : GG) (a : Nat) : CtN l yX2_init cX2_init 2 { frames := 1, cells := 7, slots := 84, locals := 12 } a 2 [.int 0, .null, .null, .null, .null, .null, .null, .null] G (esL G a) 7 84 := by
  refine met_startN (own := RX2) (by decide) rfl rfl (Nat.le_of_ble_eq_true rfl) (fun p e s m below meth c ls C hr hname hz hE hK hl => ?_)
  obtain ⟨hx, hb, hml, hown, hts, hlocks⟩ := id C
  have hS : va_S (fun q => a ≤ q) s.heap s.heap [] := va_S.rf
  refine lv_aload_n hx hb dX2_init_0 rfl (lv_at hl 0 rfl) ?_
  refine c_obj C hl.1 oi_X2_3 dX2_init_1 (Nat.le_of_ble_eq_true rfl) (Nat.le_of_ble_eq_true rfl) ?_
  refine lv_aload_n hx hb dX2_init_4 rfl (lv_at hl 0 rfl) ?_
  refine lv_bipush (v := 12) hx hb dX2_init_5 (by decide) ?_
  refine c_newa (k := 1) (N := 12) (es' := [.inr (2, [.int 0, .null, .null, .null, .null, .null, .null, .null]), .inl (G.2.1, 12, .inl (fun _ => 0))]) C hK hz rfl hE hS (by decide) (by decide) (Nat.le_of_ble_eq_true rfl) (Nat.le_of_ble_eq_true rfl) (Nat.le_of_ble_eq_true rfl) dX2_init_7 rfl (fun H hz hE hS => ?_)
  refine c_put (k := 0) (f := 1) (ci := 2) (ty := (.array .int)) (es' := [.inr (2, [.int 0, .ref (a + 1), .null, .null, .null, .null, .null, .null]), .inl (G.2.1, 12, .inl (fun _ => 0))]) C hK hname hE hS rfl rfl fl_X2_9 tyX2_ok nmX2 rfl rfl (by decide +kernel) rfl rfl (Nat.le_of_ble_eq_true rfl) (Nat.le_add_right a _) dX2_init_9 rfl (fun H locs hsz hE hS => ?_)
  have hz := hsz.trans hz
  refine lv_aload_n hx hb dX2_init_12 rfl (lv_at hl 0 rfl) ?_
  refine lv_bipush (v := 12) hx hb dX2_init_13 (by decide) ?_
  refine c_newa (k := 2) (N := 12) (es' := [.inr (2, [.int 0, .ref (a + 1), .null, .null, .null, .null, .null, .null]), .inl (G.2.1, 12, .inl (fun _ => 0)), .inl (G.2.1, 12, .inl (fun _ => 0))]) C hK hz rfl hE hS (by decide) (by decide) (Nat.le_of_ble_eq_true rfl) (Nat.le_of_ble_eq_true rfl) (Nat.le_of_ble_eq_true rfl) dX2_init_15 rfl (fun H hz hE hS => ?_)
  refine c_put (k := 0) (f := 2) (ci := 2) (ty := (.array .int)) (es' := [.inr (2, [.int 0, .ref (a + 1), .ref (a + 2), .null, .null, .null, .null, .null]), .inl (G.2.1, 12, .inl (fun _ => 0)), .inl (G.2.1, 12, .inl (fun _ => 0))]) C hK hname hE hS rfl rfl fl_X2_15 tyX2_ok nmX2 rfl rfl (by decide +kernel) rfl rfl (Nat.le_of_ble_eq_true rfl) (Nat.le_add_right a _) dX2_init_17 rfl (fun H locs hsz hE hS => ?_)
  have hz := hsz.trans hz
  refine lv_aload_n hx hb dX2_init_20 rfl (lv_at hl 0 rfl) ?_
  refine lv_bipush (v := 12) hx hb dX2_init_21 (by decide) ?_
  refine c_newa (k := 3) (N := 12) (es' := [.inr (2, [.int 0, .ref (a + 1), .ref (a + 2), .null, .null, .null, .null, .null]), .inl (G.2.1, 12, .inl (fun _ => 0)), .inl (G.2.1, 12, .inl (fun _ => 0)), .inl (G.2.1, 12, .inl (fun _ => 0))]) C hK hz rfl hE hS (by decide) (by decide) (Nat.le_of_ble_eq_true rfl) (Nat.le_of_ble_eq_true rfl) (Nat.le_of_ble_eq_true rfl) dX2_init_23 rfl (fun H hz hE hS => ?_)
  refine c_put (k := 0) (f := 3) (ci := 2) (ty := (.array .int)) (es' := [.inr (2, [.int 0, .ref (a + 1), .ref (a + 2), .ref (a + 3), .null, .null, .null, .null]), .inl (G.2.1, 12, .inl (fun _ => 0)), .inl (G.2.1, 12, .inl (fun _ => 0)), .inl (G.2.1, 12, .inl (fun _ => 0))]) C hK hname hE hS rfl rfl fl_X2_18 tyX2_ok nmX2 rfl rfl (by decide +kernel) rfl rfl (Nat.le_of_ble_eq_true rfl) (Nat.le_add_right a _) dX2_init_25 rfl (fun H locs hsz hE hS => ?_)
  have hz := hsz.trans hz
  refine lv_aload_n hx hb dX2_init_28 rfl (lv_at hl 0 rfl) ?_
  refine lv_bipush (v := 12) hx hb dX2_init_29 (by decide) ?_
  refine c_newa (k := 4) (N := 12) (es' := [.inr (2, [.int 0, .ref (a + 1), .ref (a + 2), .ref (a + 3), .null, .null, .null, .null]), .inl (G.2.1, 12, .inl (fun _ => 0)), .inl (G.2.1, 12, .inl (fun _ => 0)), .inl (G.2.1, 12, .inl (fun _ => 0)), .inl (G.2.1, 12, .inl (fun _ => 0))]) C hK hz rfl hE hS (by decide) (by decide) (Nat.le_of_ble_eq_true rfl) (Nat.le_of_ble_eq_true rfl) (Nat.le_of_ble_eq_true rfl) dX2_init_31 rfl (fun H hz hE hS => ?_)
  refine c_put (k := 0) (f := 4) (ci := 2) (ty := (.array .int)) (es' := [.inr (2, [.int 0, .ref (a + 1), .ref (a + 2), .ref (a + 3), .ref (a + 4), .null, .null, .null]), .inl (G.2.1, 12, .inl (fun _ => 0)), .inl (G.2.1, 12, .inl (fun _ => 0)), .inl (G.2.1, 12, .inl (fun _ => 0)), .inl (G.2.1, 12, .inl (fun _ => 0))]) C hK hname hE hS rfl rfl fl_X2_21 tyX2_ok nmX2 rfl rfl (by decide +kernel) rfl rfl (Nat.le_of_ble_eq_true rfl) (Nat.le_add_right a _) dX2_init_33 rfl (fun H locs hsz hE hS => ?_)
  have hz := hsz.trans hz
  refine lv_aload_n hx hb dX2_init_36 rfl (lv_at hl 0 rfl) ?_
  refine lv_bipush (v := 12) hx hb dX2_init_37 (by decide) ?_
  refine c_newa (k := 5) (N := 12) (es' := [.inr (2, [.int 0, .ref (a + 1), .ref (a + 2), .ref (a + 3), .ref (a + 4), .null, .null, .null]), .inl (G.2.1, 12, .inl (fun _ => 0)), .inl (G.2.1, 12, .inl (fun _ => 0)), .inl (G.2.1, 12, .inl (fun _ => 0)), .inl (G.2.1, 12, .inl (fun _ => 0)), .inl (G.2.1, 12, .inl (fun _ => 0))]) C hK hz rfl hE hS (by decide) (by decide) (Nat.le_of_ble_eq_true rfl) (Nat.le_of_ble_eq_true rfl) (Nat.le_of_ble_eq_true rfl) dX2_init_39 rfl (fun H hz hE hS => ?_)
  refine c_put (k := 0) (f := 5) (ci := 2) (ty := (.array .int)) (es' := [.inr (2, [.int 0, .ref (a + 1), .ref (a + 2), .ref (a + 3), .ref (a + 4), .ref (a + 5), .null, .null]), .inl (G.2.1, 12, .inl (fun _ => 0)), .inl (G.2.1, 12, .inl (fun _ => 0)), .inl (G.2.1, 12, .inl (fun _ => 0)), .inl (G.2.1, 12, .inl (fun _ => 0)), .inl (G.2.1, 12, .inl (fun _ => 0))]) C hK hname hE hS rfl rfl fl_X2_24 tyX2_ok nmX2 rfl rfl (by decide +kernel) rfl rfl (Nat.le_of_ble_eq_true rfl) (Nat.le_add_right a _) dX2_init_41 rfl (fun H locs hsz hE hS => ?_)
  have hz := hsz.trans hz
  refine lv_aload_n hx hb dX2_init_44 rfl (lv_at hl 0 rfl) ?_
  refine lv_bipush (v := 12) hx hb dX2_init_45 (by decide) ?_
  refine c_newa (k := 6) (N := 12) (es' := [.inr (2, [.int 0, .ref (a + 1), .ref (a + 2), .ref (a + 3), .ref (a + 4), .ref (a + 5), .null, .null]), .inl (G.2.1, 12, .inl (fun _ => 0)), .inl (G.2.1, 12, .inl (fun _ => 0)), .inl (G.2.1, 12, .inl (fun _ => 0)), .inl (G.2.1, 12, .inl (fun _ => 0)), .inl (G.2.1, 12, .inl (fun _ => 0)), .inl (G.2.1, 12, .inl (fun _ => 0))]) C hK hz rfl hE hS (by decide) (by decide) (Nat.le_of_ble_eq_true rfl) (Nat.le_of_ble_eq_true rfl) (Nat.le_of_ble_eq_true rfl) dX2_init_47 rfl (fun H hz hE hS => ?_)
  refine c_put (k := 0) (f := 6) (ci := 2) (ty := (.array .int)) (es' := [.inr (2, [.int 0, .ref (a + 1), .ref (a + 2), .ref (a + 3), .ref (a + 4), .ref (a + 5), .ref (a + 6), .null]), .inl (G.2.1, 12, .inl (fun _ => 0)), .inl (G.2.1, 12, .inl (fun _ => 0)), .inl (G.2.1, 12, .inl (fun _ => 0)), .inl (G.2.1, 12, .inl (fun _ => 0)), .inl (G.2.1, 12, .inl (fun _ => 0)), .inl (G.2.1, 12, .inl (fun _ => 0))]) C hK hname hE hS rfl rfl fl_X2_27 tyX2_ok nmX2 rfl rfl (by decide +kernel) rfl rfl (Nat.le_of_ble_eq_true rfl) (Nat.le_add_right a _) dX2_init_49 rfl (fun H locs hsz hE hS => ?_)
  have hz := hsz.trans hz
  refine lv_aload_n hx hb dX2_init_52 rfl (lv_at hl 0 rfl) ?_
  refine lv_bipush (v := 12) hx hb dX2_init_53 (by decide) ?_
  refine c_newa (k := 7) (N := 12) (es' := [.inr (2, [.int 0, .ref (a + 1), .ref (a + 2), .ref (a + 3), .ref (a + 4), .ref (a + 5), .ref (a + 6), .null]), .inl (G.2.1, 12, .inl (fun _ => 0)), .inl (G.2.1, 12, .inl (fun _ => 0)), .inl (G.2.1, 12, .inl (fun _ => 0)), .inl (G.2.1, 12, .inl (fun _ => 0)), .inl (G.2.1, 12, .inl (fun _ => 0)), .inl (G.2.1, 12, .inl (fun _ => 0)), .inl (G.2.1, 12, .inl (fun _ => 0))]) C hK hz rfl hE hS (by decide) (by decide) (Nat.le_of_ble_eq_true rfl) (Nat.le_of_ble_eq_true rfl) (Nat.le_of_ble_eq_true rfl) dX2_init_55 rfl (fun H hz hE hS => ?_)
  refine c_put (k := 0) (f := 7) (ci := 2) (ty := (.array .int)) (es' := [.inr (2, [.int 0, .ref (a + 1), .ref (a + 2), .ref (a + 3), .ref (a + 4), .ref (a + 5), .ref (a + 6), .ref (a + 7)]), .inl (G.2.1, 12, .inl (fun _ => 0)), .inl (G.2.1, 12, .inl (fun _ => 0)), .inl (G.2.1, 12, .inl (fun _ => 0)), .inl (G.2.1, 12, .inl (fun _ => 0)), .inl (G.2.1, 12, .inl (fun _ => 0)), .inl (G.2.1, 12, .inl (fun _ => 0)), .inl (G.2.1, 12, .inl (fun _ => 0))]) C hK hname hE hS rfl rfl fl_X2_30 tyX2_ok nmX2 rfl rfl (by decide +kernel) rfl rfl (Nat.le_of_ble_eq_true rfl) (Nat.le_add_right a _) dX2_init_57 rfl (fun H locs hsz hE hS => ?_)
  have hz := hsz.trans hz
  refine lv_iconst (v := 0) hx hb dX2_init_60 (by decide) ?_
  refine lv_istore_n (lv' := [(1, .int 0), (0, .ref a)]) hx hb dX2_init_61 rfl hl (by decide) rfl (fun ls hl => ?_)
  refine lv_iload_n hx hb dX2_init_62 rfl (lv_at hl 0 rfl) ?_
  refine lv_bipush (v := 12) hx hb dX2_init_63 (by decide) ?_
  refine lv_icmp_ge (tgt := 95) hx hb dX2_init_65 (by decide) (fun c1 => absurd c1 (by decide)) (fun c1 => ?_)
  refine lv_aload_n hx hb dX2_init_68 rfl (lv_at hl 1 rfl) ?_
  refine c_get (k := 0) C hK hE rfl fl_X2_9 rfl dX2_init_69 ?_
  refine lv_iload_n hx hb dX2_init_72 rfl (lv_at hl 0 rfl) ?_
  refine lv_bipush (v := 30) hx hb dX2_init_73 (by decide) ?_
  refine lv_iload_n hx hb dX2_init_75 rfl (lv_at hl 0 rfl) ?_
  refine lv_iconst (v := 3) hx hb dX2_init_76 (by decide) ?_
  refine lv_irem hx hb dX2_init_77 (by decide) ?_
  refine lv_iconst (v := 1) hx hb dX2_init_78 (by decide) ?_
  refine lv_iadd hx hb dX2_init_79 ?_
  refine lv_imul hx hb dX2_init_80 ?_
  refine c_ast (k := 1) (i := 0) C hK hE hS rfl (vp_dec (by decide)) (Nat.le_add_right a _) dX2_init_81 (fun g1 H locs eg1 hsz hE hS => ?_)
  have hz := hsz.trans hz
  have hE : cl_at G a [.inr (2, [.int 0, .ref (a + 1), .ref (a + 2), .ref (a + 3), .ref (a + 4), .ref (a + 5), .ref (a + 6), .ref (a + 7)]), .inl (G.2.1, 12, .inl g1), .inl (G.2.1, 12, .inl (fun _ => 0)), .inl (G.2.1, 12, .inl (fun _ => 0)), .inl (G.2.1, 12, .inl (fun _ => 0)), .inl (G.2.1, 12, .inl (fun _ => 0)), .inl (G.2.1, 12, .inl (fun _ => 0)), .inl (G.2.1, 12, .inl (fun _ => 0))] H := hE
  refine lv_aload_n hx hb dX2_init_82 rfl (lv_at hl 1 rfl) ?_
  refine c_get (k := 0) C hK hE rfl fl_X2_15 rfl dX2_init_83 ?_
  refine lv_iload_n hx hb dX2_init_86 rfl (lv_at hl 0 rfl) ?_
  refine lv_iconst (v := (-1)) hx hb dX2_init_87 (by decide) ?_
  refine c_ast (k := 2) (i := 0) C hK hE hS rfl (vp_dec (by decide)) (Nat.le_add_right a _) dX2_init_88 (fun g2 H locs eg2 hsz hE hS => ?_)
  have hz := hsz.trans hz
  have hE : cl_at G a [.inr (2, [.int 0, .ref (a + 1), .ref (a + 2), .ref (a + 3), .ref (a + 4), .ref (a + 5), .ref (a + 6), .ref (a + 7)]), .inl (G.2.1, 12, .inl g1), .inl (G.2.1, 12, .inl g2), .inl (G.2.1, 12, .inl (fun _ => 0)), .inl (G.2.1, 12, .inl (fun _ => 0)), .inl (G.2.1, 12, .inl (fun _ => 0)), .inl (G.2.1, 12, .inl (fun _ => 0)), .inl (G.2.1, 12, .inl (fun _ => 0))] H := hE
  refine lv_iinc (v := 1) (lv' := [(1, .int 1), (0, .ref a)]) hx hb dX2_init_89 hl (k := 0) rfl (by rfl) (by decide) rfl (fun ls hl => ?_)
  refine lv_goto (tgt := 62) hx hb dX2_init_92 (by decide) ?_
  refine lv_iload_n hx hb dX2_init_62 rfl (lv_at hl 0 rfl) ?_
  refine lv_bipush (v := 12) hx hb dX2_init_63 (by decide) ?_
  refine lv_icmp_ge (tgt := 95) hx hb dX2_init_65 (by decide) (fun c1 => absurd c1 (by decide)) (fun c1 => ?_)
  refine lv_aload_n hx hb dX2_init_68 rfl (lv_at hl 1 rfl) ?_
  refine c_get (k := 0) C hK hE rfl fl_X2_9 rfl dX2_init_69 ?_
  refine lv_iload_n hx hb dX2_init_72 rfl (lv_at hl 0 rfl) ?_
  refine lv_bipush (v := 30) hx hb dX2_init_73 (by decide) ?_
  refine lv_iload_n hx hb dX2_init_75 rfl (lv_at hl 0 rfl) ?_
  refine lv_iconst (v := 3) hx hb dX2_init_76 (by decide) ?_
  refine lv_irem hx hb dX2_init_77 (by decide) ?_
  refine lv_iconst (v := 1) hx hb dX2_init_78 (by decide) ?_
  refine lv_iadd hx hb dX2_init_79 ?_
  refine lv_imul hx hb dX2_init_80 ?_
  refine c_ast (k := 1) (i := 1) C hK hE hS rfl (vp_dec (by decide)) (Nat.le_add_right a _) dX2_init_81 (fun g3 H locs eg3 hsz hE hS => ?_)
  have hz := hsz.trans hz
  have hE : cl_at G a [.inr (2, [.int 0, .ref (a + 1), .ref (a + 2), .ref (a + 3), .ref (a + 4), .ref (a + 5), .ref (a + 6), .ref (a + 7)]), .inl (G.2.1, 12, .inl g3), .inl (G.2.1, 12, .inl g2), .inl (G.2.1, 12, .inl (fun _ => 0)), .inl (G.2.1, 12, .inl (fun _ => 0)), .inl (G.2.1, 12, .inl (fun _ => 0)), .inl (G.2.1, 12, .inl (fun _ => 0)), .inl (G.2.1, 12, .inl (fun _ => 0))] H := hE
  refine lv_aload_n hx hb dX2_init_82 rfl (lv_at hl 1 rfl) ?_
  refine c_get (k := 0) C hK hE rfl fl_X2_15 rfl dX2_init_83 ?_
  refine lv_iload_n hx hb dX2_init_86 rfl (lv_at hl 0 rfl) ?_
  refine lv_iconst (v := (-1)) hx hb dX2_init_87 (by decide) ?_
  refine c_ast (k := 2) (i := 1) C hK hE hS rfl (vp_dec (by decide)) (Nat.le_add_right a _) dX2_init_88 (fun g4 H locs eg4 hsz hE hS => ?_)
  have hz := hsz.trans hz
  have hE : cl_at G a [.inr (2, [.int 0, .ref (a + 1), .ref (a + 2), .ref (a + 3), .ref (a + 4), .ref (a + 5), .ref (a + 6), .ref (a + 7)]), .inl (G.2.1, 12, .inl g3), .inl (G.2.1, 12, .inl g4), .inl (G.2.1, 12, .inl (fun _ => 0)), .inl (G.2.1, 12, .inl (fun _ => 0)), .inl (G.2.1, 12, .inl (fun _ => 0)), .inl (G.2.1, 12, .inl (fun _ => 0)), .inl (G.2.1, 12, .inl (fun _ => 0))] H := hE
  refine lv_iinc (v := 2) (lv' := [(1, .int 2), (0, .ref a)]) hx hb dX2_init_89 hl (k := 0) rfl (by rfl) (by decide) rfl (fun ls hl => ?_)
  refine lv_goto (tgt := 62) hx hb dX2_init_92 (by decide) ?_
  refine lv_iload_n hx hb dX2_init_62 rfl (lv_at hl 0 rfl) ?_
  refine lv_bipush (v := 12) hx hb dX2_init_63 (by decide) ?_
  refine lv_icmp_ge (tgt := 95) hx hb dX2_init_65 (by decide) (fun c1 => absurd c1 (by decide)) (fun c1 => ?_)
  refine lv_aload_n hx hb dX2_init_68 rfl (lv_at hl 1 rfl) ?_
  refine c_get (k := 0) C hK hE rfl fl_X2_9 rfl dX2_init_69 ?_
  refine lv_iload_n hx hb dX2_init_72 rfl (lv_at hl 0 rfl) ?_
  refine lv_bipush (v := 30) hx hb dX2_init_73 (by decide) ?_
  refine lv_iload_n hx hb dX2_init_75 rfl (lv_at hl 0 rfl) ?_
  refine lv_iconst (v := 3) hx hb dX2_init_76 (by decide) ?_
  refine lv_irem hx hb dX2_init_77 (by decide) ?_
  refine lv_iconst (v := 1) hx hb dX2_init_78 (by decide) ?_
  refine lv_iadd hx hb dX2_init_79 ?_
  refine lv_imul hx hb dX2_init_80 ?_
  refine c_ast (k := 1) (i := 2) C hK hE hS rfl (vp_dec (by decide)) (Nat.le_add_right a _) dX2_init_81 (fun g5 H locs eg5 hsz hE hS => ?_)
  have hz := hsz.trans hz
  have hE : cl_at G a [.inr (2, [.int 0, .ref (a + 1), .ref (a + 2), .ref (a + 3), .ref (a + 4), .ref (a + 5), .ref (a + 6), .ref (a + 7)]), .inl (G.2.1, 12, .inl g5), .inl (G.2.1, 12, .inl g4), .inl (G.2.1, 12, .inl (fun _ => 0)), .inl (G.2.1, 12, .inl (fun _ => 0)), .inl (G.2.1, 12, .inl (fun _ => 0)), .inl (G.2.1, 12, .inl (fun _ => 0)), .inl (G.2.1, 12, .inl (fun _ => 0))] H := hE
  refine lv_aload_n hx hb dX2_init_82 rfl (lv_at hl 1 rfl) ?_
  refine c_get (k := 0) C hK hE rfl fl_X2_15 rfl dX2_init_83 ?_
  refine lv_iload_n hx hb dX2_init_86 rfl (lv_at hl 0 rfl) ?_
  refine lv_iconst (v := (-1)) hx hb dX2_init_87 (by decide) ?_
  refine c_ast (k := 2) (i := 2) C hK hE hS rfl (vp_dec (by decide)) (Nat.le_add_right a _) dX2_init_88 (fun g6 H locs eg6 hsz hE hS => ?_)
  have hz := hsz.trans hz
  have hE : cl_at G a [.inr (2, [.int 0, .ref (a + 1), .ref (a + 2), .ref (a + 3), .ref (a + 4), .ref (a + 5), .ref (a + 6), .ref (a + 7)]), .inl (G.2.1, 12, .inl g5), .inl (G.2.1, 12, .inl g6), .inl (G.2.1, 12, .inl (fun _ => 0)), .inl (G.2.1, 12, .inl (fun _ => 0)), .inl (G.2.1, 12, .inl (fun _ => 0)), .inl (G.2.1, 12, .inl (fun _ => 0)), .inl (G.2.1, 12, .inl (fun _ => 0))] H := hE
  refine lv_iinc (v := 3) (lv' := [(1, .int 3), (0, .ref a)]) hx hb dX2_init_89 hl (k := 0) rfl (by rfl) (by decide) rfl (fun ls hl => ?_)
  refine lv_goto (tgt := 62) hx hb dX2_init_92 (by decide) ?_
  refine lv_iload_n hx hb dX2_init_62 rfl (lv_at hl 0 rfl) ?_
  refine lv_bipush (v := 12) hx hb dX2_init_63 (by decide) ?_
  refine lv_icmp_ge (tgt := 95) hx hb dX2_init_65 (by decide) (fun c1 => absurd c1 (by decide)) (fun c1 => ?_)
  refine lv_aload_n hx hb dX2_init_68 rfl (lv_at hl 1 rfl) ?_
  refine c_get (k := 0) C hK hE rfl fl_X2_9 rfl dX2_init_69 ?_
  refine lv_iload_n hx hb dX2_init_72 rfl (lv_at hl 0 rfl) ?_
  refine lv_bipush (v := 30) hx hb dX2_init_73 (by decide) ?_
  refine lv_iload_n hx hb dX2_init_75 rfl (lv_at hl 0 rfl) ?_
  refine lv_iconst (v := 3) hx hb dX2_init_76 (by decide) ?_
  refine lv_irem hx hb dX2_init_77 (by decide) ?_
  refine lv_iconst (v := 1) hx hb dX2_init_78 (by decide) ?_
  refine lv_iadd hx hb dX2_init_79 ?_
  refine lv_imul hx hb dX2_init_80 ?_
  refine c_ast (k := 1) (i := 3) C hK hE hS rfl (vp_dec (by decide)) (Nat.le_add_right a _) dX2_init_81 (fun g7 H locs eg7 hsz hE hS => ?_)
  have hz := hsz.trans hz
  have hE : cl_at G a [.inr (2, [.int 0, .ref (a + 1), .ref (a + 2), .ref (a + 3), .ref (a + 4), .ref (a + 5), .ref (a + 6), .ref (a + 7)]), .inl (G.2.1, 12, .inl g7), .inl (G.2.1, 12, .inl g6), .inl (G.2.1, 12, .inl (fun _ => 0)), .inl (G.2.1, 12, .inl (fun _ => 0)), .inl (G.2.1, 12, .inl (fun _ => 0)), .inl (G.2.1, 12, .inl (fun _ => 0)), .inl (G.2.1, 12, .inl (fun _ => 0))] H := hE
  refine lv_aload_n hx hb dX2_init_82 rfl (lv_at hl 1 rfl) ?_
  refine c_get (k := 0) C hK hE rfl fl_X2_15 rfl dX2_init_83 ?_
  refine lv_iload_n hx hb dX2_init_86 rfl (lv_at hl 0 rfl) ?_
  refine lv_iconst (v := (-1)) hx hb dX2_init_87 (by decide) ?_
  refine c_ast (k := 2) (i := 3) C hK hE hS rfl (vp_dec (by decide)) (Nat.le_add_right a _) dX2_init_88 (fun g8 H locs eg8 hsz hE hS => ?_)
  have hz := hsz.trans hz
  have hE : cl_at G a [.inr (2, [.int 0, .ref (a + 1), .ref (a + 2), .ref (a + 3), .ref (a + 4), .ref (a + 5), .ref (a + 6), .ref (a + 7)]), .inl (G.2.1, 12, .inl g7), .inl (G.2.1, 12, .inl g8), .inl (G.2.1, 12, .inl (fun _ => 0)), .inl (G.2.1, 12, .inl (fun _ => 0)), .inl (G.2.1, 12, .inl (fun _ => 0)), .inl (G.2.1, 12, .inl (fun _ => 0)), .inl (G.2.1, 12, .inl (fun _ => 0))] H := hE
  refine lv_iinc (v := 4) (lv' := [(1, .int 4), (0, .ref a)]) hx hb dX2_init_89 hl (k := 0) rfl (by rfl) (by decide) rfl (fun ls hl => ?_)
  refine lv_goto (tgt := 62) hx hb dX2_init_92 (by decide) ?_
  refine lv_iload_n hx hb dX2_init_62 rfl (lv_at hl 0 rfl) ?_
  refine lv_bipush (v := 12) hx hb dX2_init_63 (by decide) ?_
  refine lv_icmp_ge (tgt := 95) hx hb dX2_init_65 (by decide) (fun c1 => absurd c1 (by decide)) (fun c1 => ?_)
  refine lv_aload_n hx hb dX2_init_68 rfl (lv_at hl 1 rfl) ?_
  refine c_get (k := 0) C hK hE rfl fl_X2_9 rfl dX2_init_69 ?_
  refine lv_iload_n hx hb dX2_init_72 rfl (lv_at hl 0 rfl) ?_
  refine lv_bipush (v := 30) hx hb dX2_init_73 (by decide) ?_
  refine lv_iload_n hx hb dX2_init_75 rfl (lv_at hl 0 rfl) ?_
  refine lv_iconst (v := 3) hx hb dX2_init_76 (by decide) ?_
  refine lv_irem hx hb dX2_init_77 (by decide) ?_
  refine lv_iconst (v := 1) hx hb dX2_init_78 (by decide) ?_
  refine lv_iadd hx hb dX2_init_79 ?_
  refine lv_imul hx hb dX2_init_80 ?_
  refine c_ast (k := 1) (i := 4) C hK hE hS rfl (vp_dec (by decide)) (Nat.le_add_right a _) dX2_init_81 (fun g9 H locs eg9 hsz hE hS => ?_)
  have hz := hsz.trans hz
  have hE : cl_at G a [.inr (2, [.int 0, .ref (a + 1), .ref (a + 2), .ref (a + 3), .ref (a + 4), .ref (a + 5), .ref (a + 6), .ref (a + 7)]), .inl (G.2.1, 12, .inl g9), .inl (G.2.1, 12, .inl g8), .inl (G.2.1, 12, .inl (fun _ => 0)), .inl (G.2.1, 12, .inl (fun _ => 0)), .inl (G.2.1, 12, .inl (fun _ => 0)), .inl (G.2.1, 12, .inl (fun _ => 0)), .inl (G.2.1, 12, .inl (fun _ => 0))] H := hE
  refine lv_aload_n hx hb dX2_init_82 rfl (lv_at hl 1 rfl) ?_
  refine c_get (k := 0) C hK hE rfl fl_X2_15 rfl dX2_init_83 ?_
  refine lv_iload_n hx hb dX2_init_86 rfl (lv_at hl 0 rfl) ?_
  refine lv_iconst (v := (-1)) hx hb dX2_init_87 (by decide) ?_
  refine c_ast (k := 2) (i := 4) C hK hE hS rfl (vp_dec (by decide)) (Nat.le_add_right a _) dX2_init_88 (fun g10 H locs eg10 hsz hE hS => ?_)
  have hz := hsz.trans hz
  have hE : cl_at G a [.inr (2, [.int 0, .ref (a + 1), .ref (a + 2), .ref (a + 3), .ref (a + 4), .ref (a + 5), .ref (a + 6), .ref (a + 7)]), .inl (G.2.1, 12, .inl g9), .inl (G.2.1, 12, .inl g10), .inl (G.2.1, 12, .inl (fun _ => 0)), .inl (G.2.1, 12, .inl (fun _ => 0)), .inl (G.2.1, 12, .inl (fun _ => 0)), .inl (G.2.1, 12, .inl (fun _ => 0)), .inl (G.2.1, 12, .inl (fun _ => 0))] H := hE
  refine lv_iinc (v := 5) (lv' := [(1, .int 5), (0, .ref a)]) hx hb dX2_init_89 hl (k := 0) rfl (by rfl) (by decide) rfl (fun ls hl => ?_)
  refine lv_goto (tgt := 62) hx hb dX2_init_92 (by decide) ?_
  refine lv_iload_n hx hb dX2_init_62 rfl (lv_at hl 0 rfl) ?_
  refine lv_bipush (v := 12) hx hb dX2_init_63 (by decide) ?_
  refine lv_icmp_ge (tgt := 95) hx hb dX2_init_65 (by decide) (fun c1 => absurd c1 (by decide)) (fun c1 => ?_)
  refine lv_aload_n hx hb dX2_init_68 rfl (lv_at hl 1 rfl) ?_
  refine c_get (k := 0) C hK hE rfl fl_X2_9 rfl dX2_init_69 ?_
  refine lv_iload_n hx hb dX2_init_72 rfl (lv_at hl 0 rfl) ?_
  refine lv_bipush (v := 30) hx hb dX2_init_73 (by decide) ?_
  refine lv_iload_n hx hb dX2_init_75 rfl (lv_at hl 0 rfl) ?_
  refine lv_iconst (v := 3) hx hb dX2_init_76 (by decide) ?_
  refine lv_irem hx hb dX2_init_77 (by decide) ?_
  refine lv_iconst (v := 1) hx hb dX2_init_78 (by decide) ?_
  refine lv_iadd hx hb dX2_init_79 ?_
  refine lv_imul hx hb dX2_init_80 ?_
  refine c_ast (k := 1) (i := 5) C hK hE hS rfl (vp_dec (by decide)) (Nat.le_add_right a _) dX2_init_81 (fun g11 H locs eg11 hsz hE hS => ?_)
  have hz := hsz.trans hz
  have hE : cl_at G a [.inr (2, [.int 0, .ref (a + 1), .ref (a + 2), .ref (a + 3), .ref (a + 4), .ref (a + 5), .ref (a + 6), .ref (a + 7)]), .inl (G.2.1, 12, .inl g11), .inl (G.2.1, 12, .inl g10), .inl (G.2.1, 12, .inl (fun _ => 0)), .inl (G.2.1, 12, .inl (fun _ => 0)), .inl (G.2.1, 12, .inl (fun _ => 0)), .inl (G.2.1, 12, .inl (fun _ => 0)), .inl (G.2.1, 12, .inl (fun _ => 0))] H := hE
  refine lv_aload_n hx hb dX2_init_82 rfl (lv_at hl 1 rfl) ?_
  refine c_get (k := 0) C hK hE rfl fl_X2_15 rfl dX2_init_83 ?_
  refine lv_iload_n hx hb dX2_init_86 rfl (lv_at hl 0 rfl) ?_
  refine lv_iconst (v := (-1)) hx hb dX2_init_87 (by decide) ?_
  refine c_ast (k := 2) (i := 5) C hK hE hS rfl (vp_dec (by decide)) (Nat.le_add_right a _) dX2_init_88 (fun g12 H locs eg12 hsz hE hS => ?_)
  have hz := hsz.trans hz
  have hE : cl_at G a [.inr (2, [.int 0, .ref (a + 1), .ref (a + 2), .ref (a + 3), .ref (a + 4), .ref (a + 5), .ref (a + 6), .ref (a + 7)]), .inl (G.2.1, 12, .inl g11), .inl (G.2.1, 12, .inl g12), .inl (G.2.1, 12, .inl (fun _ => 0)), .inl (G.2.1, 12, .inl (fun _ => 0)), .inl (G.2.1, 12, .inl (fun _ => 0)), .inl (G.2.1, 12, .inl (fun _ => 0)), .inl (G.2.1, 12, .inl (fun _ => 0))] H := hE
  refine lv_iinc (v := 6) (lv' := [(1, .int 6), (0, .ref a)]) hx hb dX2_init_89 hl (k := 0) rfl (by rfl) (by decide) rfl (fun ls hl => ?_)
  refine lv_goto (tgt := 62) hx hb dX2_init_92 (by decide) ?_
  refine lv_iload_n hx hb dX2_init_62 rfl (lv_at hl 0 rfl) ?_
  refine lv_bipush (v := 12) hx hb dX2_init_63 (by decide) ?_
  refine lv_icmp_ge (tgt := 95) hx hb dX2_init_65 (by decide) (fun c1 => absurd c1 (by decide)) (fun c1 => ?_)
  refine lv_aload_n hx hb dX2_init_68 rfl (lv_at hl 1 rfl) ?_
  refine c_get (k := 0) C hK hE rfl fl_X2_9 rfl dX2_init_69 ?_
  refine lv_iload_n hx hb dX2_init_72 rfl (lv_at hl 0 rfl) ?_
  refine lv_bipush (v := 30) hx hb dX2_init_73 (by decide) ?_
  refine lv_iload_n hx hb dX2_init_75 rfl (lv_at hl 0 rfl) ?_
  refine lv_iconst (v := 3) hx hb dX2_init_76 (by decide) ?_
  refine lv_irem hx hb dX2_init_77 (by decide) ?_
  refine lv_iconst (v := 1) hx hb dX2_init_78 (by decide) ?_
  refine lv_iadd hx hb dX2_init_79 ?_
  refine lv_imul hx hb dX2_init_80 ?_
  refine c_ast (k := 1) (i := 6) C hK hE hS rfl (vp_dec (by decide)) (Nat.le_add_right a _) dX2_init_81 (fun g13 H locs eg13 hsz hE hS => ?_)
  have hz := hsz.trans hz
  have hE : cl_at G a [.inr (2, [.int 0, .ref (a + 1), .ref (a + 2), .ref (a + 3), .ref (a + 4), .ref (a + 5), .ref (a + 6), .ref (a + 7)]), .inl (G.2.1, 12, .inl g13), .inl (G.2.1, 12, .inl g12), .inl (G.2.1, 12, .inl (fun _ => 0)), .inl (G.2.1, 12, .inl (fun _ => 0)), .inl (G.2.1, 12, .inl (fun _ => 0)), .inl (G.2.1, 12, .inl (fun _ => 0)), .inl (G.2.1, 12, .inl (fun _ => 0))] H := hE
  refine lv_aload_n hx hb dX2_init_82 rfl (lv_at hl 1 rfl) ?_
  refine c_get (k := 0) C hK hE rfl fl_X2_15 rfl dX2_init_83 ?_
  refine lv_iload_n hx hb dX2_init_86 rfl (lv_at hl 0 rfl) ?_
  refine lv_iconst (v := (-1)) hx hb dX2_init_87 (by decide) ?_
  refine c_ast (k := 2) (i := 6) C hK hE hS rfl (vp_dec (by decide)) (Nat.le_add_right a _) dX2_init_88 (fun g14 H locs eg14 hsz hE hS => ?_)
  have hz := hsz.trans hz
  have hE : cl_at G a [.inr (2, [.int 0, .ref (a + 1), .ref (a + 2), .ref (a + 3), .ref (a + 4), .ref (a + 5), .ref (a + 6), .ref (a + 7)]), .inl (G.2.1, 12, .inl g13), .inl (G.2.1, 12, .inl g14), .inl (G.2.1, 12, .inl (fun _ => 0)), .inl (G.2.1, 12, .inl (fun _ => 0)), .inl (G.2.1, 12, .inl (fun _ => 0)), .inl (G.2.1, 12, .inl (fun _ => 0)), .inl (G.2.1, 12, .inl (fun _ => 0))] H := hE
  refine lv_iinc (v := 7) (lv' := [(1, .int 7), (0, .ref a)]) hx hb dX2_init_89 hl (k := 0) rfl (by rfl) (by decide) rfl (fun ls hl => ?_)
  refine lv_goto (tgt := 62) hx hb dX2_init_92 (by decide) ?_
  refine lv_iload_n hx hb dX2_init_62 rfl (lv_at hl 0 rfl) ?_
  refine lv_bipush (v := 12) hx hb dX2_init_63 (by decide) ?_
  refine lv_icmp_ge (tgt := 95) hx hb dX2_init_65 (by decide) (fun c1 => absurd c1 (by decide)) (fun c1 => ?_)
  refine lv_aload_n hx hb dX2_init_68 rfl (lv_at hl 1 rfl) ?_
  refine c_get (k := 0) C hK hE rfl fl_X2_9 rfl dX2_init_69 ?_
  refine lv_iload_n hx hb dX2_init_72 rfl (lv_at hl 0 rfl) ?_
  refine lv_bipush (v := 30) hx hb dX2_init_73 (by decide) ?_
  refine lv_iload_n hx hb dX2_init_75 rfl (lv_at hl 0 rfl) ?_
  refine lv_iconst (v := 3) hx hb dX2_init_76 (by decide) ?_
  refine lv_irem hx hb dX2_init_77 (by decide) ?_
  refine lv_iconst (v := 1) hx hb dX2_init_78 (by decide) ?_
  refine lv_iadd hx hb dX2_init_79 ?_
  refine lv_imul hx hb dX2_init_80 ?_
  refine c_ast (k := 1) (i := 7) C hK hE hS rfl (vp_dec (by decide)) (Nat.le_add_right a _) dX2_init_81 (fun g15 H locs eg15 hsz hE hS => ?_)
  have hz := hsz.trans hz
  have hE : cl_at G a [.inr (2, [.int 0, .ref (a + 1), .ref (a + 2), .ref (a + 3), .ref (a + 4), .ref (a + 5), .ref (a + 6), .ref (a + 7)]), .inl (G.2.1, 12, .inl g15), .inl (G.2.1, 12, .inl g14), .inl (G.2.1, 12, .inl (fun _ => 0)), .inl (G.2.1, 12, .inl (fun _ => 0)), .inl (G.2.1, 12, .inl (fun _ => 0)), .inl (G.2.1, 12, .inl (fun _ => 0)), .inl (G.2.1, 12, .inl (fun _ => 0))] H := hE
  refine lv_aload_n hx hb dX2_init_82 rfl (lv_at hl 1 rfl) ?_
  refine c_get (k := 0) C hK hE rfl fl_X2_15 rfl dX2_init_83 ?_
  refine lv_iload_n hx hb dX2_init_86 rfl (lv_at hl 0 rfl) ?_
  refine lv_iconst (v := (-1)) hx hb dX2_init_87 (by decide) ?_
  refine c_ast (k := 2) (i := 7) C hK hE hS rfl (vp_dec (by decide)) (Nat.le_add_right a _) dX2_init_88 (fun g16 H locs eg16 hsz hE hS => ?_)
  have hz := hsz.trans hz
  have hE : cl_at G a [.inr (2, [.int 0, .ref (a + 1), .ref (a + 2), .ref (a + 3), .ref (a + 4), .ref (a + 5), .ref (a + 6), .ref (a + 7)]), .inl (G.2.1, 12, .inl g15), .inl (G.2.1, 12, .inl g16), .inl (G.2.1, 12, .inl (fun _ => 0)), .inl (G.2.1, 12, .inl (fun _ => 0)), .inl (G.2.1, 12, .inl (fun _ => 0)), .inl (G.2.1, 12, .inl (fun _ => 0)), .inl (G.2.1, 12, .inl (fun _ => 0))] H := hE
  refine lv_iinc (v := 8) (lv' := [(1, .int 8), (0, .ref a)]) hx hb dX2_init_89 hl (k := 0) rfl (by rfl) (by decide) rfl (fun ls hl => ?_)
  refine lv_goto (tgt := 62) hx hb dX2_init_92 (by decide) ?_
  refine lv_iload_n hx hb dX2_init_62 rfl (lv_at hl 0 rfl) ?_
  refine lv_bipush (v := 12) hx hb dX2_init_63 (by decide) ?_
  refine lv_icmp_ge (tgt := 95) hx hb dX2_init_65 (by decide) (fun c1 => absurd c1 (by decide)) (fun c1 => ?_)
  refine lv_aload_n hx hb dX2_init_68 rfl (lv_at hl 1 rfl) ?_
  refine c_get (k := 0) C hK hE rfl fl_X2_9 rfl dX2_init_69 ?_
  refine lv_iload_n hx hb dX2_init_72 rfl (lv_at hl 0 rfl) ?_
  refine lv_bipush (v := 30) hx hb dX2_init_73 (by decide) ?_
  refine lv_iload_n hx hb dX2_init_75 rfl (lv_at hl 0 rfl) ?_
  refine lv_iconst (v := 3) hx hb dX2_init_76 (by decide) ?_
  refine lv_irem hx hb dX2_init_77 (by decide) ?_
  refine lv_iconst (v := 1) hx hb dX2_init_78 (by decide) ?_
  refine lv_iadd hx hb dX2_init_79 ?_
  refine lv_imul hx hb dX2_init_80 ?_
  refine c_ast (k := 1) (i := 8) C hK hE hS rfl (vp_dec (by decide)) (Nat.le_add_right a _) dX2_init_81 (fun g17 H locs eg17 hsz hE hS => ?_)
  have hz := hsz.trans hz
  have hE : cl_at G a [.inr (2, [.int 0, .ref (a + 1), .ref (a + 2), .ref (a + 3), .ref (a + 4), .ref (a + 5), .ref (a + 6), .ref (a + 7)]), .inl (G.2.1, 12, .inl g17), .inl (G.2.1, 12, .inl g16), .inl (G.2.1, 12, .inl (fun _ => 0)), .inl (G.2.1, 12, .inl (fun _ => 0)), .inl (G.2.1, 12, .inl (fun _ => 0)), .inl (G.2.1, 12, .inl (fun _ => 0)), .inl (G.2.1, 12, .inl (fun _ => 0))] H := hE
  refine lv_aload_n hx hb dX2_init_82 rfl (lv_at hl 1 rfl) ?_
  refine c_get (k := 0) C hK hE rfl fl_X2_15 rfl dX2_init_83 ?_
  refine lv_iload_n hx hb dX2_init_86 rfl (lv_at hl 0 rfl) ?_
  refine lv_iconst (v := (-1)) hx hb dX2_init_87 (by decide) ?_
  refine c_ast (k := 2) (i := 8) C hK hE hS rfl (vp_dec (by decide)) (Nat.le_add_right a _) dX2_init_88 (fun g18 H locs eg18 hsz hE hS => ?_)
  have hz := hsz.trans hz
  have hE : cl_at G a [.inr (2, [.int 0, .ref (a + 1), .ref (a + 2), .ref (a + 3), .ref (a + 4), .ref (a + 5), .ref (a + 6), .ref (a + 7)]), .inl (G.2.1, 12, .inl g17), .inl (G.2.1, 12, .inl g18), .inl (G.2.1, 12, .inl (fun _ => 0)), .inl (G.2.1, 12, .inl (fun _ => 0)), .inl (G.2.1, 12, .inl (fun _ => 0)), .inl (G.2.1, 12, .inl (fun _ => 0)), .inl (G.2.1, 12, .inl (fun _ => 0))] H := hE
  refine lv_iinc (v := 9) (lv' := [(1, .int 9), (0, .ref a)]) hx hb dX2_init_89 hl (k := 0) rfl (by rfl) (by decide) rfl (fun ls hl => ?_)
  refine lv_goto (tgt := 62) hx hb dX2_init_92 (by decide) ?_
  refine lv_iload_n hx hb dX2_init_62 rfl (lv_at hl 0 rfl) ?_
  refine lv_bipush (v := 12) hx hb dX2_init_63 (by decide) ?_
  refine lv_icmp_ge (tgt := 95) hx hb dX2_init_65 (by decide) (fun c1 => absurd c1 (by decide)) (fun c1 => ?_)
  refine lv_aload_n hx hb dX2_init_68 rfl (lv_at hl 1 rfl) ?_
  refine c_get (k := 0) C hK hE rfl fl_X2_9 rfl dX2_init_69 ?_
  refine lv_iload_n hx hb dX2_init_72 rfl (lv_at hl 0 rfl) ?_
  refine lv_bipush (v := 30) hx hb dX2_init_73 (by decide) ?_
  refine lv_iload_n hx hb dX2_init_75 rfl (lv_at hl 0 rfl) ?_
  refine lv_iconst (v := 3) hx hb dX2_init_76 (by decide) ?_
  refine lv_irem hx hb dX2_init_77 (by decide) ?_
  refine lv_iconst (v := 1) hx hb dX2_init_78 (by decide) ?_
  refine lv_iadd hx hb dX2_init_79 ?_
  refine lv_imul hx hb dX2_init_80 ?_
  refine c_ast (k := 1) (i := 9) C hK hE hS rfl (vp_dec (by decide)) (Nat.le_add_right a _) dX2_init_81 (fun g19 H locs eg19 hsz hE hS => ?_)
  have hz := hsz.trans hz
  have hE : cl_at G a [.inr (2, [.int 0, .ref (a + 1), .ref (a + 2), .ref (a + 3), .ref (a + 4), .ref (a + 5), .ref (a + 6), .ref (a + 7)]), .inl (G.2.1, 12, .inl g19), .inl (G.2.1, 12, .inl g18), .inl (G.2.1, 12, .inl (fun _ => 0)), .inl (G.2.1, 12, .inl (fun _ => 0)), .inl (G.2.1, 12, .inl (fun _ => 0)), .inl (G.2.1, 12, .inl (fun _ => 0)), .inl (G.2.1, 12, .inl (fun _ => 0))] H := hE
  refine lv_aload_n hx hb dX2_init_82 rfl (lv_at hl 1 rfl) ?_
  refine c_get (k := 0) C hK hE rfl fl_X2_15 rfl dX2_init_83 ?_
  refine lv_iload_n hx hb dX2_init_86 rfl (lv_at hl 0 rfl) ?_
  refine lv_iconst (v := (-1)) hx hb dX2_init_87 (by decide) ?_
  refine c_ast (k := 2) (i := 9) C hK hE hS rfl (vp_dec (by decide)) (Nat.le_add_right a _) dX2_init_88 (fun g20 H locs eg20 hsz hE hS => ?_)
  have hz := hsz.trans hz
  have hE : cl_at G a [.inr (2, [.int 0, .ref (a + 1), .ref (a + 2), .ref (a + 3), .ref (a + 4), .ref (a + 5), .ref (a + 6), .ref (a + 7)]), .inl (G.2.1, 12, .inl g19), .inl (G.2.1, 12, .inl g20), .inl (G.2.1, 12, .inl (fun _ => 0)), .inl (G.2.1, 12, .inl (fun _ => 0)), .inl (G.2.1, 12, .inl (fun _ => 0)), .inl (G.2.1, 12, .inl (fun _ => 0)), .inl (G.2.1, 12, .inl (fun _ => 0))] H := hE
  refine lv_iinc (v := 10) (lv' := [(1, .int 10), (0, .ref a)]) hx hb dX2_init_89 hl (k := 0) rfl (by rfl) (by decide) rfl (fun ls hl => ?_)
  refine lv_goto (tgt := 62) hx hb dX2_init_92 (by decide) ?_
  refine lv_iload_n hx hb dX2_init_62 rfl (lv_at hl 0 rfl) ?_
  refine lv_bipush (v := 12) hx hb dX2_init_63 (by decide) ?_
  refine lv_icmp_ge (tgt := 95) hx hb dX2_init_65 (by decide) (fun c1 => absurd c1 (by decide)) (fun c1 => ?_)
  refine lv_aload_n hx hb dX2_init_68 rfl (lv_at hl 1 rfl) ?_
  refine c_get (k := 0) C hK hE rfl fl_X2_9 rfl dX2_init_69 ?_
  refine lv_iload_n hx hb dX2_init_72 rfl (lv_at hl 0 rfl) ?_
  refine lv_bipush (v := 30) hx hb dX2_init_73 (by decide) ?_
  refine lv_iload_n hx hb dX2_init_75 rfl (lv_at hl 0 rfl) ?_
  refine lv_iconst (v := 3) hx hb dX2_init_76 (by decide) ?_
  refine lv_irem hx hb dX2_init_77 (by decide) ?_
  refine lv_iconst (v := 1) hx hb dX2_init_78 (by decide) ?_
  refine lv_iadd hx hb dX2_init_79 ?_
  refine lv_imul hx hb dX2_init_80 ?_
  refine c_ast (k := 1) (i := 10) C hK hE hS rfl (vp_dec (by decide)) (Nat.le_add_right a _) dX2_init_81 (fun g21 H locs eg21 hsz hE hS => ?_)
  have hz := hsz.trans hz
  have hE : cl_at G a [.inr (2, [.int 0, .ref (a + 1), .ref (a + 2), .ref (a + 3), .ref (a + 4), .ref (a + 5), .ref (a + 6), .ref (a + 7)]), .inl (G.2.1, 12, .inl g21), .inl (G.2.1, 12, .inl g20), .inl (G.2.1, 12, .inl (fun _ => 0)), .inl (G.2.1, 12, .inl (fun _ => 0)), .inl (G.2.1, 12, .inl (fun _ => 0)), .inl (G.2.1, 12, .inl (fun _ => 0)), .inl (G.2.1, 12, .inl (fun _ => 0))] H := hE
  refine lv_aload_n hx hb dX2_init_82 rfl (lv_at hl 1 rfl) ?_
  refine c_get (k := 0) C hK hE rfl fl_X2_15 rfl dX2_init_83 ?_
  refine lv_iload_n hx hb dX2_init_86 rfl (lv_at hl 0 rfl) ?_
  refine lv_iconst (v := (-1)) hx hb dX2_init_87 (by decide) ?_
  refine c_ast (k := 2) (i := 10) C hK hE hS rfl (vp_dec (by decide)) (Nat.le_add_right a _) dX2_init_88 (fun g22 H locs eg22 hsz hE hS => ?_)
  have hz := hsz.trans hz
  have hE : cl_at G a [.inr (2, [.int 0, .ref (a + 1), .ref (a + 2), .ref (a + 3), .ref (a + 4), .ref (a + 5), .ref (a + 6), .ref (a + 7)]), .inl (G.2.1, 12, .inl g21), .inl (G.2.1, 12, .inl g22), .inl (G.2.1, 12, .inl (fun _ => 0)), .inl (G.2.1, 12, .inl (fun _ => 0)), .inl (G.2.1, 12, .inl (fun _ => 0)), .inl (G.2.1, 12, .inl (fun _ => 0)), .inl (G.2.1, 12, .inl (fun _ => 0))] H := hE
  refine lv_iinc (v := 11) (lv' := [(1, .int 11), (0, .ref a)]) hx hb dX2_init_89 hl (k := 0) rfl (by rfl) (by decide) rfl (fun ls hl => ?_)
  refine lv_goto (tgt := 62) hx hb dX2_init_92 (by decide) ?_
  refine lv_iload_n hx hb dX2_init_62 rfl (lv_at hl 0 rfl) ?_
  refine lv_bipush (v := 12) hx hb dX2_init_63 (by decide) ?_
  refine lv_icmp_ge (tgt := 95) hx hb dX2_init_65 (by decide) (fun c1 => absurd c1 (by decide)) (fun c1 => ?_)
  refine lv_aload_n hx hb dX2_init_68 rfl (lv_at hl 1 rfl) ?_
  refine c_get (k := 0) C hK hE rfl fl_X2_9 rfl dX2_init_69 ?_
  refine lv_iload_n hx hb dX2_init_72 rfl (lv_at hl 0 rfl) ?_
  refine lv_bipush (v := 30) hx hb dX2_init_73 (by decide) ?_
  refine lv_iload_n hx hb dX2_init_75 rfl (lv_at hl 0 rfl) ?_
  refine lv_iconst (v := 3) hx hb dX2_init_76 (by decide) ?_
  refine lv_irem hx hb dX2_init_77 (by decide) ?_
  refine lv_iconst (v := 1) hx hb dX2_init_78 (by decide) ?_
  refine lv_iadd hx hb dX2_init_79 ?_
  refine lv_imul hx hb dX2_init_80 ?_
  refine c_ast (k := 1) (i := 11) C hK hE hS rfl (vp_dec (by decide)) (Nat.le_add_right a _) dX2_init_81 (fun g23 H locs eg23 hsz hE hS => ?_)
  have hz := hsz.trans hz
  have hE : cl_at G a [.inr (2, [.int 0, .ref (a + 1), .ref (a + 2), .ref (a + 3), .ref (a + 4), .ref (a + 5), .ref (a + 6), .ref (a + 7)]), .inl (G.2.1, 12, .inl g23), .inl (G.2.1, 12, .inl g22), .inl (G.2.1, 12, .inl (fun _ => 0)), .inl (G.2.1, 12, .inl (fun _ => 0)), .inl (G.2.1, 12, .inl (fun _ => 0)), .inl (G.2.1, 12, .inl (fun _ => 0)), .inl (G.2.1, 12, .inl (fun _ => 0))] H := hE
  refine lv_aload_n hx hb dX2_init_82 rfl (lv_at hl 1 rfl) ?_
  refine c_get (k := 0) C hK hE rfl fl_X2_15 rfl dX2_init_83 ?_
  refine lv_iload_n hx hb dX2_init_86 rfl (lv_at hl 0 rfl) ?_
  refine lv_iconst (v := (-1)) hx hb dX2_init_87 (by decide) ?_
  refine c_ast (k := 2) (i := 11) C hK hE hS rfl (vp_dec (by decide)) (Nat.le_add_right a _) dX2_init_88 (fun g24 H locs eg24 hsz hE hS => ?_)
  have hz := hsz.trans hz
  have hE : cl_at G a [.inr (2, [.int 0, .ref (a + 1), .ref (a + 2), .ref (a + 3), .ref (a + 4), .ref (a + 5), .ref (a + 6), .ref (a + 7)]), .inl (G.2.1, 12, .inl g23), .inl (G.2.1, 12, .inl g24), .inl (G.2.1, 12, .inl (fun _ => 0)), .inl (G.2.1, 12, .inl (fun _ => 0)), .inl (G.2.1, 12, .inl (fun _ => 0)), .inl (G.2.1, 12, .inl (fun _ => 0)), .inl (G.2.1, 12, .inl (fun _ => 0))] H := hE
  refine lv_iinc (v := 12) (lv' := [(1, .int 12), (0, .ref a)]) hx hb dX2_init_89 hl (k := 0) rfl (by rfl) (by decide) rfl (fun ls hl => ?_)
  refine lv_goto (tgt := 62) hx hb dX2_init_92 (by decide) ?_
  refine lv_iload_n hx hb dX2_init_62 rfl (lv_at hl 0 rfl) ?_
  refine lv_bipush (v := 12) hx hb dX2_init_63 (by decide) ?_
  refine lv_icmp_ge (tgt := 95) hx hb dX2_init_65 (by decide) (fun c1 => ?_) (fun c1 => absurd c1 (by decide))
  have hE := hE.arr (k := 1) (n := 12) (g := szG) rfl (fun j hj => by subst eg23; subst eg21; subst eg19; subst eg17; subst eg15; subst eg13; subst eg11; subst eg9; subst eg7; subst eg5; subst eg3; subst eg1; rcases (show j = 0 ∨ j = 1 ∨ j = 2 ∨ j = 3 ∨ j = 4 ∨ j = 5 ∨ j = 6 ∨ j = 7 ∨ j = 8 ∨ j = 9 ∨ j = 10 ∨ j = 11 by omega) with rfl | rfl | rfl | rfl | rfl | rfl | rfl | rfl | rfl | rfl | rfl | rfl <;> rfl)
  have hE := hE.arr (k := 2) (n := 12) (g := fun _ => -1) rfl (fun j hj => by subst eg24; subst eg22; subst eg20; subst eg18; subst eg16; subst eg14; subst eg12; subst eg10; subst eg8; subst eg6; subst eg4; subst eg2; rcases (show j = 0 ∨ j = 1 ∨ j = 2 ∨ j = 3 ∨ j = 4 ∨ j = 5 ∨ j = 6 ∨ j = 7 ∨ j = 8 ∨ j = 9 ∨ j = 10 ∨ j = 11 by omega) with rfl | rfl | rfl | rfl | rfl | rfl | rfl | rfl | rfl | rfl | rfl | rfl <;> rfl)
  exact c_ret (es := esL G a) C hr hK hE hz hS rfl rfl dX2_init_95
theorem dX1_init_0 : decode cX1_init 0 = .ok (.aload_n 0, 1) := by decide +kernel
theorem dX1_init_1 : decode cX1_init 1 = .ok (.invokespecial 3, 3) := by decide +kernel
theorem dX1_init_4 : decode cX1_init 4 = .ok (.aload_n 0, 1) := by decide +kernel
theorem dX1_init_5 : decode cX1_init 5 = .ok (.new 9, 3) := by decide +kernel
theorem dX1_init_8 : decode cX1_init 8 = .ok (.dup, 1) := by decide +kernel
theorem dX1_init_9 : decode cX1_init 9 = .ok (.invokespecial 11, 3) := by decide +kernel
theorem dX1_init_12 : decode cX1_init 12 = .ok (.putfield 12, 3) := by decide +kernel
theorem dX1_init_15 : decode cX1_init 15 = .ok (.aload_n 0, 1) := by decide +kernel
theorem dX1_init_16 : decode cX1_init 16 = .ok (.new 18, 3) := by decide +kernel
theorem dX1_init_19 : decode cX1_init 19 = .ok (.dup, 1) := by decide +kernel
theorem dX1_init_20 : decode cX1_init 20 = .ok (.invokespecial 20, 3) := by decide +kernel
theorem dX1_init_23 : decode cX1_init 23 = .ok (.putfield 21, 3) := by decide +kernel
theorem dX1_init_26 : decode cX1_init 26 = .ok (.aload_n 0, 1) := by decide +kernel
theorem dX1_init_27 : decode cX1_init 27 = .ok (.new 25, 3) := by decide +kernel
theorem dX1_init_30 : decode cX1_init 30 = .ok (.dup, 1) := by decide +kernel
theorem dX1_init_31 : decode cX1_init 31 = .ok (.invokespecial 27, 3) := by decide +kernel
theorem dX1_init_34 : decode cX1_init 34 = .ok (.putfield 28, 3) := by decide +kernel
theorem dX1_init_37 : decode cX1_init 37 = .ok (.aload_n 0, 1) := by decide +kernel
theorem dX1_init_38 : decode cX1_init 38 = .ok (.new 32, 3) := by decide +kernel
theorem dX1_init_41 : decode cX1_init 41 = .ok (.dup, 1) := by decide +kernel
theorem dX1_init_42 : decode cX1_init 42 = .ok (.invokespecial 34, 3) := by decide +kernel
theorem dX1_init_45 : decode cX1_init 45 = .ok (.putfield 35, 3) := by decide +kernel
theorem dX1_init_48 : decode cX1_init 48 = .ok (.aload_n 0, 1) := by decide +kernel
theorem dX1_init_49 : decode cX1_init 49 = .ok (.bipush 12, 2) := by decide +kernel
theorem dX1_init_51 : decode cX1_init 51 = .ok (.newarray .int, 2) := by decide +kernel
theorem dX1_init_53 : decode cX1_init 53 = .ok (.putfield 39, 3) := by decide +kernel
theorem dX1_init_56 : decode cX1_init 56 = .ok (.return_, 1) := by decide +kernel
set_option maxHeartbeats 16000000 in
set_option maxRecDepth 100000 in
theorem n_X1_init (l : Launch) (G : GG) (a : Nat) : CtN l yX1_init cX1_init 1 { frames := 2, cells := 21, slots := 185, locals := 33 } a 1 [.int 0, .null, .null, .null, .null, .null, .int 0] G (esG G a) 21 185 := by
  refine met_startN (own := RX1) (by decide) rfl rfl (Nat.le_of_ble_eq_true rfl) (fun p e s m below meth c ls C hr hname hz hE hK hl => ?_)
  obtain ⟨hx, hb, hml, hown, hts, hlocks⟩ := id C
  have hS : va_S (fun q => a ≤ q) s.heap s.heap [] := va_S.rf
  refine lv_aload_n hx hb dX1_init_0 rfl (lv_at hl 0 rfl) ?_
  refine c_obj C hl.1 oi_X1_3 dX1_init_1 (Nat.le_of_ble_eq_true rfl) (Nat.le_of_ble_eq_true rfl) ?_
  refine lv_aload_n hx hb dX1_init_4 rfl (lv_at hl 0 rfl) ?_
  refine c_new (k := 1) (ci := 5) (N := 4) (C0 := RX5) (T := TX5) (fs := [.int 0, .int 0, .null, .null]) (es' := ([.inr (1, [.int 0, .null, .null, .null, .null, .null, .int 0])] ++ [.inr (5, [.int 0, .int 0, .null, .null])])) C hK rfl inB5 tyX5_ok ck_X1_9 ab_X5 ii_X5 (fun j hj => by rcases (show j = 0 ∨ j = 1 ∨ j = 2 ∨ j = 3 by omega) with rfl | rfl | rfl | rfl <;> rfl) hz rfl hE hS (Nat.le_of_ble_eq_true rfl) (Nat.le_of_ble_eq_true rfl) dX1_init_5 rfl (fun H hz hE hS => ?_)
  refine lv_dup hx hb dX1_init_8 rfl ?_
  refine c_init (a := a) (k := 1) (es := [.inr (1, [.int 0, .null, .null, .null, .null, .null, .int 0])]) C hK hl.1 (n_X5_init l G (a + 1)) mw_X5_init mj_X5_init rfl ml_X1_11 ⟨rfl, rfl, Nat.le_of_ble_eq_true rfl, Nat.le_of_ble_eq_true rfl⟩ ⟨Nat.le_of_ble_eq_true rfl, Nat.le_of_ble_eq_true rfl⟩ hz hE rfl hS (Nat.le_of_ble_eq_true rfl) dX1_init_9 (fun H locs hz hE hS => ?_)
  have hz : H.size = a + 4 := hz
  refine c_put (k := 0) (f := 1) (ci := 1) (ty := (.object "SandWorkers$Players")) (es' := ([.inr (1, [.int 0, .ref (a + 1), .null, .null, .null, .null, .int 0])] ++ esP G (a + 1))) C hK hname hE hS rfl rfl fl_X1_12 tyX1_ok nmX1 rfl rfl (by decide +kernel) rfl rfl (Nat.le_of_ble_eq_true rfl) (Nat.le_add_right a _) dX1_init_12 rfl (fun H locs hsz hE hS => ?_)
  have hz := hsz.trans hz
  refine lv_aload_n hx hb dX1_init_15 rfl (lv_at hl 0 rfl) ?_
  refine c_new (k := 4) (ci := 2) (N := 8) (C0 := RX2) (T := TX2) (fs := [.int 0, .null, .null, .null, .null, .null, .null, .null]) (es' := (([.inr (1, [.int 0, .ref (a + 1), .null, .null, .null, .null, .int 0])] ++ esP G (a + 1)) ++ [.inr (2, [.int 0, .null, .null, .null, .null, .null, .null, .null])])) C hK rfl inB2 tyX2_ok ck_X1_18 ab_X2 ii_X2 (fun j hj => by rcases (show j = 0 ∨ j = 1 ∨ j = 2 ∨ j = 3 ∨ j = 4 ∨ j = 5 ∨ j = 6 ∨ j = 7 by omega) with rfl | rfl | rfl | rfl | rfl | rfl | rfl | rfl <;> rfl) hz rfl hE hS (Nat.le_of_ble_eq_true rfl) (Nat.le_of_ble_eq_true rfl) dX1_init_16 rfl (fun H hz hE hS => ?_)
  refine lv_dup hx hb dX1_init_19 rfl ?_
  refine c_init (a := a) (k := 4) (es := ([.inr (1, [.int 0, .ref (a + 1), .null, .null, .null, .null, .int 0])] ++ esP G (a + 1))) C hK hl.1 (n_X2_init l G (a + 4)) mw_X2_init mj_X2_init rfl ml_X1_20 ⟨rfl, rfl, Nat.le_of_ble_eq_true rfl, Nat.le_of_ble_eq_true rfl⟩ ⟨Nat.le_of_ble_eq_true rfl, Nat.le_of_ble_eq_true rfl⟩ hz hE rfl hS (Nat.le_of_ble_eq_true rfl) dX1_init_20 (fun H locs hz hE hS => ?_)
  have hz : H.size = a + 12 := hz
  refine c_put (k := 0) (f := 2) (ci := 1) (ty := (.object "SandWorkers$Glasses")) (es' := (([.inr (1, [.int 0, .ref (a + 1), .ref (a + 4), .null, .null, .null, .int 0])] ++ esP G (a + 1)) ++ esL G (a + 4))) C hK hname hE hS rfl rfl fl_X1_21 tyX1_ok nmX1 rfl rfl (by decide +kernel) rfl rfl (Nat.le_of_ble_eq_true rfl) (Nat.le_add_right a _) dX1_init_23 rfl (fun H locs hsz hE hS => ?_)
  have hz := hsz.trans hz
  refine lv_aload_n hx hb dX1_init_26 rfl (lv_at hl 0 rfl) ?_
  refine c_new (k := 12) (ci := 6) (N := 6) (C0 := RX6) (T := TX6) (fs := [.int 0, .null, .null, .null, .null, .null]) (es' := ((([.inr (1, [.int 0, .ref (a + 1), .ref (a + 4), .null, .null, .null, .int 0])] ++ esP G (a + 1)) ++ esL G (a + 4)) ++ [.inr (6, [.int 0, .null, .null, .null, .null, .null])])) C hK rfl inB6 tyX6_ok ck_X1_25 ab_X6 ii_X6 (fun j hj => by rcases (show j = 0 ∨ j = 1 ∨ j = 2 ∨ j = 3 ∨ j = 4 ∨ j = 5 by omega) with rfl | rfl | rfl | rfl | rfl | rfl <;> rfl) hz rfl hE hS (Nat.le_of_ble_eq_true rfl) (Nat.le_of_ble_eq_true rfl) dX1_init_27 rfl (fun H hz hE hS => ?_)
  refine lv_dup hx hb dX1_init_30 rfl ?_
  refine c_init (a := a) (k := 12) (es := (([.inr (1, [.int 0, .ref (a + 1), .ref (a + 4), .null, .null, .null, .int 0])] ++ esP G (a + 1)) ++ esL G (a + 4))) C hK hl.1 (n_X6_init l G (a + 12)) mw_X6_init mj_X6_init rfl ml_X1_27 ⟨rfl, rfl, Nat.le_of_ble_eq_true rfl, Nat.le_of_ble_eq_true rfl⟩ ⟨Nat.le_of_ble_eq_true rfl, Nat.le_of_ble_eq_true rfl⟩ hz hE rfl hS (Nat.le_of_ble_eq_true rfl) dX1_init_31 (fun H locs hz hE hS => ?_)
  have hz : H.size = a + 18 := hz
  refine c_put (k := 0) (f := 3) (ci := 1) (ty := (.object "SandWorkers$Tasks")) (es' := ((([.inr (1, [.int 0, .ref (a + 1), .ref (a + 4), .ref (a + 12), .null, .null, .int 0])] ++ esP G (a + 1)) ++ esL G (a + 4)) ++ esT G (a + 12))) C hK hname hE hS rfl rfl fl_X1_28 tyX1_ok nmX1 rfl rfl (by decide +kernel) rfl rfl (Nat.le_of_ble_eq_true rfl) (Nat.le_add_right a _) dX1_init_34 rfl (fun H locs hsz hE hS => ?_)
  have hz := hsz.trans hz
  refine lv_aload_n hx hb dX1_init_37 rfl (lv_at hl 0 rfl) ?_
  refine c_new (k := 18) (ci := 0) (N := 3) (C0 := RX0) (T := TX0) (fs := [.int 0, .null, .null]) (es' := (((([.inr (1, [.int 0, .ref (a + 1), .ref (a + 4), .ref (a + 12), .null, .null, .int 0])] ++ esP G (a + 1)) ++ esL G (a + 4)) ++ esT G (a + 12)) ++ [.inr (0, [.int 0, .null, .null])])) C hK rfl inB0 tyX0_ok ck_X1_32 ab_X0 ii_X0 (fun j hj => by rcases (show j = 0 ∨ j = 1 ∨ j = 2 by omega) with rfl | rfl | rfl <;> rfl) hz rfl hE hS (Nat.le_of_ble_eq_true rfl) (Nat.le_of_ble_eq_true rfl) dX1_init_38 rfl (fun H hz hE hS => ?_)
  refine lv_dup hx hb dX1_init_41 rfl ?_
  refine c_init (a := a) (k := 18) (es := ((([.inr (1, [.int 0, .ref (a + 1), .ref (a + 4), .ref (a + 12), .null, .null, .int 0])] ++ esP G (a + 1)) ++ esL G (a + 4)) ++ esT G (a + 12))) C hK hl.1 (n_X0_init l G (a + 18)) mw_X0_init mj_X0_init rfl ml_X1_34 ⟨rfl, rfl, Nat.le_of_ble_eq_true rfl, Nat.le_of_ble_eq_true rfl⟩ ⟨Nat.le_of_ble_eq_true rfl, Nat.le_of_ble_eq_true rfl⟩ hz hE rfl hS (Nat.le_of_ble_eq_true rfl) dX1_init_42 (fun H locs hz hE hS => ?_)
  have hz : H.size = a + 21 := hz
  refine c_put (k := 0) (f := 4) (ci := 1) (ty := (.object "SandWorkers$Contracts")) (es' := (((([.inr (1, [.int 0, .ref (a + 1), .ref (a + 4), .ref (a + 12), .ref (a + 18), .null, .int 0])] ++ esP G (a + 1)) ++ esL G (a + 4)) ++ esT G (a + 12)) ++ esC G (a + 18))) C hK hname hE hS rfl rfl fl_X1_35 tyX1_ok nmX1 rfl rfl (by decide +kernel) rfl rfl (Nat.le_of_ble_eq_true rfl) (Nat.le_add_right a _) dX1_init_45 rfl (fun H locs hsz hE hS => ?_)
  have hz := hsz.trans hz
  refine lv_aload_n hx hb dX1_init_48 rfl (lv_at hl 0 rfl) ?_
  refine lv_bipush (v := 12) hx hb dX1_init_49 (by decide) ?_
  refine c_newa (k := 21) (N := 12) (es' := ((((([.inr (1, [.int 0, .ref (a + 1), .ref (a + 4), .ref (a + 12), .ref (a + 18), .null, .int 0])] ++ esP G (a + 1)) ++ esL G (a + 4)) ++ esT G (a + 12)) ++ esC G (a + 18)) ++ [.inl (G.2.1, 12, .inl (fun _ => 0))])) C hK hz rfl hE hS (by decide) (by decide) (Nat.le_of_ble_eq_true rfl) (Nat.le_of_ble_eq_true rfl) (Nat.le_of_ble_eq_true rfl) dX1_init_51 rfl (fun H hz hE hS => ?_)
  refine c_put (k := 0) (f := 5) (ci := 1) (ty := (.array .int)) (es' := ((((([.inr (1, [.int 0, .ref (a + 1), .ref (a + 4), .ref (a + 12), .ref (a + 18), .ref (a + 21), .int 0])] ++ esP G (a + 1)) ++ esL G (a + 4)) ++ esT G (a + 12)) ++ esC G (a + 18)) ++ [.inl (G.2.1, 12, .inl (fun _ => 0))])) C hK hname hE hS rfl rfl fl_X1_39 tyX1_ok nmX1 rfl rfl (by decide +kernel) rfl rfl (Nat.le_of_ble_eq_true rfl) (Nat.le_add_right a _) dX1_init_53 rfl (fun H locs hsz hE hS => ?_)
  have hz := hsz.trans hz
  exact c_ret (es := esG G a) C hr hK hE hz hS rfl rfl dX1_init_56
theorem dX4_init_0 : decode cX4_init 0 = .ok (.aload_n 0, 1) := by decide +kernel
theorem dX4_init_1 : decode cX4_init 1 = .ok (.invokespecial 3, 3) := by decide +kernel
theorem dX4_init_4 : decode cX4_init 4 = .ok (.aload_n 0, 1) := by decide +kernel
theorem dX4_init_5 : decode cX4_init 5 = .ok (.bipush 60, 2) := by decide +kernel
theorem dX4_init_7 : decode cX4_init 7 = .ok (.newarray .int, 2) := by decide +kernel
theorem dX4_init_9 : decode cX4_init 9 = .ok (.putfield 9, 3) := by decide +kernel
theorem dX4_init_12 : decode cX4_init 12 = .ok (.aload_n 0, 1) := by decide +kernel
theorem dX4_init_13 : decode cX4_init 13 = .ok (.iconst 4, 1) := by decide +kernel
theorem dX4_init_14 : decode cX4_init 14 = .ok (.newarray .int, 2) := by decide +kernel
theorem dX4_init_16 : decode cX4_init 16 = .ok (.putfield 15, 3) := by decide +kernel
theorem dX4_init_19 : decode cX4_init 19 = .ok (.return_, 1) := by decide +kernel
set_option maxHeartbeats 16000000 in
set_option maxRecDepth 100000 in
theorem n_X4_init (l : Launch) (G : GG) (a : Nat) : CtN l yX4_init cX4_init 1 { frames := 1, cells := 2, slots := 64, locals := 12 } a 4 [.int 0, .int 0, .int 0, .int 0, .int 0, .int 0, .null, .null] G (esO G a) 2 64 := by
  refine met_startN (own := RX4) (by decide) rfl rfl (Nat.le_of_ble_eq_true rfl) (fun p e s m below meth c ls C hr hname hz hE hK hl => ?_)
  obtain ⟨hx, hb, hml, hown, hts, hlocks⟩ := id C
  have hS : va_S (fun q => a ≤ q) s.heap s.heap [] := va_S.rf
  refine lv_aload_n hx hb dX4_init_0 rfl (lv_at hl 0 rfl) ?_
  refine c_obj C hl.1 oi_X4_3 dX4_init_1 (Nat.le_of_ble_eq_true rfl) (Nat.le_of_ble_eq_true rfl) ?_
  refine lv_aload_n hx hb dX4_init_4 rfl (lv_at hl 0 rfl) ?_
  refine lv_bipush (v := 60) hx hb dX4_init_5 (by decide) ?_
  refine c_newa (k := 1) (N := 60) (es' := [.inr (4, [.int 0, .int 0, .int 0, .int 0, .int 0, .int 0, .null, .null]), .inl (G.2.1, 60, .inl (fun _ => 0))]) C hK hz rfl hE hS (by decide) (by decide) (Nat.le_of_ble_eq_true rfl) (Nat.le_of_ble_eq_true rfl) (Nat.le_of_ble_eq_true rfl) dX4_init_7 rfl (fun H hz hE hS => ?_)
  refine c_put (k := 0) (f := 6) (ci := 4) (ty := (.array .int)) (es' := [.inr (4, [.int 0, .int 0, .int 0, .int 0, .int 0, .int 0, .ref (a + 1), .null]), .inl (G.2.1, 60, .inl (fun _ => 0))]) C hK hname hE hS rfl rfl fl_X4_9 tyX4_ok nmX4 rfl rfl (by decide +kernel) rfl rfl (Nat.le_of_ble_eq_true rfl) (Nat.le_add_right a _) dX4_init_9 rfl (fun H locs hsz hE hS => ?_)
  have hz := hsz.trans hz
  refine lv_aload_n hx hb dX4_init_12 rfl (lv_at hl 0 rfl) ?_
  refine lv_iconst (v := 4) hx hb dX4_init_13 (by decide) ?_
  refine c_newa (k := 2) (N := 4) (es' := [.inr (4, [.int 0, .int 0, .int 0, .int 0, .int 0, .int 0, .ref (a + 1), .null]), .inl (G.2.1, 60, .inl (fun _ => 0)), .inl (G.2.1, 4, .inl (fun _ => 0))]) C hK hz rfl hE hS (by decide) (by decide) (Nat.le_of_ble_eq_true rfl) (Nat.le_of_ble_eq_true rfl) (Nat.le_of_ble_eq_true rfl) dX4_init_14 rfl (fun H hz hE hS => ?_)
  refine c_put (k := 0) (f := 7) (ci := 4) (ty := (.array .int)) (es' := [.inr (4, [.int 0, .int 0, .int 0, .int 0, .int 0, .int 0, .ref (a + 1), .ref (a + 2)]), .inl (G.2.1, 60, .inl (fun _ => 0)), .inl (G.2.1, 4, .inl (fun _ => 0))]) C hK hname hE hS rfl rfl fl_X4_15 tyX4_ok nmX4 rfl rfl (by decide +kernel) rfl rfl (Nat.le_of_ble_eq_true rfl) (Nat.le_add_right a _) dX4_init_16 rfl (fun H locs hsz hE hS => ?_)
  have hz := hsz.trans hz
  exact c_ret (es := esO G a) C hr hK hE hz hS rfl rfl dX4_init_19
theorem dX3_init_0 : decode cX3_init 0 = .ok (.aload_n 0, 1) := by decide +kernel
theorem dX3_init_1 : decode cX3_init 1 = .ok (.invokespecial 3, 3) := by decide +kernel
theorem dX3_init_4 : decode cX3_init 4 = .ok (.aload_n 0, 1) := by decide +kernel
theorem dX3_init_5 : decode cX3_init 5 = .ok (.iconst 4, 1) := by decide +kernel
theorem dX3_init_6 : decode cX3_init 6 = .ok (.anewarray 9, 3) := by decide +kernel
theorem dX3_init_9 : decode cX3_init 9 = .ok (.putfield 11, 3) := by decide +kernel
theorem dX3_init_12 : decode cX3_init 12 = .ok (.iconst 0, 1) := by decide +kernel
theorem dX3_init_13 : decode cX3_init 13 = .ok (.istore_n 1, 1) := by decide +kernel
theorem dX3_init_14 : decode cX3_init 14 = .ok (.iload_n 1, 1) := by decide +kernel
theorem dX3_init_15 : decode cX3_init 15 = .ok (.iconst 4, 1) := by decide +kernel
theorem dX3_init_16 : decode cX3_init 16 = .ok (.if_icmp .ge 22, 3) := by decide +kernel
theorem dX3_init_19 : decode cX3_init 19 = .ok (.aload_n 0, 1) := by decide +kernel
theorem dX3_init_20 : decode cX3_init 20 = .ok (.getfield 11, 3) := by decide +kernel
theorem dX3_init_23 : decode cX3_init 23 = .ok (.iload_n 1, 1) := by decide +kernel
theorem dX3_init_24 : decode cX3_init 24 = .ok (.new 9, 3) := by decide +kernel
theorem dX3_init_27 : decode cX3_init 27 = .ok (.dup, 1) := by decide +kernel
theorem dX3_init_28 : decode cX3_init 28 = .ok (.invokespecial 17, 3) := by decide +kernel
theorem dX3_init_31 : decode cX3_init 31 = .ok (.aastore, 1) := by decide +kernel
theorem dX3_init_32 : decode cX3_init 32 = .ok (.iinc 1 1, 3) := by decide +kernel
theorem dX3_init_35 : decode cX3_init 35 = .ok (.goto (-21), 3) := by decide +kernel
theorem dX3_init_38 : decode cX3_init 38 = .ok (.return_, 1) := by decide +kernel
set_option maxHeartbeats 16000000 in
set_option maxRecDepth 100000 in
theorem n_X3_init (l : Launch) (G : GG) (a : Nat) : CtN l yX3_init cX3_init 2 { frames := 3, cells := 89, slots := 772, locals := 53 } a 3 [.int 0, .null] G (esH G a) 89 772 := by
  refine met_startN (own := RX3) (by decide) rfl rfl (Nat.le_of_ble_eq_true rfl) (fun p e s m below meth c ls C hr hname hz hE hK hl => ?_)
  obtain ⟨hx, hb, hml, hown, hts, hlocks⟩ := id C
  have hao := hK.2.2
  have hS : va_S (fun q => a ≤ q) s.heap s.heap [] := va_S.rf
  refine lv_aload_n hx hb dX3_init_0 rfl (lv_at hl 0 rfl) ?_
  refine c_obj C hl.1 oi_X3_3 dX3_init_1 (Nat.le_of_ble_eq_true rfl) (Nat.le_of_ble_eq_true rfl) ?_
  refine lv_aload_n hx hb dX3_init_4 rfl (lv_at hl 0 rfl) ?_
  refine lv_iconst (v := 4) hx hb dX3_init_5 (by decide) ?_
  refine c_newq (k := 1) (N := 4) (es' := [.inr (3, [.int 0, .null]), .inl (G.2.2, 4, .inr (.inr (.inr (.inr (fun _ => none)))))]) C hK hao ck_X3_9 hz rfl hE hS (by decide) (by decide) (Nat.le_of_ble_eq_true rfl) (Nat.le_of_ble_eq_true rfl) (Nat.le_of_ble_eq_true rfl) dX3_init_6 rfl (fun H hz hE hS => ?_)
  refine c_put (k := 0) (f := 1) (ci := 3) (ty := (.array (.object "SandWorkers$Game"))) (es' := [.inr (3, [.int 0, .ref (a + 1)]), .inl (G.2.2, 4, .inr (.inr (.inr (.inr (fun _ => none)))))]) C hK hname hE hS rfl rfl fl_X3_11 tyX3_ok nmX3 rfl rfl (by decide +kernel) rfl rfl (Nat.le_of_ble_eq_true rfl) (Nat.le_add_right a _) dX3_init_9 rfl (fun H locs hsz hE hS => ?_)
  have hz := hsz.trans hz
  refine lv_iconst (v := 0) hx hb dX3_init_12 (by decide) ?_
  refine lv_istore_n (lv' := [(1, .int 0), (0, .ref a)]) hx hb dX3_init_13 rfl hl (by decide) rfl (fun ls hl => ?_)
  refine lv_iload_n hx hb dX3_init_14 rfl (lv_at hl 0 rfl) ?_
  refine lv_iconst (v := 4) hx hb dX3_init_15 (by decide) ?_
  refine lv_icmp_ge (tgt := 38) hx hb dX3_init_16 (by decide) (fun c1 => absurd c1 (by decide)) (fun c1 => ?_)
  refine lv_aload_n hx hb dX3_init_19 rfl (lv_at hl 1 rfl) ?_
  refine c_get (k := 0) C hK hE rfl fl_X3_11 rfl dX3_init_20 ?_
  refine lv_iload_n hx hb dX3_init_23 rfl (lv_at hl 0 rfl) ?_
  refine c_new (k := 2) (ci := 1) (N := 7) (C0 := RX1) (T := TX1) (fs := [.int 0, .null, .null, .null, .null, .null, .int 0]) (es' := ([.inr (3, [.int 0, .ref (a + 1)]), .inl (G.2.2, 4, .inr (.inr (.inr (.inr (fun _ => none)))))] ++ [.inr (1, [.int 0, .null, .null, .null, .null, .null, .int 0])])) C hK rfl inB1 tyX1_ok ck_X3_9 ab_X1 ii_X1 (fun j hj => by rcases (show j = 0 ∨ j = 1 ∨ j = 2 ∨ j = 3 ∨ j = 4 ∨ j = 5 ∨ j = 6 by omega) with rfl | rfl | rfl | rfl | rfl | rfl | rfl <;> rfl) hz rfl hE hS (Nat.le_of_ble_eq_true rfl) (Nat.le_of_ble_eq_true rfl) dX3_init_24 rfl (fun H hz hE hS => ?_)
  refine lv_dup hx hb dX3_init_27 rfl ?_
  refine c_init (a := a) (k := 2) (es := [.inr (3, [.int 0, .ref (a + 1)]), .inl (G.2.2, 4, .inr (.inr (.inr (.inr (fun _ => none)))))]) C hK hl.1 (n_X1_init l G (a + 2)) mw_X1_init mj_X1_init rfl ml_X3_17 ⟨rfl, rfl, Nat.le_of_ble_eq_true rfl, Nat.le_of_ble_eq_true rfl⟩ ⟨Nat.le_of_ble_eq_true rfl, Nat.le_of_ble_eq_true rfl⟩ hz hE rfl hS (Nat.le_of_ble_eq_true rfl) dX3_init_28 (fun H locs hz hE hS => ?_)
  have hz : H.size = a + 24 := hz
  refine c_aast (k := 1) (k2 := 2) (i := 0) C hK hE hS rfl rfl (vp_dec (by decide)) (Nat.le_add_right a _) dX3_init_31 (fun g1 H locs eg1 hsz hE hS => ?_)
  have hz := hsz.trans hz
  have hE : cl_at G a ([.inr (3, [.int 0, .ref (a + 1)]), .inl (G.2.2, 4, .inr (.inr (.inr (.inr g1))))] ++ esG G (a + 2)) H := hE
  refine lv_iinc (v := 1) (lv' := [(1, .int 1), (0, .ref a)]) hx hb dX3_init_32 hl (k := 0) rfl (by rfl) (by decide) rfl (fun ls hl => ?_)
  refine lv_goto (tgt := 14) hx hb dX3_init_35 (by decide) ?_
  refine lv_iload_n hx hb dX3_init_14 rfl (lv_at hl 0 rfl) ?_
  refine lv_iconst (v := 4) hx hb dX3_init_15 (by decide) ?_
  refine lv_icmp_ge (tgt := 38) hx hb dX3_init_16 (by decide) (fun c1 => absurd c1 (by decide)) (fun c1 => ?_)
  refine lv_aload_n hx hb dX3_init_19 rfl (lv_at hl 1 rfl) ?_
  refine c_get (k := 0) C hK hE rfl fl_X3_11 rfl dX3_init_20 ?_
  refine lv_iload_n hx hb dX3_init_23 rfl (lv_at hl 0 rfl) ?_
  refine c_new (k := 24) (ci := 1) (N := 7) (C0 := RX1) (T := TX1) (fs := [.int 0, .null, .null, .null, .null, .null, .int 0]) (es' := (([.inr (3, [.int 0, .ref (a + 1)]), .inl (G.2.2, 4, .inr (.inr (.inr (.inr g1))))] ++ esG G (a + 2)) ++ [.inr (1, [.int 0, .null, .null, .null, .null, .null, .int 0])])) C hK rfl inB1 tyX1_ok ck_X3_9 ab_X1 ii_X1 (fun j hj => by rcases (show j = 0 ∨ j = 1 ∨ j = 2 ∨ j = 3 ∨ j = 4 ∨ j = 5 ∨ j = 6 by omega) with rfl | rfl | rfl | rfl | rfl | rfl | rfl <;> rfl) hz rfl hE hS (Nat.le_of_ble_eq_true rfl) (Nat.le_of_ble_eq_true rfl) dX3_init_24 rfl (fun H hz hE hS => ?_)
  refine lv_dup hx hb dX3_init_27 rfl ?_
  refine c_init (a := a) (k := 24) (es := ([.inr (3, [.int 0, .ref (a + 1)]), .inl (G.2.2, 4, .inr (.inr (.inr (.inr g1))))] ++ esG G (a + 2))) C hK hl.1 (n_X1_init l G (a + 24)) mw_X1_init mj_X1_init rfl ml_X3_17 ⟨rfl, rfl, Nat.le_of_ble_eq_true rfl, Nat.le_of_ble_eq_true rfl⟩ ⟨Nat.le_of_ble_eq_true rfl, Nat.le_of_ble_eq_true rfl⟩ hz hE rfl hS (Nat.le_of_ble_eq_true rfl) dX3_init_28 (fun H locs hz hE hS => ?_)
  have hz : H.size = a + 46 := hz
  refine c_aast (k := 1) (k2 := 24) (i := 1) C hK hE hS rfl rfl (vp_dec (by decide)) (Nat.le_add_right a _) dX3_init_31 (fun g2 H locs eg2 hsz hE hS => ?_)
  have hz := hsz.trans hz
  have hE : cl_at G a (([.inr (3, [.int 0, .ref (a + 1)]), .inl (G.2.2, 4, .inr (.inr (.inr (.inr g2))))] ++ esG G (a + 2)) ++ esG G (a + 24)) H := hE
  refine lv_iinc (v := 2) (lv' := [(1, .int 2), (0, .ref a)]) hx hb dX3_init_32 hl (k := 0) rfl (by rfl) (by decide) rfl (fun ls hl => ?_)
  refine lv_goto (tgt := 14) hx hb dX3_init_35 (by decide) ?_
  refine lv_iload_n hx hb dX3_init_14 rfl (lv_at hl 0 rfl) ?_
  refine lv_iconst (v := 4) hx hb dX3_init_15 (by decide) ?_
  refine lv_icmp_ge (tgt := 38) hx hb dX3_init_16 (by decide) (fun c1 => absurd c1 (by decide)) (fun c1 => ?_)
  refine lv_aload_n hx hb dX3_init_19 rfl (lv_at hl 1 rfl) ?_
  refine c_get (k := 0) C hK hE rfl fl_X3_11 rfl dX3_init_20 ?_
  refine lv_iload_n hx hb dX3_init_23 rfl (lv_at hl 0 rfl) ?_
  refine c_new (k := 46) (ci := 1) (N := 7) (C0 := RX1) (T := TX1) (fs := [.int 0, .null, .null, .null, .null, .null, .int 0]) (es' := ((([.inr (3, [.int 0, .ref (a + 1)]), .inl (G.2.2, 4, .inr (.inr (.inr (.inr g2))))] ++ esG G (a + 2)) ++ esG G (a + 24)) ++ [.inr (1, [.int 0, .null, .null, .null, .null, .null, .int 0])])) C hK rfl inB1 tyX1_ok ck_X3_9 ab_X1 ii_X1 (fun j hj => by rcases (show j = 0 ∨ j = 1 ∨ j = 2 ∨ j = 3 ∨ j = 4 ∨ j = 5 ∨ j = 6 by omega) with rfl | rfl | rfl | rfl | rfl | rfl | rfl <;> rfl) hz rfl hE hS (Nat.le_of_ble_eq_true rfl) (Nat.le_of_ble_eq_true rfl) dX3_init_24 rfl (fun H hz hE hS => ?_)
  refine lv_dup hx hb dX3_init_27 rfl ?_
  refine c_init (a := a) (k := 46) (es := (([.inr (3, [.int 0, .ref (a + 1)]), .inl (G.2.2, 4, .inr (.inr (.inr (.inr g2))))] ++ esG G (a + 2)) ++ esG G (a + 24))) C hK hl.1 (n_X1_init l G (a + 46)) mw_X1_init mj_X1_init rfl ml_X3_17 ⟨rfl, rfl, Nat.le_of_ble_eq_true rfl, Nat.le_of_ble_eq_true rfl⟩ ⟨Nat.le_of_ble_eq_true rfl, Nat.le_of_ble_eq_true rfl⟩ hz hE rfl hS (Nat.le_of_ble_eq_true rfl) dX3_init_28 (fun H locs hz hE hS => ?_)
  have hz : H.size = a + 68 := hz
  refine c_aast (k := 1) (k2 := 46) (i := 2) C hK hE hS rfl rfl (vp_dec (by decide)) (Nat.le_add_right a _) dX3_init_31 (fun g3 H locs eg3 hsz hE hS => ?_)
  have hz := hsz.trans hz
  have hE : cl_at G a ((([.inr (3, [.int 0, .ref (a + 1)]), .inl (G.2.2, 4, .inr (.inr (.inr (.inr g3))))] ++ esG G (a + 2)) ++ esG G (a + 24)) ++ esG G (a + 46)) H := hE
  refine lv_iinc (v := 3) (lv' := [(1, .int 3), (0, .ref a)]) hx hb dX3_init_32 hl (k := 0) rfl (by rfl) (by decide) rfl (fun ls hl => ?_)
  refine lv_goto (tgt := 14) hx hb dX3_init_35 (by decide) ?_
  refine lv_iload_n hx hb dX3_init_14 rfl (lv_at hl 0 rfl) ?_
  refine lv_iconst (v := 4) hx hb dX3_init_15 (by decide) ?_
  refine lv_icmp_ge (tgt := 38) hx hb dX3_init_16 (by decide) (fun c1 => absurd c1 (by decide)) (fun c1 => ?_)
  refine lv_aload_n hx hb dX3_init_19 rfl (lv_at hl 1 rfl) ?_
  refine c_get (k := 0) C hK hE rfl fl_X3_11 rfl dX3_init_20 ?_
  refine lv_iload_n hx hb dX3_init_23 rfl (lv_at hl 0 rfl) ?_
  refine c_new (k := 68) (ci := 1) (N := 7) (C0 := RX1) (T := TX1) (fs := [.int 0, .null, .null, .null, .null, .null, .int 0]) (es' := (((([.inr (3, [.int 0, .ref (a + 1)]), .inl (G.2.2, 4, .inr (.inr (.inr (.inr g3))))] ++ esG G (a + 2)) ++ esG G (a + 24)) ++ esG G (a + 46)) ++ [.inr (1, [.int 0, .null, .null, .null, .null, .null, .int 0])])) C hK rfl inB1 tyX1_ok ck_X3_9 ab_X1 ii_X1 (fun j hj => by rcases (show j = 0 ∨ j = 1 ∨ j = 2 ∨ j = 3 ∨ j = 4 ∨ j = 5 ∨ j = 6 by omega) with rfl | rfl | rfl | rfl | rfl | rfl | rfl <;> rfl) hz rfl hE hS (Nat.le_of_ble_eq_true rfl) (Nat.le_of_ble_eq_true rfl) dX3_init_24 rfl (fun H hz hE hS => ?_)
  refine lv_dup hx hb dX3_init_27 rfl ?_
  refine c_init (a := a) (k := 68) (es := ((([.inr (3, [.int 0, .ref (a + 1)]), .inl (G.2.2, 4, .inr (.inr (.inr (.inr g3))))] ++ esG G (a + 2)) ++ esG G (a + 24)) ++ esG G (a + 46))) C hK hl.1 (n_X1_init l G (a + 68)) mw_X1_init mj_X1_init rfl ml_X3_17 ⟨rfl, rfl, Nat.le_of_ble_eq_true rfl, Nat.le_of_ble_eq_true rfl⟩ ⟨Nat.le_of_ble_eq_true rfl, Nat.le_of_ble_eq_true rfl⟩ hz hE rfl hS (Nat.le_of_ble_eq_true rfl) dX3_init_28 (fun H locs hz hE hS => ?_)
  have hz : H.size = a + 90 := hz
  refine c_aast (k := 1) (k2 := 68) (i := 3) C hK hE hS rfl rfl (vp_dec (by decide)) (Nat.le_add_right a _) dX3_init_31 (fun g4 H locs eg4 hsz hE hS => ?_)
  have hz := hsz.trans hz
  have hE : cl_at G a (((([.inr (3, [.int 0, .ref (a + 1)]), .inl (G.2.2, 4, .inr (.inr (.inr (.inr g4))))] ++ esG G (a + 2)) ++ esG G (a + 24)) ++ esG G (a + 46)) ++ esG G (a + 68)) H := hE
  refine lv_iinc (v := 4) (lv' := [(1, .int 4), (0, .ref a)]) hx hb dX3_init_32 hl (k := 0) rfl (by rfl) (by decide) rfl (fun ls hl => ?_)
  refine lv_goto (tgt := 14) hx hb dX3_init_35 (by decide) ?_
  refine lv_iload_n hx hb dX3_init_14 rfl (lv_at hl 0 rfl) ?_
  refine lv_iconst (v := 4) hx hb dX3_init_15 (by decide) ?_
  refine lv_icmp_ge (tgt := 38) hx hb dX3_init_16 (by decide) (fun c1 => ?_) (fun c1 => absurd c1 (by decide))
  have hE : cl_at G a (esH G a) H := by
    have h1 := hE 1 _ rfl
    refine cl_at.set (k := 1) hE rfl (e := .inl (G.2.2, 4, .inr (.inr (.inr (.inr (fun j => some (a + 2 + 22 * j))))))) ?_ (fun _ _ => rfl)
    show H[a + 1]? = some (vp_cell G.2.2 (4, .inr (.inr (.inr (.inr (fun j => some (a + 2 + 22 * j)))))))
    refine Eq.trans h1 ?_
    show some (vp_cell G.2.2 (4, .inr (.inr (.inr (.inr g4))))) = _
    subst eg4; subst eg3; subst eg2; subst eg1
    rw [vp_cell_q, vp_cell_q]
    congr 1
  exact c_ret (es := esH G a) C hr hK hE hz hS rfl rfl dX3_init_38
theorem dX7_init_0 : decode cX7_init 0 = .ok (.aload_n 0, 1) := by decide +kernel
theorem dX7_init_1 : decode cX7_init 1 = .ok (.invokespecial 3, 3) := by decide +kernel
theorem dX7_init_4 : decode cX7_init 4 = .ok (.aload_n 0, 1) := by decide +kernel
theorem dX7_init_5 : decode cX7_init 5 = .ok (.new 9, 3) := by decide +kernel
theorem dX7_init_8 : decode cX7_init 8 = .ok (.dup, 1) := by decide +kernel
theorem dX7_init_9 : decode cX7_init 9 = .ok (.invokespecial 11, 3) := by decide +kernel
theorem dX7_init_12 : decode cX7_init 12 = .ok (.putfield 12, 3) := by decide +kernel
theorem dX7_init_15 : decode cX7_init 15 = .ok (.aload_n 0, 1) := by decide +kernel
theorem dX7_init_16 : decode cX7_init 16 = .ok (.new 9, 3) := by decide +kernel
theorem dX7_init_19 : decode cX7_init 19 = .ok (.dup, 1) := by decide +kernel
theorem dX7_init_20 : decode cX7_init 20 = .ok (.invokespecial 11, 3) := by decide +kernel
theorem dX7_init_23 : decode cX7_init 23 = .ok (.putfield 16, 3) := by decide +kernel
theorem dX7_init_26 : decode cX7_init 26 = .ok (.aload_n 0, 1) := by decide +kernel
theorem dX7_init_27 : decode cX7_init 27 = .ok (.new 19, 3) := by decide +kernel
theorem dX7_init_30 : decode cX7_init 30 = .ok (.dup, 1) := by decide +kernel
theorem dX7_init_31 : decode cX7_init 31 = .ok (.invokespecial 21, 3) := by decide +kernel
theorem dX7_init_34 : decode cX7_init 34 = .ok (.putfield 22, 3) := by decide +kernel
theorem dX7_init_37 : decode cX7_init 37 = .ok (.aload_n 0, 1) := by decide +kernel
theorem dX7_init_38 : decode cX7_init 38 = .ok (.new 26, 3) := by decide +kernel
theorem dX7_init_41 : decode cX7_init 41 = .ok (.dup, 1) := by decide +kernel
theorem dX7_init_42 : decode cX7_init 42 = .ok (.invokespecial 28, 3) := by decide +kernel
theorem dX7_init_45 : decode cX7_init 45 = .ok (.putfield 29, 3) := by decide +kernel
theorem dX7_init_48 : decode cX7_init 48 = .ok (.return_, 1) := by decide +kernel
set_option maxHeartbeats 16000000 in
set_option maxRecDepth 100000 in
theorem n_X7_init (l : Launch) (G : GG) (a : Nat) : CtN l yX7_init cX7_init 1 { frames := 4, cells := 137, slots := 1230, locals := 74 } a 7 [.null, .null, .null, .null] G (esX G a) 137 1230 := by
  refine met_startN (own := RX7) (by decide) rfl rfl (Nat.le_of_ble_eq_true rfl) (fun p e s m below meth c ls C hr hname hz hE hK hl => ?_)
  obtain ⟨hx, hb, hml, hown, hts, hlocks⟩ := id C
  have hao := hK.2.2
  have hS : va_S (fun q => a ≤ q) s.heap s.heap [] := va_S.rf
  refine lv_aload_n hx hb dX7_init_0 rfl (lv_at hl 0 rfl) ?_
  refine c_obj C hl.1 oi_X7_3 dX7_init_1 (Nat.le_of_ble_eq_true rfl) (Nat.le_of_ble_eq_true rfl) ?_
  refine lv_aload_n hx hb dX7_init_4 rfl (lv_at hl 0 rfl) ?_
  refine c_new (k := 1) (ci := 1) (N := 7) (C0 := RX1) (T := TX1) (fs := [.int 0, .null, .null, .null, .null, .null, .int 0]) (es' := ([.inr (7, [.null, .null, .null, .null])] ++ [.inr (1, [.int 0, .null, .null, .null, .null, .null, .int 0])])) C hK rfl inB1 tyX1_ok ck_X7_9 ab_X1 ii_X1 (fun j hj => by rcases (show j = 0 ∨ j = 1 ∨ j = 2 ∨ j = 3 ∨ j = 4 ∨ j = 5 ∨ j = 6 by omega) with rfl | rfl | rfl | rfl | rfl | rfl | rfl <;> rfl) hz rfl hE hS (Nat.le_of_ble_eq_true rfl) (Nat.le_of_ble_eq_true rfl) dX7_init_5 rfl (fun H hz hE hS => ?_)
  refine lv_dup hx hb dX7_init_8 rfl ?_
  refine c_init (a := a) (k := 1) (es := [.inr (7, [.null, .null, .null, .null])]) C hK hl.1 (n_X1_init l G (a + 1)) mw_X1_init mj_X1_init rfl ml_X7_11 ⟨rfl, rfl, Nat.le_of_ble_eq_true rfl, Nat.le_of_ble_eq_true rfl⟩ ⟨Nat.le_of_ble_eq_true rfl, Nat.le_of_ble_eq_true rfl⟩ hz hE rfl hS (Nat.le_of_ble_eq_true rfl) dX7_init_9 (fun H locs hz hE hS => ?_)
  have hz : H.size = a + 23 := hz
  refine c_put (k := 0) (f := 0) (ci := 7) (ty := (.object "SandWorkers$Game")) (es' := ([.inr (7, [.ref (a + 1), .null, .null, .null])] ++ esG G (a + 1))) C hK hname hE hS rfl rfl fl_X7_12 tyX7_ok nmX7 rfl rfl (by decide +kernel) rfl rfl (Nat.le_of_ble_eq_true rfl) (Nat.le_add_right a _) dX7_init_12 rfl (fun H locs hsz hE hS => ?_)
  have hz := hsz.trans hz
  refine lv_aload_n hx hb dX7_init_15 rfl (lv_at hl 0 rfl) ?_
  refine c_new (k := 23) (ci := 1) (N := 7) (C0 := RX1) (T := TX1) (fs := [.int 0, .null, .null, .null, .null, .null, .int 0]) (es' := (([.inr (7, [.ref (a + 1), .null, .null, .null])] ++ esG G (a + 1)) ++ [.inr (1, [.int 0, .null, .null, .null, .null, .null, .int 0])])) C hK rfl inB1 tyX1_ok ck_X7_9 ab_X1 ii_X1 (fun j hj => by rcases (show j = 0 ∨ j = 1 ∨ j = 2 ∨ j = 3 ∨ j = 4 ∨ j = 5 ∨ j = 6 by omega) with rfl | rfl | rfl | rfl | rfl | rfl | rfl <;> rfl) hz rfl hE hS (Nat.le_of_ble_eq_true rfl) (Nat.le_of_ble_eq_true rfl) dX7_init_16 rfl (fun H hz hE hS => ?_)
  refine lv_dup hx hb dX7_init_19 rfl ?_
  refine c_init (a := a) (k := 23) (es := ([.inr (7, [.ref (a + 1), .null, .null, .null])] ++ esG G (a + 1))) C hK hl.1 (n_X1_init l G (a + 23)) mw_X1_init mj_X1_init rfl ml_X7_11 ⟨rfl, rfl, Nat.le_of_ble_eq_true rfl, Nat.le_of_ble_eq_true rfl⟩ ⟨Nat.le_of_ble_eq_true rfl, Nat.le_of_ble_eq_true rfl⟩ hz hE rfl hS (Nat.le_of_ble_eq_true rfl) dX7_init_20 (fun H locs hz hE hS => ?_)
  have hz : H.size = a + 45 := hz
  refine c_put (k := 0) (f := 1) (ci := 7) (ty := (.object "SandWorkers$Game")) (es' := (([.inr (7, [.ref (a + 1), .ref (a + 23), .null, .null])] ++ esG G (a + 1)) ++ esG G (a + 23))) C hK hname hE hS rfl rfl fl_X7_16 tyX7_ok nmX7 rfl rfl (by decide +kernel) rfl rfl (Nat.le_of_ble_eq_true rfl) (Nat.le_add_right a _) dX7_init_23 rfl (fun H locs hsz hE hS => ?_)
  have hz := hsz.trans hz
  refine lv_aload_n hx hb dX7_init_26 rfl (lv_at hl 0 rfl) ?_
  refine c_new (k := 45) (ci := 3) (N := 2) (C0 := RX3) (T := TX3) (fs := [.int 0, .null]) (es' := ((([.inr (7, [.ref (a + 1), .ref (a + 23), .null, .null])] ++ esG G (a + 1)) ++ esG G (a + 23)) ++ [.inr (3, [.int 0, .null])])) C hK rfl inB3 tyX3_ok ck_X7_19 ab_X3 ii_X3 (fun j hj => by rcases (show j = 0 ∨ j = 1 by omega) with rfl | rfl <;> rfl) hz rfl hE hS (Nat.le_of_ble_eq_true rfl) (Nat.le_of_ble_eq_true rfl) dX7_init_27 rfl (fun H hz hE hS => ?_)
  refine lv_dup hx hb dX7_init_30 rfl ?_
  refine c_init (a := a) (k := 45) (es := (([.inr (7, [.ref (a + 1), .ref (a + 23), .null, .null])] ++ esG G (a + 1)) ++ esG G (a + 23))) C hK hl.1 (n_X3_init l G (a + 45)) mw_X3_init mj_X3_init rfl ml_X7_21 ⟨rfl, rfl, Nat.le_of_ble_eq_true rfl, Nat.le_of_ble_eq_true rfl⟩ ⟨Nat.le_of_ble_eq_true rfl, Nat.le_of_ble_eq_true rfl⟩ hz hE rfl hS (Nat.le_of_ble_eq_true rfl) dX7_init_31 (fun H locs hz hE hS => ?_)
  have hz : H.size = a + 135 := hz
  refine c_put (k := 0) (f := 2) (ci := 7) (ty := (.object "SandWorkers$History")) (es' := ((([.inr (7, [.ref (a + 1), .ref (a + 23), .ref (a + 45), .null])] ++ esG G (a + 1)) ++ esG G (a + 23)) ++ esH G (a + 45))) C hK hname hE hS rfl rfl fl_X7_22 tyX7_ok nmX7 rfl rfl (by decide +kernel) rfl rfl (Nat.le_of_ble_eq_true rfl) (Nat.le_add_right a _) dX7_init_34 rfl (fun H locs hsz hE hS => ?_)
  have hz := hsz.trans hz
  refine lv_aload_n hx hb dX7_init_37 rfl (lv_at hl 0 rfl) ?_
  refine c_new (k := 135) (ci := 4) (N := 8) (C0 := RX4) (T := TX4) (fs := [.int 0, .int 0, .int 0, .int 0, .int 0, .int 0, .null, .null]) (es' := (((([.inr (7, [.ref (a + 1), .ref (a + 23), .ref (a + 45), .null])] ++ esG G (a + 1)) ++ esG G (a + 23)) ++ esH G (a + 45)) ++ [.inr (4, [.int 0, .int 0, .int 0, .int 0, .int 0, .int 0, .null, .null])])) C hK rfl inB4 tyX4_ok ck_X7_26 ab_X4 ii_X4 (fun j hj => by rcases (show j = 0 ∨ j = 1 ∨ j = 2 ∨ j = 3 ∨ j = 4 ∨ j = 5 ∨ j = 6 ∨ j = 7 by omega) with rfl | rfl | rfl | rfl | rfl | rfl | rfl | rfl <;> rfl) hz rfl hE hS (Nat.le_of_ble_eq_true rfl) (Nat.le_of_ble_eq_true rfl) dX7_init_38 rfl (fun H hz hE hS => ?_)
  refine lv_dup hx hb dX7_init_41 rfl ?_
  refine c_init (a := a) (k := 135) (es := ((([.inr (7, [.ref (a + 1), .ref (a + 23), .ref (a + 45), .null])] ++ esG G (a + 1)) ++ esG G (a + 23)) ++ esH G (a + 45))) C hK hl.1 (n_X4_init l G (a + 135)) mw_X4_init mj_X4_init rfl ml_X7_28 ⟨rfl, rfl, Nat.le_of_ble_eq_true rfl, Nat.le_of_ble_eq_true rfl⟩ ⟨Nat.le_of_ble_eq_true rfl, Nat.le_of_ble_eq_true rfl⟩ hz hE rfl hS (Nat.le_of_ble_eq_true rfl) dX7_init_42 (fun H locs hz hE hS => ?_)
  have hz : H.size = a + 138 := hz
  refine c_put (k := 0) (f := 3) (ci := 7) (ty := (.object "SandWorkers$Orders")) (es' := (((([.inr (7, [.ref (a + 1), .ref (a + 23), .ref (a + 45), .ref (a + 135)])] ++ esG G (a + 1)) ++ esG G (a + 23)) ++ esH G (a + 45)) ++ esO G (a + 135))) C hK hname hE hS rfl rfl fl_X7_29 tyX7_ok nmX7 rfl rfl (by decide +kernel) rfl rfl (Nat.le_of_ble_eq_true rfl) (Nat.le_add_right a _) dX7_init_45 rfl (fun H locs hsz hE hS => ?_)
  have hz := hsz.trans hz
  exact c_ret (es := esX G a) C hr hK hE hz hS rfl rfl dX7_init_48
theorem dX8_init_0 : decode cX8_init 0 = .ok (.aload_n 0, 1) := by decide +kernel
theorem dX8_init_1 : decode cX8_init 1 = .ok (.invokespecial 1, 3) := by decide +kernel
theorem dX8_init_4 : decode cX8_init 4 = .ok (.aload_n 0, 1) := by decide +kernel
theorem dX8_init_5 : decode cX8_init 5 = .ok (.sipush 164, 3) := by decide +kernel
theorem dX8_init_8 : decode cX8_init 8 = .ok (.newarray .int, 2) := by decide +kernel
theorem dX8_init_10 : decode cX8_init 10 = .ok (.putfield 7, 3) := by decide +kernel
theorem dX8_init_13 : decode cX8_init 13 = .ok (.aload_n 0, 1) := by decide +kernel
theorem dX8_init_14 : decode cX8_init 14 = .ok (.sipush 656, 3) := by decide +kernel
theorem dX8_init_17 : decode cX8_init 17 = .ok (.newarray .int, 2) := by decide +kernel
theorem dX8_init_19 : decode cX8_init 19 = .ok (.putfield 13, 3) := by decide +kernel
theorem dX8_init_22 : decode cX8_init 22 = .ok (.aload_n 0, 1) := by decide +kernel
theorem dX8_init_23 : decode cX8_init 23 = .ok (.sipush 164, 3) := by decide +kernel
theorem dX8_init_26 : decode cX8_init 26 = .ok (.newarray .int, 2) := by decide +kernel
theorem dX8_init_28 : decode cX8_init 28 = .ok (.putfield 16, 3) := by decide +kernel
theorem dX8_init_31 : decode cX8_init 31 = .ok (.aload_n 0, 1) := by decide +kernel
theorem dX8_init_32 : decode cX8_init 32 = .ok (.sipush 164, 3) := by decide +kernel
theorem dX8_init_35 : decode cX8_init 35 = .ok (.newarray .int, 2) := by decide +kernel
theorem dX8_init_37 : decode cX8_init 37 = .ok (.putfield 19, 3) := by decide +kernel
theorem dX8_init_40 : decode cX8_init 40 = .ok (.aload_n 0, 1) := by decide +kernel
theorem dX8_init_41 : decode cX8_init 41 = .ok (.bipush 60, 2) := by decide +kernel
theorem dX8_init_43 : decode cX8_init 43 = .ok (.newarray .int, 2) := by decide +kernel
theorem dX8_init_45 : decode cX8_init 45 = .ok (.putfield 22, 3) := by decide +kernel
theorem dX8_init_48 : decode cX8_init 48 = .ok (.aload_n 0, 1) := by decide +kernel
theorem dX8_init_49 : decode cX8_init 49 = .ok (.bipush 12, 2) := by decide +kernel
theorem dX8_init_51 : decode cX8_init 51 = .ok (.newarray .int, 2) := by decide +kernel
theorem dX8_init_53 : decode cX8_init 53 = .ok (.putfield 25, 3) := by decide +kernel
theorem dX8_init_56 : decode cX8_init 56 = .ok (.aload_n 0, 1) := by decide +kernel
theorem dX8_init_57 : decode cX8_init 57 = .ok (.iconst 4, 1) := by decide +kernel
theorem dX8_init_58 : decode cX8_init 58 = .ok (.newarray .int, 2) := by decide +kernel
theorem dX8_init_60 : decode cX8_init 60 = .ok (.putfield 28, 3) := by decide +kernel
theorem dX8_init_63 : decode cX8_init 63 = .ok (.aload_n 0, 1) := by decide +kernel
theorem dX8_init_64 : decode cX8_init 64 = .ok (.iconst 0, 1) := by decide +kernel
theorem dX8_init_65 : decode cX8_init 65 = .ok (.putfield 31, 3) := by decide +kernel
theorem dX8_init_68 : decode cX8_init 68 = .ok (.return_, 1) := by decide +kernel
set_option maxHeartbeats 16000000 in
set_option maxRecDepth 100000 in
theorem n_X8_init (l : Launch) (G : GG) (a : Nat) : CtN l yX8_init cX8_init 1 { frames := 1, cells := 7, slots := 1224, locals := 12 } a 8 [.null, .null, .null, .null, .int 0, .int 0, .null, .int 0, .null, .int 0, .int 0, .int 0, .int 0, .int 0, .int 0, .int 0, .null] G (esM G a) 7 1224 := by
  refine met_startN (own := RX8) (by decide) rfl rfl (Nat.le_of_ble_eq_true rfl) (fun p e s m below meth c ls C hr hname hz hE hK hl => ?_)
  obtain ⟨hx, hb, hml, hown, hts, hlocks⟩ := id C
  have hS : va_S (fun q => a ≤ q) s.heap s.heap [] := va_S.rf
  refine lv_aload_n hx hb dX8_init_0 rfl (lv_at hl 0 rfl) ?_
  refine c_obj C hl.1 oi_X8_1 dX8_init_1 (Nat.le_of_ble_eq_true rfl) (Nat.le_of_ble_eq_true rfl) ?_
  refine lv_aload_n hx hb dX8_init_4 rfl (lv_at hl 0 rfl) ?_
  refine lv_sipush (v := 164) hx hb dX8_init_5 (by decide) ?_
  refine c_newa (k := 1) (N := 164) (es' := [.inr (8, [.null, .null, .null, .null, .int 0, .int 0, .null, .int 0, .null, .int 0, .int 0, .int 0, .int 0, .int 0, .int 0, .int 0, .null]), .inl (G.2.1, 164, .inl (fun _ => 0))]) C hK hz rfl hE hS (by decide) (by decide) (Nat.le_of_ble_eq_true rfl) (Nat.le_of_ble_eq_true rfl) (Nat.le_of_ble_eq_true rfl) dX8_init_8 rfl (fun H hz hE hS => ?_)
  refine c_put (k := 0) (f := 0) (ci := 8) (ty := (.array .int)) (es' := [.inr (8, [.ref (a + 1), .null, .null, .null, .int 0, .int 0, .null, .int 0, .null, .int 0, .int 0, .int 0, .int 0, .int 0, .int 0, .int 0, .null]), .inl (G.2.1, 164, .inl (fun _ => 0))]) C hK hname hE hS rfl rfl fl_X8_7 tyX8_ok nmX8 rfl rfl (by decide +kernel) rfl rfl (Nat.le_of_ble_eq_true rfl) (Nat.le_add_right a _) dX8_init_10 rfl (fun H locs hsz hE hS => ?_)
  have hz := hsz.trans hz
  refine lv_aload_n hx hb dX8_init_13 rfl (lv_at hl 0 rfl) ?_
  refine lv_sipush (v := 656) hx hb dX8_init_14 (by decide) ?_
  refine c_newa (k := 2) (N := 656) (es' := [.inr (8, [.ref (a + 1), .null, .null, .null, .int 0, .int 0, .null, .int 0, .null, .int 0, .int 0, .int 0, .int 0, .int 0, .int 0, .int 0, .null]), .inl (G.2.1, 164, .inl (fun _ => 0)), .inl (G.2.1, 656, .inl (fun _ => 0))]) C hK hz rfl hE hS (by decide) (by decide) (Nat.le_of_ble_eq_true rfl) (Nat.le_of_ble_eq_true rfl) (Nat.le_of_ble_eq_true rfl) dX8_init_17 rfl (fun H hz hE hS => ?_)
  refine c_put (k := 0) (f := 1) (ci := 8) (ty := (.array .int)) (es' := [.inr (8, [.ref (a + 1), .ref (a + 2), .null, .null, .int 0, .int 0, .null, .int 0, .null, .int 0, .int 0, .int 0, .int 0, .int 0, .int 0, .int 0, .null]), .inl (G.2.1, 164, .inl (fun _ => 0)), .inl (G.2.1, 656, .inl (fun _ => 0))]) C hK hname hE hS rfl rfl fl_X8_13 tyX8_ok nmX8 rfl rfl (by decide +kernel) rfl rfl (Nat.le_of_ble_eq_true rfl) (Nat.le_add_right a _) dX8_init_19 rfl (fun H locs hsz hE hS => ?_)
  have hz := hsz.trans hz
  refine lv_aload_n hx hb dX8_init_22 rfl (lv_at hl 0 rfl) ?_
  refine lv_sipush (v := 164) hx hb dX8_init_23 (by decide) ?_
  refine c_newa (k := 3) (N := 164) (es' := [.inr (8, [.ref (a + 1), .ref (a + 2), .null, .null, .int 0, .int 0, .null, .int 0, .null, .int 0, .int 0, .int 0, .int 0, .int 0, .int 0, .int 0, .null]), .inl (G.2.1, 164, .inl (fun _ => 0)), .inl (G.2.1, 656, .inl (fun _ => 0)), .inl (G.2.1, 164, .inl (fun _ => 0))]) C hK hz rfl hE hS (by decide) (by decide) (Nat.le_of_ble_eq_true rfl) (Nat.le_of_ble_eq_true rfl) (Nat.le_of_ble_eq_true rfl) dX8_init_26 rfl (fun H hz hE hS => ?_)
  refine c_put (k := 0) (f := 2) (ci := 8) (ty := (.array .int)) (es' := [.inr (8, [.ref (a + 1), .ref (a + 2), .ref (a + 3), .null, .int 0, .int 0, .null, .int 0, .null, .int 0, .int 0, .int 0, .int 0, .int 0, .int 0, .int 0, .null]), .inl (G.2.1, 164, .inl (fun _ => 0)), .inl (G.2.1, 656, .inl (fun _ => 0)), .inl (G.2.1, 164, .inl (fun _ => 0))]) C hK hname hE hS rfl rfl fl_X8_16 tyX8_ok nmX8 rfl rfl (by decide +kernel) rfl rfl (Nat.le_of_ble_eq_true rfl) (Nat.le_add_right a _) dX8_init_28 rfl (fun H locs hsz hE hS => ?_)
  have hz := hsz.trans hz
  refine lv_aload_n hx hb dX8_init_31 rfl (lv_at hl 0 rfl) ?_
  refine lv_sipush (v := 164) hx hb dX8_init_32 (by decide) ?_
  refine c_newa (k := 4) (N := 164) (es' := [.inr (8, [.ref (a + 1), .ref (a + 2), .ref (a + 3), .null, .int 0, .int 0, .null, .int 0, .null, .int 0, .int 0, .int 0, .int 0, .int 0, .int 0, .int 0, .null]), .inl (G.2.1, 164, .inl (fun _ => 0)), .inl (G.2.1, 656, .inl (fun _ => 0)), .inl (G.2.1, 164, .inl (fun _ => 0)), .inl (G.2.1, 164, .inl (fun _ => 0))]) C hK hz rfl hE hS (by decide) (by decide) (Nat.le_of_ble_eq_true rfl) (Nat.le_of_ble_eq_true rfl) (Nat.le_of_ble_eq_true rfl) dX8_init_35 rfl (fun H hz hE hS => ?_)
  refine c_put (k := 0) (f := 3) (ci := 8) (ty := (.array .int)) (es' := [.inr (8, [.ref (a + 1), .ref (a + 2), .ref (a + 3), .ref (a + 4), .int 0, .int 0, .null, .int 0, .null, .int 0, .int 0, .int 0, .int 0, .int 0, .int 0, .int 0, .null]), .inl (G.2.1, 164, .inl (fun _ => 0)), .inl (G.2.1, 656, .inl (fun _ => 0)), .inl (G.2.1, 164, .inl (fun _ => 0)), .inl (G.2.1, 164, .inl (fun _ => 0))]) C hK hname hE hS rfl rfl fl_X8_19 tyX8_ok nmX8 rfl rfl (by decide +kernel) rfl rfl (Nat.le_of_ble_eq_true rfl) (Nat.le_add_right a _) dX8_init_37 rfl (fun H locs hsz hE hS => ?_)
  have hz := hsz.trans hz
  refine lv_aload_n hx hb dX8_init_40 rfl (lv_at hl 0 rfl) ?_
  refine lv_bipush (v := 60) hx hb dX8_init_41 (by decide) ?_
  refine c_newa (k := 5) (N := 60) (es' := [.inr (8, [.ref (a + 1), .ref (a + 2), .ref (a + 3), .ref (a + 4), .int 0, .int 0, .null, .int 0, .null, .int 0, .int 0, .int 0, .int 0, .int 0, .int 0, .int 0, .null]), .inl (G.2.1, 164, .inl (fun _ => 0)), .inl (G.2.1, 656, .inl (fun _ => 0)), .inl (G.2.1, 164, .inl (fun _ => 0)), .inl (G.2.1, 164, .inl (fun _ => 0)), .inl (G.2.1, 60, .inl (fun _ => 0))]) C hK hz rfl hE hS (by decide) (by decide) (Nat.le_of_ble_eq_true rfl) (Nat.le_of_ble_eq_true rfl) (Nat.le_of_ble_eq_true rfl) dX8_init_43 rfl (fun H hz hE hS => ?_)
  refine c_put (k := 0) (f := 6) (ci := 8) (ty := (.array .int)) (es' := [.inr (8, [.ref (a + 1), .ref (a + 2), .ref (a + 3), .ref (a + 4), .int 0, .int 0, .ref (a + 5), .int 0, .null, .int 0, .int 0, .int 0, .int 0, .int 0, .int 0, .int 0, .null]), .inl (G.2.1, 164, .inl (fun _ => 0)), .inl (G.2.1, 656, .inl (fun _ => 0)), .inl (G.2.1, 164, .inl (fun _ => 0)), .inl (G.2.1, 164, .inl (fun _ => 0)), .inl (G.2.1, 60, .inl (fun _ => 0))]) C hK hname hE hS rfl rfl fl_X8_22 tyX8_ok nmX8 rfl rfl (by decide +kernel) rfl rfl (Nat.le_of_ble_eq_true rfl) (Nat.le_add_right a _) dX8_init_45 rfl (fun H locs hsz hE hS => ?_)
  have hz := hsz.trans hz
  refine lv_aload_n hx hb dX8_init_48 rfl (lv_at hl 0 rfl) ?_
  refine lv_bipush (v := 12) hx hb dX8_init_49 (by decide) ?_
  refine c_newa (k := 6) (N := 12) (es' := [.inr (8, [.ref (a + 1), .ref (a + 2), .ref (a + 3), .ref (a + 4), .int 0, .int 0, .ref (a + 5), .int 0, .null, .int 0, .int 0, .int 0, .int 0, .int 0, .int 0, .int 0, .null]), .inl (G.2.1, 164, .inl (fun _ => 0)), .inl (G.2.1, 656, .inl (fun _ => 0)), .inl (G.2.1, 164, .inl (fun _ => 0)), .inl (G.2.1, 164, .inl (fun _ => 0)), .inl (G.2.1, 60, .inl (fun _ => 0)), .inl (G.2.1, 12, .inl (fun _ => 0))]) C hK hz rfl hE hS (by decide) (by decide) (Nat.le_of_ble_eq_true rfl) (Nat.le_of_ble_eq_true rfl) (Nat.le_of_ble_eq_true rfl) dX8_init_51 rfl (fun H hz hE hS => ?_)
  refine c_put (k := 0) (f := 8) (ci := 8) (ty := (.array .int)) (es' := [.inr (8, [.ref (a + 1), .ref (a + 2), .ref (a + 3), .ref (a + 4), .int 0, .int 0, .ref (a + 5), .int 0, .ref (a + 6), .int 0, .int 0, .int 0, .int 0, .int 0, .int 0, .int 0, .null]), .inl (G.2.1, 164, .inl (fun _ => 0)), .inl (G.2.1, 656, .inl (fun _ => 0)), .inl (G.2.1, 164, .inl (fun _ => 0)), .inl (G.2.1, 164, .inl (fun _ => 0)), .inl (G.2.1, 60, .inl (fun _ => 0)), .inl (G.2.1, 12, .inl (fun _ => 0))]) C hK hname hE hS rfl rfl fl_X8_25 tyX8_ok nmX8 rfl rfl (by decide +kernel) rfl rfl (Nat.le_of_ble_eq_true rfl) (Nat.le_add_right a _) dX8_init_53 rfl (fun H locs hsz hE hS => ?_)
  have hz := hsz.trans hz
  refine lv_aload_n hx hb dX8_init_56 rfl (lv_at hl 0 rfl) ?_
  refine lv_iconst (v := 4) hx hb dX8_init_57 (by decide) ?_
  refine c_newa (k := 7) (N := 4) (es' := [.inr (8, [.ref (a + 1), .ref (a + 2), .ref (a + 3), .ref (a + 4), .int 0, .int 0, .ref (a + 5), .int 0, .ref (a + 6), .int 0, .int 0, .int 0, .int 0, .int 0, .int 0, .int 0, .null]), .inl (G.2.1, 164, .inl (fun _ => 0)), .inl (G.2.1, 656, .inl (fun _ => 0)), .inl (G.2.1, 164, .inl (fun _ => 0)), .inl (G.2.1, 164, .inl (fun _ => 0)), .inl (G.2.1, 60, .inl (fun _ => 0)), .inl (G.2.1, 12, .inl (fun _ => 0)), .inl (G.2.1, 4, .inl (fun _ => 0))]) C hK hz rfl hE hS (by decide) (by decide) (Nat.le_of_ble_eq_true rfl) (Nat.le_of_ble_eq_true rfl) (Nat.le_of_ble_eq_true rfl) dX8_init_58 rfl (fun H hz hE hS => ?_)
  refine c_put (k := 0) (f := 16) (ci := 8) (ty := (.array .int)) (es' := [.inr (8, [.ref (a + 1), .ref (a + 2), .ref (a + 3), .ref (a + 4), .int 0, .int 0, .ref (a + 5), .int 0, .ref (a + 6), .int 0, .int 0, .int 0, .int 0, .int 0, .int 0, .int 0, .ref (a + 7)]), .inl (G.2.1, 164, .inl (fun _ => 0)), .inl (G.2.1, 656, .inl (fun _ => 0)), .inl (G.2.1, 164, .inl (fun _ => 0)), .inl (G.2.1, 164, .inl (fun _ => 0)), .inl (G.2.1, 60, .inl (fun _ => 0)), .inl (G.2.1, 12, .inl (fun _ => 0)), .inl (G.2.1, 4, .inl (fun _ => 0))]) C hK hname hE hS rfl rfl fl_X8_28 tyX8_ok nmX8 rfl rfl (by decide +kernel) rfl rfl (Nat.le_of_ble_eq_true rfl) (Nat.le_add_right a _) dX8_init_60 rfl (fun H locs hsz hE hS => ?_)
  have hz := hsz.trans hz
  refine lv_aload_n hx hb dX8_init_63 rfl (lv_at hl 0 rfl) ?_
  refine lv_iconst (v := 0) hx hb dX8_init_64 (by decide) ?_
  refine c_puti (k := 0) (f := 4) (ci := 8) (ty := .int) (es' := [.inr (8, [.ref (a + 1), .ref (a + 2), .ref (a + 3), .ref (a + 4), .int 0, .int 0, .ref (a + 5), .int 0, .ref (a + 6), .int 0, .int 0, .int 0, .int 0, .int 0, .int 0, .int 0, .ref (a + 7)]), .inl (G.2.1, 164, .inl (fun _ => 0)), .inl (G.2.1, 656, .inl (fun _ => 0)), .inl (G.2.1, 164, .inl (fun _ => 0)), .inl (G.2.1, 164, .inl (fun _ => 0)), .inl (G.2.1, 60, .inl (fun _ => 0)), .inl (G.2.1, 12, .inl (fun _ => 0)), .inl (G.2.1, 4, .inl (fun _ => 0))]) C hK hE hS rfl rfl fl_X8_31 tyX8_ok nmX8 rfl (by decide +kernel) rfl rfl (Nat.le_of_ble_eq_true rfl) (Nat.le_add_right a _) dX8_init_65 rfl (fun H locs hsz hE hS => ?_)
  have hz := hsz.trans hz
  exact c_ret (es := esM G a) C hr hK hE hz hS rfl rfl dX8_init_68
