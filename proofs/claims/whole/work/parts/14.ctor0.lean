/-! CONSTRUCTORS: the cells that come, side by side from the object's own address on -/
def cl_at (G : GG) (a : Nat) (es : List va_E) (H : Heap) : Prop := ∀ (k : Nat) (e : va_E), es[k]? = some e → va_at G.1 vwCl (a + k, e) H
theorem cl_at.push {G : GG} {a : Nat} {es : List va_E} {H H1 : Heap} {e : va_E} (h : cl_at G a es H) (o : ∀ q, q < H.size → H1[q]? = H[q]?) (he : va_at G.1 vwCl (a + es.length, e) H1) : cl_at G a (es ++ [e]) H1 := by
  intro k x hx
  by_cases hl : k < es.length
  · rw [List.getElem?_append_left hl] at hx
    exact (h k x hx).kept (o _ (h k x hx).lt)
  · rw [List.getElem?_append_right (by omega)] at hx
    have hz : k - es.length < 1 := (List.getElem?_eq_some_iff.mp hx).1
    have hk : k = es.length := by omega
    subst hk
    rw [Nat.sub_self] at hx
    cases hx
    exact he
theorem cl_at.set {G : GG} {a k : Nat} {es : List va_E} {H H1 : Heap} {e0 e : va_E} (h : cl_at G a es H) (hk : es[k]? = some e0) (he : va_at G.1 vwCl (a + k, e) H1) (oq : ∀ q, q ≠ a + k → H1[q]? = H[q]?) : cl_at G a (es.set k e) H1 := by
  have hl := (List.getElem?_eq_some_iff.mp hk).1
  intro j x hx
  by_cases hj : j = k
  · subst hj
    rw [List.getElem?_set_self hl] at hx
    cases hx
    exact he
  · rw [List.getElem?_set_ne (Ne.symm hj)] at hx
    exact (h j x hx).kept (oq _ (fun q => hj (Nat.add_left_cancel q)))
theorem cl_at.arr {G : GG} {a k n : Nat} {es : List va_E} {H : Heap} {f g : Nat → Int32} (h : cl_at G a es H) (hk : es[k]? = some (.inl (G.2.1, n, .inl f))) (hfg : ∀ j, j < n → f j = g j) : cl_at G a (es.set k (.inl (G.2.1, n, .inl g))) H := by
  refine h.set hk ?_ (fun _ _ => rfl)
  have := h k _ hk
  show H[a + k]? = some (vp_cell G.2.1 (n, .inl g))
  rw [← cell_cong G.2.1 hfg]
  exact this
theorem cl_at.app {G : GG} {a : Nat} {es es2 : List va_E} {H H1 : Heap} (h : cl_at G a es H) (o : ∀ q, q < a + es.length → H1[q]? = H[q]?) (h2 : cl_at G (a + es.length) es2 H1) : cl_at G a (es ++ es2) H1 := by
  intro k x hx
  by_cases hl : k < es.length
  · rw [List.getElem?_append_left hl] at hx
    exact (h k x hx).kept (o _ (by show a + k < _; omega))
  · rw [List.getElem?_append_right (by omega)] at hx
    have := h2 _ _ hx
    rw [show a + es.length + (k - es.length) = a + k by omega] at this
    exact this
theorem cl_at.left {G : GG} {a : Nat} {es es2 : List va_E} {H : Heap} (h : cl_at G a (es ++ es2) H) : cl_at G a es H := fun k x hx => h k x (by
  rw [List.getElem?_append_left (List.getElem?_eq_some_iff.mp hx).1]
  exact hx)
theorem cl_at.right {G : GG} {a : Nat} {es es2 : List va_E} {H : Heap} (h : cl_at G a (es ++ es2) H) : cl_at G (a + es.length) es2 H := fun k x hx => by
  have := h (es.length + k) x (by rw [List.getElem?_append_right (by omega), Nat.add_sub_cancel_left]; exact hx)
  rw [Nat.add_assoc]
  exact this
theorem cl_at.kept {G : GG} {a : Nat} {es : List va_E} {H H1 : Heap} (h : cl_at G a es H) (o : ∀ k, k < es.length → H1[a + k]? = H[a + k]?) : cl_at G a es H1 := fun k x hx => (h k x hx).kept (o k (List.getElem?_eq_some_iff.mp hx).1)
def CtN (l : Launch) (y : MethodName) (bytes : ByteArray) (maxL : Nat) (rm : Room) (b ci : Nat) (fs : List Value) (G : GG) (es : List va_E) (mc ms : Nat) : Prop :=
  Met l y (Cond.code y bytes maxL none :: BIG) rm (va_Pc [.ref b] (fun U => (U.heap.size = b + 1 ∧ va_at G.1 vwCl (b, .inr (ci, fs)) U.heap) ∧ KK G U)) (va_Qv (fun _ : Unit => True) (fun _ t => (t.heap.size = b + es.length ∧ cl_at G b es t.heap) ∧ KK G t) (fun q => b ≤ q)) mc ms (fun q => b ≤ q)
theorem met_startN {l : Launch} {y : MethodName} {cc : ByteArray} {maxL : Nat} {rm : Room} {b ci : Nat} {fs : List Value} {G : GG} {es : List va_E} {mc ms : Nat} {own : String} (hy : plainName y.cls = true) (hown : y.cls = own) (hname : y.name = "<init>") (hsl : (lg_sl [.ref b]).length ≤ maxL)
    (body : ∀ (p : Program) (e : Env) (s : State) (m : MethodId) (below : List Frame) (meth : Method) (c : Code) (ls : Array Slot), CX p m meth c s #[.ref b] cc own maxL → meth.sig.returnType = none → meth.name = "<init>" → s.heap.size = b + 1 → cl_at G b [.inr (ci, fs)] s.heap → KK G s → lv_has ls maxL [(0, .ref b)] → W p l e rm s m #[.ref b] below meth c s.heap [] 0 0 (MQ below (va_Qv (fun _ : Unit => True) (fun _ t => (t.heap.size = b + es.length ∧ cl_at G b es t.heap) ∧ KK G t) (fun q => b ≤ q)) #[.ref b] s mc ms (fun q => b ≤ q)) (F0 m 0 ls [])) :
    CtN l y cc maxL rm b ci fs G es mc ms := by
  unfold CtN
  refine Met.ofW (cc := cc) (maxL := maxL) (ret := none) hy rfl ?_
  intro p e s m args below meth c s₁ B hml hv
  obtain ⟨rfl, ⟨hz, hE⟩, hK⟩ := hv
  have hts := atoms_spec (ws := Cond.code y cc maxL none :: BIG) B.pre
  have hl := lv_entry [.ref b] (n := maxL) hsl
  rw [lg_entry_eq]
  subst hown
  have hn : meth.name = "<init>" := (name_of_methodNamed B.named B.method).1.trans hname
  refine body p e s m below meth c _ ⟨B.exec, B.bytes, hml, findClass_of_methodNamed B.named, fun w hw => hts w (List.mem_cons_of_mem _ hw), B.notSynchronized⟩ B.returns hn hz ?_ hK hl
  intro k x hx
  cases k with
  | zero => cases hx; exact hE
  | succ k => simp at hx
theorem oi_inst : Cond.instanceMethod Lib.objectInit ∈ BIG := big_of (by decide +kernel) rfl
theorem oi_code : Cond.code Lib.objectInit ⟨#[0xb1]⟩ 1 none ∈ BIG := big_of (by decide +kernel) rfl
theorem ac_int : Cond.arrayClass .int ∈ BIG := big_of (by decide +kernel) rfl
theorem ao_game : Cond.arrayOver (.object RX1) ∈ lw_tbl := by decide +kernel
section CT
variable {p : Program} {l : Launch} {e : Env} {R : Room} {s : State} {m : MethodId} {args : Array Value} {below : List Frame} {meth : Method} {c : Code} {H : Heap} {locs : List Loc} {cells slots : Nat} {Q : State → Prop}
variable {cc : ByteArray} {own : String} {nL pc : Nat} {ls : Array Slot} {rest : List Value} {G : GG} {A : Nat → Prop} {H0 : Heap} {a k : Nat} {es es' : List va_E}
theorem c_obj (C : CX p m meth c s args cc own nL) (hls : ls.size = nL) {idx : Nat} (hl : Cond.methodLink own idx Lib.objectInit ∈ BIG) (hdg : decode cc pc = .ok (.invokespecial idx, 3)) (hframes : 1 ≤ R.frames) (hlocals : 2 * 0 + (rest.map fun v => v.category).sum + 12 ≤ R.locals)
    (kk : W p l e R s m args below meth c H locs cells slots Q (F0 m (pc + 3) ls rest)) : W p l e R s m args below meth c H locs cells slots Q (F0 m pc ls (.ref a :: rest)) := by
  obtain ⟨hx, hb, hml, hown, hts, -⟩ := C
  exact W.objInit hx hb hown (hts _ hl) (hts _ oi_inst) (hts _ oi_code) rfl (by rw [hml]; exact hls) rfl hdg hframes hlocals kk
theorem c_newa (C : CX p m meth c s args cc own nL) (hK : KK G s) (hz : H.size = a + k) (hk : es.length = k) (hE : cl_at G a es H) (hS : va_S A H0 H locs) {n : Int32} {N : Nat} (hn : ¬ n < 0) (hN : n.toNatClampNeg = N) (hbytes : N * componentBytes FieldType.int ≤ 536870912) (hcells : cells + 1 ≤ R.cells) (hslots : slots + N ≤ R.slots) (hdg : decode cc pc = .ok (.newarray .int, 2)) (he : es ++ [.inl (G.2.1, N, .inl (fun _ => 0))] = es')
    (kk : ∀ H1 : Heap, H1.size = a + (k + 1) → cl_at G a es' H1 → va_S A H0 H1 locs → W p l e R s m args below meth c H1 locs (cells + 1) (slots + N) Q (F0 m (pc + 2) ls (.ref (a + k) :: rest))) : W p l e R s m args below meth c H locs cells slots Q (F0 m pc ls (.int n :: rest)) := by
  obtain ⟨hx, hb, hml, hown, hts, -⟩ := C
  refine va_newaK (atype := .int) hx hb (hts _ ac_int) rfl hdg rfl hn hN hbytes hcells hslots hz fun H1 cA e1 z1 o1 hAr hNm => ?_
  have hcA : cA = G.2.1 := Option.some.inj (hNm.symm.trans (hK.1.2 0 _ rfl).2)
  subst hcA
  subst hk
  refine kk H1 (by rw [z1]; omega) ?_ ⟨Nat.le_trans hS.1 (by omega), fun q h1 h2 => (o1 q (by have := hS.1; omega)).trans (hS.2.1 q h1 h2), hS.2.2⟩
  rw [← he]
  exact hE.push (fun q hq => o1 q (by omega)) e1
theorem c_newq (C : CX p m meth c s args cc own nL) (hK : KK G s) (hao : va_AO RX1 s) {index : Nat} (hcl : Cond.classLink own index RX1 ∈ BIG) (hz : H.size = a + k) (hk : es.length = k) (hE : cl_at G a es H) (hS : va_S A H0 H locs) {n : Int32} {N : Nat} (hn : ¬ n < 0) (hN : n.toNatClampNeg = N) (hbytes : N * 4 ≤ 536870912) (hcells : cells + 1 ≤ R.cells) (hslots : slots + N ≤ R.slots) (hdg : decode cc pc = .ok (.anewarray index, 3)) (he : es ++ [.inl (G.2.2, N, .inr (.inr (.inr (.inr (fun _ => none)))))] = es')
    (kk : ∀ H1 : Heap, H1.size = a + (k + 1) → cl_at G a es' H1 → va_S A H0 H1 locs → W p l e R s m args below meth c H1 locs (cells + 1) (slots + N) Q (F0 m (pc + 3) ls (.ref (a + k) :: rest))) : W p l e R s m args below meth c H locs cells slots Q (F0 m pc ls (.int n :: rest)) := by
  obtain ⟨hx, hb, hml, hown, hts, -⟩ := C
  subst hN
  refine W.anew hx hb hown (hts _ hcl) (va_AO.use hao) rfl hdg rfl hn hbytes hcells hslots fun cA kA comp f1 f2 f3 f4 => ?_
  obtain ⟨kA', comp', k1, k2, k3, k4⟩ := (hK.1.2 1 (G.2.2, .object RX1) rfl).2
  have hcA : cA = G.2.2 := Option.some.inj (f1.symm.trans k4)
  subst hcA
  subst hk
  generalize hH1 : H.push ({ cls := G.2.2, slots := Array.replicate n.toNatClampNeg .null, vm := .none } : Cell) = H1
  have z1 : H1.size = H.size + 1 := by rw [← hH1, Array.size_push]
  have e1 : H1[H.size]? = some (arrV G.2.2 n.toNatClampNeg (fun _ => .null)) := by rw [← hH1, Array.getElem?_push_size, ← arrV_new]
  have o1 : ∀ q : Nat, q < H.size → H1[q]? = H[q]? := fun q hq => by rw [← hH1, Array.getElem?_push, if_neg (Nat.ne_of_lt hq)]
  rw [hz]
  refine kk H1 (by rw [z1]; omega) ?_ ⟨Nat.le_trans hS.1 (by omega), fun q h1 h2 => (o1 q (by have := hS.1; omega)).trans (hS.2.1 q h1 h2), hS.2.2⟩
  rw [← he]
  rw [hz] at e1
  exact hE.push o1 e1
theorem c_new (C : CX p m meth c s args cc own nL) (hK : KK G s) {index ci N : Nat} {C0 : String} {T : u_T} {ty : Nat → FieldType} {fs : List Value} (hc : vwCl[ci]? = some (C0, T, N)) (hin : ∀ w ∈ u_ws C0 T N, w ∈ BIG) (hty : ∀ j, j < N → parseFieldDescriptor (T j).2.2.1 = some (ty j)) (hcl : Cond.classLink own index C0 ∈ BIG) (hinst : Cond.instantiable C0 N ∈ BIG) (hini : Cond.initialized C0 ∈ BIG) (hfs : ∀ j, j < N → defaultValue (ty j) = vp_V fs j) (hz : H.size = a + k) (hk : es.length = k) (hE : cl_at G a es H) (hS : va_S A H0 H locs) (hcells : cells + 1 ≤ R.cells) (hslots : slots + N ≤ R.slots) (hdg : decode cc pc = .ok (.new index, 3)) (he : es ++ [.inr (ci, fs)] = es')
    (kk : ∀ H1 : Heap, H1.size = a + (k + 1) → cl_at G a es' H1 → va_S A H0 H1 locs → W p l e R s m args below meth c H1 locs (cells + 1) (slots + N) Q (F0 m (pc + 3) ls (.ref (a + k) :: rest))) : W p l e R s m args below meth c H locs cells slots Q (F0 m pc ls rest) := by
  obtain ⟨hx, hb, hml, hown, hts, -⟩ := C
  have hKn := hK.1.1 ci _ hc
  refine W.newcK hx hb hown (hts _ hcl) (hts _ hinst) (hts _ hini) rfl hdg hcells hslots hKn.2.1 hz fun H1 kC hkC e1 z1 o1 => ?_
  subst hk
  refine kk H1 (by rw [z1]; omega) ?_ ⟨Nat.le_trans hS.1 (by omega), fun q h1 h2 => (o1 q (by have := hS.1; omega)).trans (hS.2.1 q h1 h2), hS.2.2⟩
  rw [← he]
  exact hE.push (fun q hq => o1 q (by omega)) ⟨_, hc, (u_born ty hts hin hKn hkC e1 hty).to hfs⟩
/-- a final field of a new object -/
theorem c_put (C : CX p m meth c s args cc own nL) (hK : KK G s) (hname : meth.name = "<init>") {index ci f N : Nat} {C0 : String} {T : u_T} {ty0 : Nat → FieldType} {fs : List Value} {v : Value} {ty : FieldType} (hE : cl_at G a es H) (hS : va_S A H0 H locs) (hk : es[k]? = some (.inr (ci, fs))) (hc : vwCl[ci]? = some (C0, T, N)) (hF : FL own index ci f) (hty : ∀ j, j < N → parseFieldDescriptor (T j).2.2.1 = some (ty0 j)) (hnm : ∀ a, a < N → ∀ b, b < N → a ≠ b → (T a).2.1 ≠ (T b).2.1) (hdecl : C0 = own) (hfin : (T f).2.2.2 = true) (hd : parseFieldDescriptor (T f).2.2.1 = some ty) (hn : narrow ty v = v) (hfit : fits ty v = true) (hl : f < fs.length) (hA : A (a + k)) (hdg : decode cc pc = .ok (.putfield index, 3)) (he : es.set k (.inr (ci, fs.set f v)) = es')
    (kk : ∀ (H1 : Heap) (locs1 : List Loc), H1.size = H.size → cl_at G a es' H1 → va_S A H0 H1 locs1 → W p l e R s m args below meth c H1 locs1 cells slots Q (F0 m (pc + 3) ls rest)) : W p l e R s m args below meth c H locs cells slots Q (F0 m pc ls (v :: .ref (a + k) :: rest)) := by
  obtain ⟨hx, hb, hml, hown, hts, -⟩ := C
  obtain ⟨C1, T1, N1, hc1, hin, hfN, hlink, hsame⟩ := hF
  cases hc.symm.trans hc1
  have hap := va_apart (own := own) hts hin ty0 hty hnm hK.1 hc
  obtain ⟨r, h1, cell, q1, q2, q3, q4⟩ := hE k _ hk
  cases h1.symm.trans hc
  obtain ⟨hSl, hfc, kC, hkC, hkind⟩ := hK.1.1 ci _ hc
  obtain ⟨cf, kf, fi, fd, hi, hsl⟩ := hSl f hfN
  have hlay := u_lays hts hin hfN
  have hst := (u_facts hfc hkC hlay hi).1
  have h6 := u_fits hfc hkC hkind hlay hi hd hn hfit
  have hi' := hi
  rw [hsame] at hi'
  have hlay2 := hts _ (hin _ (u_in_lay hfN))
  unfold u_lay at hlay2
  rw [if_pos hfin] at hlay2
  have hcf : m.cls = cf := by
    obtain ⟨_, _, c', _, _, _, -, -, hf', -, -, -, hown2, -⟩ := Cond.laysFinal_spec hlay2
    have e1 : c' = cf := by have := hi.symm.trans hf'; simp at this; exact this.1.symm
    rw [hsame, hdecl] at hown2
    rw [← e1]; exact Option.some.inj (hown.symm.trans hown2)
  refine W.putFinK hx hb hown (hts _ hlink) hi' hst hcf hname (by rw [q2]; exact h6) q1 q3 (by rw [hsl]; exact k2_hasslot (q4 f hfN)) rfl rfl hdg fun H' e1 e2 e3 => ?_
  rw [hsl] at e1 ⊢
  refine kk H' _ e2 ?_ (hS.put e2 e3 hA)
  rw [← he]
  exact hE.set hk ⟨_, hc, t_OB.to (V := updV (vp_V fs) f v) ⟨_, e1, q2, q3, t_set q4 hap hfN v⟩ (fun j _ => vp_updV_set hl v j)⟩ e3
/-- a field of a new object that isn't final -/
theorem c_puti (C : CX p m meth c s args cc own nL) (hK : KK G s) {index ci f N : Nat} {C0 : String} {T : u_T} {ty0 : Nat → FieldType} {fs : List Value} {v : Value} {ty : FieldType} (hE : cl_at G a es H) (hS : va_S A H0 H locs) (hk : es[k]? = some (.inr (ci, fs))) (hc : vwCl[ci]? = some (C0, T, N)) (hF : FL own index ci f) (hty : ∀ j, j < N → parseFieldDescriptor (T j).2.2.1 = some (ty0 j)) (hnm : ∀ a, a < N → ∀ b, b < N → a ≠ b → (T a).2.1 ≠ (T b).2.1) (hfin : (T f).2.2.2 = false) (hd : parseFieldDescriptor (T f).2.2.1 = some ty) (hn : narrow ty v = v) (hfit : fits ty v = true) (hl : f < fs.length) (hA : A (a + k)) (hdg : decode cc pc = .ok (.putfield index, 3)) (he : es.set k (.inr (ci, fs.set f v)) = es')
    (kk : ∀ (H1 : Heap) (locs1 : List Loc), H1.size = H.size → cl_at G a es' H1 → va_S A H0 H1 locs1 → W p l e R s m args below meth c H1 locs1 cells slots Q (F0 m (pc + 3) ls rest)) : W p l e R s m args below meth c H locs cells slots Q (F0 m pc ls (v :: .ref (a + k) :: rest)) := by
  obtain ⟨hx, hb, hml, hown, hts, -⟩ := C
  obtain ⟨C1, T1, N1, hc1, hin, hfN, hlink, hsame⟩ := hF
  cases hc.symm.trans hc1
  have hap := va_apart (own := own) hts hin ty0 hty hnm hK.1 hc
  obtain ⟨r, h1, cell, q1, q2, q3, q4⟩ := hE k _ hk
  cases h1.symm.trans hc
  obtain ⟨hSl, hfc, kC, hkC, hkind⟩ := hK.1.1 ci _ hc
  obtain ⟨cf, kf, fi, fd, hi, hsl⟩ := hSl f hfN
  have hlay := u_lays hts hin hfN
  have hst := (u_facts hfc hkC hlay hi).1
  have hi' := hi
  rw [hsame] at hi'
  have hlay2 := hts _ (hin _ (u_in_lay hfN))
  unfold u_lay at hlay2
  rw [if_neg (by rw [hfin]; decide)] at hlay2
  have h6 := u_store hfc hkC hkind hlay2 hi hd hn hfit
  refine W.putK hx hb (f := fd) ⟨hown, hts _ hlink, ⟨_, _, _, hi'⟩, hst⟩ (by rw [q2]; exact h6) q1 q3 (by rw [hsl]; exact k2_hasslot (q4 f hfN)) rfl rfl hdg fun H' e1 e2 e3 => ?_
  rw [hsl] at e1 ⊢
  refine kk H' _ e2 ?_ (hS.put e2 e3 hA)
  rw [← he]
  exact hE.set hk ⟨_, hc, t_OB.to (V := updV (vp_V fs) f v) ⟨_, e1, q2, q3, t_set q4 hap hfN v⟩ (fun j _ => vp_updV_set hl v j)⟩ e3
theorem c_get (C : CX p m meth c s args cc own nL) (hK : KK G s) {index ci f : Nat} {fs : List Value} {v : Value} (hE : cl_at G a es H) (hk : es[k]? = some (.inr (ci, fs))) (hF : FL own index ci f) (hv : fs[f]? = some v) (hdg : decode cc pc = .ok (.getfield index, 3))
    (kk : W p l e R s m args below meth c H locs cells slots Q (F0 m (pc + 3) ls (v :: rest))) : W p l e R s m args below meth c H locs cells slots Q (F0 m pc ls (.ref (a + k) :: rest)) := by
  obtain ⟨hx, hb, hml, hown, hts, -⟩ := C
  obtain ⟨C0, T, N, hc, hin, hfN, hlink, hsame⟩ := hF
  refine va_get (ref := C0) (ws := [(a + k, .inr (ci, fs))]) hx hb hts hin hown hK.1 (fun j x hx => ?_) 0 rfl hc f hfN (hts _ hlink) (fun x h => by rw [hsame] at h; exact h) hv hdg kk
  cases j with
  | zero => cases hx; exact hE k _ hk
  | succ j => simp at hx
theorem c_ast (C : CX p m meth c s args cc own nL) (hK : KK G s) (hE : cl_at G a es H) (hS : va_S A H0 H locs) {n : Nat} {f : Nat → Int32} {i v : Int32} (hk : es[k]? = some (.inl (G.2.1, n, .inl f))) (hin : vp_in i n) (hA : A (a + k)) (hdg : decode cc pc = .ok (.iastore, 1))
    (kk : ∀ (g : Nat → Int32) (H1 : Heap) (locs1 : List Loc), g = upd f i.toNatClampNeg v → H1.size = H.size → cl_at G a (es.set k (.inl (G.2.1, n, .inl g))) H1 → va_S A H0 H1 locs1 → W p l e R s m args below meth c H1 locs1 cells slots Q (F0 m (pc + 1) ls rest)) : W p l e R s m args below meth c H locs cells slots Q (F0 m pc ls (.int v :: .int i :: .ref (a + k) :: rest)) := by
  obtain ⟨hx, hb, hml, hown, hts, -⟩ := C
  have hc : H[a + k]? = some (vp_cell G.2.1 (n, .inl f)) := hE k _ hk
  refine W.iast hx hb hc ((hK.1.2 0 _ rfl).1 n (fun j => .int (f j))) (fun q => by cases q) (by show ¬ (i < 0 ∨ (arrV _ _ _).slots.size ≤ _); rw [arrV_size]; exact hin) rfl rfl hdg fun H1 e z oq => ?_
  refine kk _ H1 _ rfl z (hE.set hk ?_ oq) (hS.put z oq hA)
  show H1[a + k]? = some (vp_cell _ _)
  rw [e, vp_cell_i, vp_cell_i, arrV_store]
  congr 2
  funext q
  by_cases hq : q = i.toNatClampNeg
  · subst hq
    simp [updV, upd]
  · simp [updV, upd, hq]
theorem c_len (C : CX p m meth c s args cc own nL) (hK : KK G s) (hE : cl_at G a es H) {n : Nat} {f : Nat → Int32} {v : Int32} (hk : es[k]? = some (.inl (G.2.1, n, .inl f))) (hv : Int32.ofNat n = v) (hdg : decode cc pc = .ok (.arraylength, 1))
    (kk : W p l e R s m args below meth c H locs cells slots Q (F0 m (pc + 1) ls (.int v :: rest))) : W p l e R s m args below meth c H locs cells slots Q (F0 m pc ls (.ref (a + k) :: rest)) := by
  obtain ⟨hx, hb, hml, hown, hts, -⟩ := C
  refine va_alen (ws := [(a + k, .inl (G.2.1, n, .inl f))]) hx hb hK.1 (fun j x hx => ?_) 0 0 (x := (n, .inl f)) rfl (ty := .int) rfl hv hdg kk
  cases j with
  | zero => cases hx; exact hE k _ hk
  | succ j => simp at hx
theorem c_aast (C : CX p m meth c s args cc own nL) (hK : KK G s) (hE : cl_at G a es H) (hS : va_S A H0 H locs) {n k2 : Nat} {f : Nat → Option Nat} {i : Int32} {fs : List Value} (hk : es[k]? = some (.inl (G.2.2, n, .inr (.inr (.inr (.inr f)))))) (hk2 : es[k2]? = some (.inr (1, fs))) (hin : vp_in i n) (hA : A (a + k)) (hdg : decode cc pc = .ok (.aastore, 1))
    (kk : ∀ (g : Nat → Option Nat) (H1 : Heap) (locs1 : List Loc), g = va_up f i.toNatClampNeg (some (a + k2)) → H1.size = H.size → cl_at G a (es.set k (.inl (G.2.2, n, .inr (.inr (.inr (.inr g)))))) H1 → va_S A H0 H1 locs1 → W p l e R s m args below meth c H1 locs1 cells slots Q (F0 m (pc + 1) ls rest)) : W p l e R s m args below meth c H locs cells slots Q (F0 m pc ls (.ref (a + k2) :: .int i :: .ref (a + k) :: rest)) := by
  obtain ⟨hx, hb, hml, hown, hts, -⟩ := C
  have hlt : i.toNatClampNeg < n := Nat.not_le.mp fun q => hin (Or.inr q)
  have h0 : ¬ i < 0 := fun q => hin (Or.inl q)
  have hc : H[a + k]? = some (vp_cell G.2.2 (n, .inr (.inr (.inr (.inr f))))) := hE k _ hk
  obtain ⟨r', hr', cellV, g1, g2, g3, -⟩ := hE k2 _ hk2
  have hcls := (hK.1.1 1 (RX1, TX1, 7) rfl).2
  obtain ⟨kA, comp, k1, k2', k3, -⟩ := (hK.1.2 1 (G.2.2, .object RX1) rfl).2
  have hcomp : comp = G.1.1 1 := Option.some.inj (k3.symm.trans hcls.1)
  subst hcomp
  obtain ⟨kC, hkC, -⟩ := hcls.2
  refine W.aast hx hb hc (fun q h => by cases h) (fun h => by cases h) k1 k2' rfl hkC ⟨h0, by show _ < (arrV _ _ _).slots.size; rw [arrV_size]; exact hlt⟩ g1 (fun q h => by rw [g3] at h; cases h) (by rw [g2]; exact hkC) (by rw [g2]; exact va_assign hcls) rfl rfl hdg fun H1 e z oq => ?_
  refine kk _ H1 _ rfl z (hE.set hk ?_ oq) (hS.put z oq hA)
  show H1[a + k]? = some (vp_cell _ _)
  rw [e, vp_cell_q, vp_cell_q, arrV_store]
  congr 2
  funext x
  by_cases hx : x = i.toNatClampNeg
  · subst hx
    simp [updV, va_up, va_rf]
  · simp [updV, va_up, hx]
theorem c_init (C : CX p m meth c s args cc own nL) (hK : KK G s) (hls : ls.size = nL) {y : MethodName} {bytes : ByteArray} {maxL index ci mc ms : Nat} {rm : Room} {fs : List Value} {es2 : List va_E} (hM : CtN l y bytes maxL rm (a + k) ci fs G es2 mc ms) (hw : MW y bytes maxL none 0) (hi : Cond.instanceMethod y ∈ BIG) (hy1 : y.name = "<init>") (hl : Cond.methodLink own index y ∈ BIG) (hrm : rm.cells = mc ∧ rm.slots = ms ∧ rm.frames + 1 ≤ R.frames ∧ 8 + (maxL + 11) + rm.locals ≤ R.locals) (hcs : cells + mc ≤ R.cells ∧ slots + ms ≤ R.slots) (hz : H.size = a + (k + 1)) (hE : cl_at G a (es ++ [.inr (ci, fs)]) H) (hk : es.length = k) (hS : va_S (fun q => a ≤ q) H0 H locs) (hrest : (rest.map fun v => v.category).sum ≤ 8) (hdg : decode cc pc = .ok (.invokespecial index, 3))
    (kk : ∀ (H1 : Heap) (locs1 : List Loc), H1.size = a + (k + es2.length) → cl_at G a (es ++ es2) H1 → va_S (fun q => a ≤ q) H0 H1 locs1 → W p l e R s m args below meth c H1 locs1 (cells + mc) (slots + ms) Q (F0 m (pc + 3) ls rest)) : W p l e R s m args below meth c H locs cells slots Q (F0 m pc ls (.ref (a + k) :: rest)) := by
  have C' := C
  obtain ⟨hx, hb, hml, hown, hts, -⟩ := C
  obtain ⟨h1, h2, h3⟩ := hw
  subst hk
  have hgood : GoodIn BIG (Cond.code y bytes maxL none :: BIG) := big_good (fun w hw => by rcases List.mem_cons.mp hw with rfl | h; exact h1; exact h)
  have hobj : va_at G.1 vwCl (a + es.length, .inr (ci, fs)) H := hE es.length _ (by rw [List.getElem?_append_right (Nat.le_refl _), Nat.sub_self]; rfl)
  refine va_callv (A1 := fun q => a + es.length ≤ q) (va_runI (nL := nL) (Ts := BIG) (As := []) (rest := rest) ⟨hx, hb, hml, hown, hts⟩ hM (cwI 0 hts hgood rfl hrm.1 hrm.2.1 (hts _ h2) (hts _ hl) (hts _ hi) hy1 h3 hrm.2.2) ⟨fun a U g mk q => ⟨q.1, q.2.1, q.2.2.calling⟩, fun U hU hW => ⟨rfl, ⟨by rw [hU, hz]; omega, by rw [hU]; exact hobj⟩, hK.warm hW⟩⟩ rfl rfl hls rfl (lv_room hrest) hdg hcs) hS (fun q _ h => by omega) (fun q h => by omega) (fun u t H1 locs1 ht hvm hq hB hz1 hk1 hS => ?_)
  obtain ⟨⟨hzz, hEE⟩, -⟩ := hB
  rw [ht] at hzz hEE
  exact kk H1 locs1 (by rw [hzz]; omega) (hE.left.app (fun q hq => hk1 q (by omega) (by omega)) hEE) hS
theorem c_ret {mc ms : Nat} (C : CX p m meth c s args cc own nL) (hr : meth.sig.returnType = none) (hK : KK G s) (hE : cl_at G a es H) (hz : H.size = a + es.length) (hS : va_S (fun q => a ≤ q) s.heap H locs) (hm : cells = mc) (hms : slots = ms) (hdg : decode cc pc = .ok (.return_, 1)) : W p l e R s m args below meth c H locs cells slots (MQ below (va_Qv (fun _ : Unit => True) (fun _ t => (t.heap.size = a + es.length ∧ cl_at G a es t.heap) ∧ KK G t) (fun q => a ≤ q)) args s mc ms (fun q => a ≤ q)) (F0 m pc ls []) := by
  subst hm; subst hms
  obtain ⟨hx, hb, hml, hown, hts, hlocks⟩ := C
  exact W.vret hx hb hr (fun t ht hW => ⟨⟨(), rfl, trivial, ⟨by rw [ht]; exact hz, by rw [ht]; exact hE⟩, hK.warm hW⟩, hS.F ht⟩) hS.2.2 hdg hlocks
end CT
