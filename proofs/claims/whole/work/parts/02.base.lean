/-! THE WORDS: one list for every method -/
def BIG : List Cond := lw_tbl.filter goodWord
theorem big_of {w : Cond} (h : w ∈ lw_tbl) (hg : goodWord w = true) : w ∈ BIG := List.mem_filter.mpr ⟨h, hg⟩
theorem big_1 {i : Nat} {w : Cond} (h : tables_1_1[i]? = some w) (hg : goodWord w = true) : w ∈ BIG := big_of (List.mem_append_right _ (List.mem_append_left _ (List.mem_of_getElem? h))) hg
theorem big_2 {i : Nat} {w : Cond} (h : tables_1_2[i]? = some w) (hg : goodWord w = true) : w ∈ BIG := big_of (List.mem_append_right _ (List.mem_append_right _ (List.mem_append_left _ (List.mem_of_getElem? h)))) hg
theorem big_3 {i : Nat} {w : Cond} (h : tables_1_3[i]? = some w) (hg : goodWord w = true) : w ∈ BIG := big_of (List.mem_append_right _ (List.mem_append_right _ (List.mem_append_right _ (List.mem_append_left _ (List.mem_of_getElem? h))))) hg
theorem big_4 {i : Nat} {w : Cond} (h : tables_1_4[i]? = some w) (hg : goodWord w = true) : w ∈ BIG := big_of (List.mem_append_right _ (List.mem_append_right _ (List.mem_append_right _ (List.mem_append_right _ (List.mem_append_left _ (List.mem_of_getElem? h)))))) hg
theorem big_5 {i : Nat} {w : Cond} (h : tables_1_5[i]? = some w) (hg : goodWord w = true) : w ∈ BIG := big_of (List.mem_append_right _ (List.mem_append_right _ (List.mem_append_right _ (List.mem_append_right _ (List.mem_append_right _ (List.mem_of_getElem? h)))))) hg
theorem big_p {i : Nat} {q : MethodName × Nat} (h : lw_privs[i]? = some q) : Cond.selects q.1.cls q.1 q.1 ∈ BIG := big_of (List.mem_append_left _ (List.mem_map.mpr ⟨q, List.mem_of_getElem? h, rfl⟩)) rfl
theorem big_good {ws : List Cond} (h : ∀ w ∈ ws, w ∈ BIG) : GoodIn BIG ws := fun w hw => ⟨h w hw, good_of_word (List.mem_filter.mp (h w hw)).2⟩
theorem big_big : ∀ w ∈ BIG, w ∈ BIG := fun _ h => h
/-! nest links -/
def nwl : List (String × Nat × MethodName × String) := [(RX0, 22, yX7_copyRow, RX7), (RX1, 118, yX7_playerWith, RX7), (RX1, 63, yX7_within, RX7), (RX1, 79, yX7_glassOf, RX7), (RX2, 37, yX7_copyRow, RX7), (RX2, 54, yX7_glassOf, RX7), (RX4, 60, yX7_within, RX7), (RX5, 25, yX7_copyRow, RX7), (RX5, 33, yX7_amountIn, RX7), (RX6, 31, yX7_copyRow, RX7), (RX6, 35, yX7_allAmountsIn, RX7)]
def NW (U : State) : Prop := (∀ q ∈ nwl, va_Nw (.methodLinkNest q.1 q.2.1 q.2.2.1 q.2.2.2) U) ∧ va_AO RX1 U
theorem NW.warm {s U : State} (hW : s.WarmedH U.vm) (h : NW s) : NW U := ⟨fun q hq => va_Nw.warmM hW (h.1 q hq), va_AO.moved hW.alike h.2⟩
theorem NW.same {u U : State} (hv : u.vm = U.vm) (h : NW u) : NW U := ⟨fun q hq => va_Nw.same rfl hv (h.1 q hq), va_AO.moved (by rw [hv]; exact Vm.Alike.refl _) h.2⟩
/-! the classes' facts that stay: G = (their numbers, int arrays' number, the number of arrays of Game) -/
abbrev GG : Type := va_G × ClassId × ClassId
def KK (G : GG) (U : State) : Prop := va_K G.1 vwCl [(G.2.1, .int), (G.2.2, .object RX1)] U ∧ NW U
theorem KK.warm {G : GG} {s U : State} (hW : s.WarmedH U.vm) (h : KK G s) : KK G U := ⟨va_K.moved hW.alike h.1, h.2.warm hW⟩
theorem KK.calling {G : GG} {U : State} {a : Array Value} {g : JFrame} {mk : MethodId} (h : KK G U) : KK G (U.calling g mk a) := ⟨va_K.moved (u := U) (U := U.calling g mk a) (Vm.Alike.refl U.vm) h.1, h.2.same rfl⟩
/-! REGIONS: cells side by side from an address on, of a fixed layout; what they hold of ints is a function -/
abbrev KD : Type := Nat ⊕ (Nat × List (Option Nat))
abbrev Mem : Type := Nat → Nat → Int32
def up (γ : Mem) (k f : Nat) (v : Int32) : Mem := fun k' => if k' = k then upd (γ k) f v else γ k'
theorem up_s (γ : Mem) (k f : Nat) (v : Int32) : up γ k f v k = upd (γ k) f v := if_pos rfl
theorem up_n (γ : Mem) {k j : Nat} (f : Nat) (v : Int32) (h : j ≠ k) : up γ k f v j = γ j := if_neg h
def rfs (a : Nat) (g : Nat → Int32) : Nat → List (Option Nat) → List Value
  | _, [] => []
  | i, none :: t => .int (g i) :: rfs a g (i + 1) t
  | i, some o :: t => .ref (a + o) :: rfs a g (i + 1) t
theorem rfs_len (a : Nat) (g : Nat → Int32) : ∀ (fs : List (Option Nat)) (i : Nat), (rfs a g i fs).length = fs.length
  | [], _ => rfl
  | none :: t, i => by simp [rfs, rfs_len a g t]
  | some o :: t, i => by simp [rfs, rfs_len a g t]
theorem rfs_int (a : Nat) (g : Nat → Int32) : ∀ (fs : List (Option Nat)) (i f : Nat), fs[f]? = some none → (rfs a g i fs)[f]? = some (.int (g (i + f)))
  | [], _, f, h => by simp at h
  | none :: t, i, 0, _ => by simp [rfs]
  | some o :: t, i, 0, h => by simp at h
  | none :: t, i, f + 1, h => by
    have := rfs_int a g t (i + 1) f (by simpa using h)
    rw [show i + (f + 1) = i + 1 + f by omega]
    simpa [rfs] using this
  | some o :: t, i, f + 1, h => by
    have := rfs_int a g t (i + 1) f (by simpa using h)
    rw [show i + (f + 1) = i + 1 + f by omega]
    simpa [rfs] using this
theorem rfs_ref (a : Nat) (g : Nat → Int32) : ∀ (fs : List (Option Nat)) (i f o : Nat), fs[f]? = some (some o) → (rfs a g i fs)[f]? = some (.ref (a + o))
  | [], _, f, o, h => by simp at h
  | none :: t, i, 0, o, h => by simp at h
  | some o' :: t, i, 0, o, h => by
    have : o' = o := by simpa using h
    subst this
    simp [rfs]
  | none :: t, i, f + 1, o, h => by
    have := rfs_ref a g t (i + 1) f o (by simpa using h)
    simpa [rfs] using this
  | some o' :: t, i, f + 1, o, h => by
    have := rfs_ref a g t (i + 1) f o (by simpa using h)
    simpa [rfs] using this
theorem rfs_cong (a : Nat) {g g' : Nat → Int32} : ∀ (fs : List (Option Nat)) (i : Nat), (∀ j, i ≤ j → g j = g' j) → rfs a g i fs = rfs a g' i fs
  | [], _, _ => rfl
  | none :: t, i, h => by simp [rfs, h i (Nat.le_refl _), rfs_cong a t (i + 1) (fun j hj => h j (by omega))]
  | some o :: t, i, h => by simp [rfs, rfs_cong a t (i + 1) (fun j hj => h j (by omega))]
theorem rfs_set (a : Nat) (g : Nat → Int32) (v : Int32) : ∀ (fs : List (Option Nat)) (i f : Nat), fs[f]? = some none → (rfs a g i fs).set f (.int v) = rfs a (upd g (i + f) v) i fs
  | [], _, f, h => by simp at h
  | none :: t, i, 0, _ => by
    simp only [rfs, List.set_cons_zero, Nat.add_zero]
    rw [show upd g i v i = v from pk_us, rfs_cong a t (i + 1) (fun j hj => (pk_un (f := g) (k := i) (x := v) (by omega)).symm)]
  | some o :: t, i, 0, h => by simp at h
  | none :: t, i, f + 1, h => by
    have e := rfs_set a g v t (i + 1) f (by simpa using h)
    simp only [rfs, List.set_cons_succ]
    rw [e, pk_un (by omega : i ≠ i + (f + 1)), show i + 1 + f = i + (f + 1) by omega]
  | some o :: t, i, f + 1, h => by
    have e := rfs_set a g v t (i + 1) f (by simpa using h)
    simp only [rfs, List.set_cons_succ]
    rw [e, show i + 1 + f = i + (f + 1) by omega]
def rcell (G : GG) (a : Nat) (g : Nat → Int32) : KD → va_E
  | .inl n => .inl (G.2.1, n, .inl g)
  | .inr (ci, fs) => .inr (ci, rfs a g 0 fs)
def rg (G : GG) (L : List KD) (a : Nat) (γ : Mem) (H : Heap) : Prop := ∀ (k : Nat) (kd : KD), L[k]? = some kd → va_at G.1 vwCl (a + k, rcell G a (γ k) kd) H
theorem rg.kept {G : GG} {L : List KD} {a : Nat} {γ : Mem} {H H1 : Heap} (h : rg G L a γ H) (hq : ∀ k, k < L.length → H1[a + k]? = H[a + k]?) : rg G L a γ H1 := fun k kd hk => (h k kd hk).kept (hq k (List.getElem?_eq_some_iff.mp hk).1)
theorem rg.lt {G : GG} {L : List KD} {a : Nat} {γ : Mem} {H : Heap} (h : rg G L a γ H) {k : Nat} (hk : k < L.length) : a + k < H.size := (h k L[k] (List.getElem?_eq_getElem hk)).lt
/-- behind a call that changes nothing of it -/
theorem rg.past {G : GG} {L : List KD} {a : Nat} {γ : Mem} {H H1 : Heap} {A : Nat → Prop} (h : rg G L a γ H) (hq : ∀ q, q < H.size → ¬ A q → H1[q]? = H[q]?) (hA : ∀ k, k < L.length → ¬ A (a + k)) : rg G L a γ H1 := h.kept fun k hk => hq _ (h.lt hk) (hA k hk)
def RA (a n : Nat) : Nat → Prop := fun q => a ≤ q ∧ q < a + n
theorem RA_in {a n k : Nat} (h : k < n) : RA a n (a + k) := ⟨Nat.le_add_right _ _, Nat.add_lt_add_left h _⟩
theorem rg.one {G : GG} {L : List KD} {a : Nat} {γ : Mem} {H : Heap} (h : rg G L a γ H) {k : Nat} {kd : KD} (hk : L[k]? = some kd) : va_P G.1 vwCl [(a + k, rcell G a (γ k) kd)] H := by
  intro i q hq
  cases i with
  | zero => cases hq; exact h k kd hk
  | succ i => simp at hq
/-! a class's field in the class files: link number 'index' in class 'own' is field f of class ci -/
def FL (own : String) (index ci f : Nat) : Prop := ∃ (C : String) (T : u_T) (N : Nat), vwCl[ci]? = some (C, T, N) ∧ (∀ w ∈ u_ws C T N, w ∈ BIG) ∧ f < N ∧ Cond.fieldLink own index C (T f).2.1 (T f).2.2.1 ∈ BIG ∧ (T f).1 = C
def FP (ci f : Nat) (ty : FieldType) : Prop := ∃ (C : String) (T : u_T) (N : Nat) (ty0 : Nat → FieldType), vwCl[ci]? = some (C, T, N) ∧ (∀ k, k < N → parseFieldDescriptor (T k).2.2.1 = some (ty0 k)) ∧ (∀ a, a < N → ∀ b, b < N → a ≠ b → (T a).2.1 ≠ (T b).2.1) ∧ f < N ∧ (T f).2.2.2 = false ∧ parseFieldDescriptor (T f).2.2.1 = some ty
/-! a method in the class files -/
def MW (y : MethodName) (bytes : ByteArray) (maxL : Nat) (ret : Option FieldType) (n : Nat) : Prop := Cond.code y bytes maxL ret ∈ BIG ∧ Cond.initialized y.cls ∈ BIG ∧ (y.cls ≠ "java/lang/invoke/MethodHandle" ∧ y.cls ≠ "java/lang/invoke/VarHandle" ∧ (parseMethodDescriptor y.desc).map (fun d => d.parameters.length) = some n)
/-- an instance method -/
def MI (y : MethodName) : Prop := Cond.instanceMethod y ∈ BIG ∧ Cond.selects y.cls y y ∈ BIG
def CX (p : Program) (m : MethodId) (meth : Method) (c : Code) (s : State) (args : Array Value) (cc : ByteArray) (own : String) (nL : Nat) : Prop := p.tables.exec = Jvm.exec ∧ c.code = cc ∧ c.maxLocals = nL ∧ s.vm.findClass own = some m.cls ∧ (∀ w ∈ BIG, w.before args s = true) ∧ meth.locks = false
/-! contracts: P what the heap holds at the start, P' at the end, A which old cells may change -/
def CtI (l : Launch) (y : MethodName) (bytes : ByteArray) (maxL : Nat) (ret : Option FieldType) (rm : Room) (av : List Value) (G : GG) {S : Type} (P : Heap → Prop) (post : Int32 → S → Prop) (P' : S → Heap → Prop) (A : Nat → Prop) : Prop :=
  Met l y (Cond.code y bytes maxL ret :: BIG) rm (va_Pc av (fun U => P U.heap ∧ KK G U)) (va_Qi post (fun u t => P' u t.heap ∧ KK G t) A) 0 0 A
def CtV (l : Launch) (y : MethodName) (bytes : ByteArray) (maxL : Nat) (rm : Room) (av : List Value) (G : GG) {S : Type} (P : Heap → Prop) (post : S → Prop) (P' : S → Heap → Prop) (A : Nat → Prop) : Prop :=
  Met l y (Cond.code y bytes maxL none :: BIG) rm (va_Pc av (fun U => P U.heap ∧ KK G U)) (va_Qv post (fun u t => P' u t.heap ∧ KK G t) A) 0 0 A
theorem met_start {l : Launch} {y : MethodName} {cc : ByteArray} {maxL : Nat} {ret : Option FieldType} {rm : Room} {av : List Value} {G : GG} {P : Heap → Prop} {Qc : Array Value → State → Outcome → State → Prop} {A : Nat → Prop} {own : String} (hy : plainName y.cls = true) (hown : y.cls = own) (hsl : (lg_sl av).length ≤ maxL)
    (body : ∀ (p : Program) (e : Env) (s : State) (m : MethodId) (below : List Frame) (meth : Method) (c : Code) (ls : Array Slot), CX p m meth c s av.toArray cc own maxL → meth.sig.returnType = ret → P s.heap → KK G s → lv_has ls maxL (lv_args 0 av) → W p l e rm s m av.toArray below meth c s.heap [] 0 0 (MQ below Qc av.toArray s 0 0 A) (F0 m 0 ls [])) :
    Met l y (Cond.code y cc maxL ret :: BIG) rm (va_Pc av (fun U => P U.heap ∧ KK G U)) Qc 0 0 A := by
  refine Met.ofW (cc := cc) (maxL := maxL) (ret := ret) hy rfl ?_
  intro p e s m args below meth c s₁ B hml hv
  obtain ⟨rfl, hP, hK⟩ := hv
  have hts := atoms_spec (ws := Cond.code y cc maxL ret :: BIG) B.pre
  have hl := lv_entry av (n := maxL) hsl
  rw [lg_entry_eq]
  subst hown
  exact body p e s m below meth c _ ⟨B.exec, B.bytes, hml, findClass_of_methodNamed B.named, fun w hw => hts w (List.mem_cons_of_mem _ hw), B.notSynchronized⟩ B.returns hP hK hl
section RG
variable {p : Program} {l : Launch} {e : Env} {R : Room} {s : State} {m : MethodId} {args : Array Value} {below : List Frame} {meth : Method} {c : Code} {H : Heap} {locs : List Loc} {cells slots : Nat} {Q : State → Prop}
variable {cc : ByteArray} {own : String} {nL pc : Nat} {ls : Array Slot} {rest : List Value} {G : GG} {A : Nat → Prop} {L : List KD} {a : Nat} {γ : Mem} {H0 : Heap}
theorem g_getI (C : CX p m meth c s args cc own nL) (hK : KK G s) (hG : rg G L a γ H) {index ci f k : Nat} {fs : List (Option Nat)} (hF : FL own index ci f) (hk : L[k]? = some (.inr (ci, fs))) (hf : fs[f]? = some none) (hdg : decode cc pc = .ok (.getfield index, 3))
    (kk : W p l e R s m args below meth c H locs cells slots Q (F0 m (pc + 3) ls (.int (γ k f) :: rest))) : W p l e R s m args below meth c H locs cells slots Q (F0 m pc ls (.ref (a + k) :: rest)) := by
  obtain ⟨hx, hb, hml, hown, hts, -⟩ := C
  obtain ⟨C0, T, N, hc, hin, hfN, hlink, hsame⟩ := hF
  refine va_get (ref := C0) (ws := [(a + k, rcell G a (γ k) (.inr (ci, fs)))]) hx hb hts hin hown hK.1 (hG.one hk) 0 rfl hc f hfN (hts _ hlink) (fun x h => by rw [hsame] at h; exact h) (v := .int (γ k f)) ?_ hdg kk
  have := rfs_int a (γ k) fs 0 f hf
  rwa [Nat.zero_add] at this
theorem g_getR (C : CX p m meth c s args cc own nL) (hK : KK G s) (hG : rg G L a γ H) {index ci f k o : Nat} {fs : List (Option Nat)} (hF : FL own index ci f) (hk : L[k]? = some (.inr (ci, fs))) (hf : fs[f]? = some (some o)) (hdg : decode cc pc = .ok (.getfield index, 3))
    (kk : W p l e R s m args below meth c H locs cells slots Q (F0 m (pc + 3) ls (.ref (a + o) :: rest))) : W p l e R s m args below meth c H locs cells slots Q (F0 m pc ls (.ref (a + k) :: rest)) := by
  obtain ⟨hx, hb, hml, hown, hts, -⟩ := C
  obtain ⟨C0, T, N, hc, hin, hfN, hlink, hsame⟩ := hF
  exact va_get (ref := C0) (ws := [(a + k, rcell G a (γ k) (.inr (ci, fs)))]) hx hb hts hin hown hK.1 (hG.one hk) 0 rfl hc f hfN (hts _ hlink) (fun x h => by rw [hsame] at h; exact h) (v := .ref (a + o)) (rfs_ref a (γ k) fs 0 f o hf) hdg kk
theorem rg.put {k f : Nat} {fs : List (Option Nat)} {ci : Nat} {v : Int32} {H1 : Heap} (hG : rg G L a γ H) (hk : L[k]? = some (.inr (ci, fs))) (hf : fs[f]? = some none) (he : va_at G.1 vwCl (a + k, .inr (ci, (rfs a (γ k) 0 fs).set f (.int v))) H1) (oq : ∀ q, q ≠ a + k → H1[q]? = H[q]?) : rg G L a (up γ k f v) H1 := by
  intro j kd hj
  by_cases hjk : j = k
  · subst hjk
    rw [hk] at hj
    cases hj
    rw [up_s]
    rw [rfs_set a (γ j) v fs 0 f hf, Nat.zero_add] at he
    exact he
  · rw [up_n γ f v hjk]
    exact (hG j kd hj).kept (oq _ (fun q => hjk (Nat.add_left_cancel q)))
theorem g_put (C : CX p m meth c s args cc own nL) (hK : KK G s) (hG : rg G L a γ H) (hS : va_S A H0 H locs) {index ci f k : Nat} {fs : List (Option Nat)} {ty : FieldType} {v : Int32} (hF : FL own index ci f) (hFP : FP ci f ty) (hk : L[k]? = some (.inr (ci, fs))) (hf : fs[f]? = some none) (hn : narrow ty (.int v) = .int v) (hfit : fits ty (.int v) = true) (hA : A (a + k)) (hdg : decode cc pc = .ok (.putfield index, 3))
    (kk : ∀ (γ1 : Mem) (H1 : Heap) (locs1 : List Loc), γ1 = up γ k f v → rg G L a γ1 H1 → va_S A H0 H1 locs1 → (∀ q, q ≠ a + k → H1[q]? = H[q]?) → W p l e R s m args below meth c H1 locs1 cells slots Q (F0 m (pc + 3) ls rest)) : W p l e R s m args below meth c H locs cells slots Q (F0 m pc ls (.int v :: .ref (a + k) :: rest)) := by
  obtain ⟨hx, hb, hml, hown, hts, -⟩ := C
  obtain ⟨C0, T, N, hc, hin, hfN, hlink, hsame⟩ := hF
  obtain ⟨C1, T1, N1, ty0, hc1, hty, hnm, -, hfin, hd⟩ := hFP
  cases hc.symm.trans hc1
  have hap := va_apart (own := own) hts hin ty0 hty hnm hK.1 hc
  obtain ⟨r, h1, cell, q1, q2, q3, q4⟩ := hG k _ hk
  cases h1.symm.trans hc
  obtain ⟨hSl, hfc, kC, hkC, hkind⟩ := hK.1.1 ci _ hc
  obtain ⟨cf, kf, fi, fd, hi, hsl⟩ := hSl f hfN
  have hlay := hts _ (hin _ (u_in_lay hfN))
  unfold u_lay at hlay
  rw [if_neg (by rw [hfin]; decide)] at hlay
  have hst := (u_facts hfc hkC (u_lays hts hin hfN) hi).1
  have h6 := u_store hfc hkC hkind hlay hi hd hn hfit
  have hi' := hi
  rw [hsame] at hi'
  refine W.putK hx hb (f := fd) ⟨hown, hts _ hlink, ⟨_, _, _, hi'⟩, hst⟩ (by rw [q2]; exact h6) q1 q3 (by rw [hsl]; exact k2_hasslot (q4 f hfN)) rfl rfl hdg fun H' e1 e2 e3 => ?_
  rw [hsl] at e1 ⊢
  have hl : f < (rfs a (γ k) 0 fs).length := by rw [rfs_len]; exact (List.getElem?_eq_some_iff.mp hf).1
  exact kk _ H' _ rfl (hG.put hk hf ⟨_, hc, t_OB.to (V := updV (vp_V (rfs a (γ k) 0 fs)) f (.int v)) ⟨_, e1, q2, q3, t_set q4 hap hfN (.int v)⟩ (fun j _ => vp_updV_set hl (.int v) j)⟩ e3) (hS.put e2 e3 hA) e3
theorem g_ald (C : CX p m meth c s args cc own nL) (hK : KK G s) (hG : rg G L a γ H) {k n : Nat} {i : Int32} (hk : L[k]? = some (.inl n)) (hin : vp_in i n) (hdg : decode cc pc = .ok (.iaload, 1))
    (kk : W p l e R s m args below meth c H locs cells slots Q (F0 m (pc + 1) ls (.int (γ k i.toNatClampNeg) :: rest))) : W p l e R s m args below meth c H locs cells slots Q (F0 m pc ls (.int i :: .ref (a + k) :: rest)) := by
  obtain ⟨hx, hb, hml, hown, hts, -⟩ := C
  exact va_iald hx hb hK.1 (hG.one hk) 0 0 rfl rfl hin hdg kk
theorem g_len (C : CX p m meth c s args cc own nL) (hK : KK G s) (hG : rg G L a γ H) {k n : Nat} {v : Int32} (hk : L[k]? = some (.inl n)) (hv : Int32.ofNat n = v) (hdg : decode cc pc = .ok (.arraylength, 1))
    (kk : W p l e R s m args below meth c H locs cells slots Q (F0 m (pc + 1) ls (.int v :: rest))) : W p l e R s m args below meth c H locs cells slots Q (F0 m pc ls (.ref (a + k) :: rest)) := by
  obtain ⟨hx, hb, hml, hown, hts, -⟩ := C
  exact va_alen hx hb hK.1 (hG.one hk) 0 0 (x := (n, .inl (γ k))) rfl (ty := .int) rfl hv hdg kk
theorem rg.ast {k n i : Nat} {v : Int32} {H1 : Heap} (hG : rg G L a γ H) (hk : L[k]? = some (.inl n)) (he : H1[a + k]? = some (vp_cell G.2.1 (n, .inl (upd (γ k) i v)))) (oq : ∀ q, q ≠ a + k → H1[q]? = H[q]?) : rg G L a (up γ k i v) H1 := by
  intro j kd hj
  by_cases hjk : j = k
  · subst hjk
    rw [hk] at hj
    cases hj
    rw [up_s]
    exact he
  · rw [up_n γ i v hjk]
    exact (hG j kd hj).kept (oq _ (fun q => hjk (Nat.add_left_cancel q)))
theorem g_ast (C : CX p m meth c s args cc own nL) (hK : KK G s) (hG : rg G L a γ H) (hS : va_S A H0 H locs) {k n : Nat} {i v : Int32} (hk : L[k]? = some (.inl n)) (hin : vp_in i n) (hA : A (a + k)) (hdg : decode cc pc = .ok (.iastore, 1))
    (kk : ∀ (γ1 : Mem) (H1 : Heap) (locs1 : List Loc), γ1 = up γ k i.toNatClampNeg v → rg G L a γ1 H1 → va_S A H0 H1 locs1 → (∀ q, q ≠ a + k → H1[q]? = H[q]?) → W p l e R s m args below meth c H1 locs1 cells slots Q (F0 m (pc + 1) ls rest)) : W p l e R s m args below meth c H locs cells slots Q (F0 m pc ls (.int v :: .int i :: .ref (a + k) :: rest)) := by
  obtain ⟨hx, hb, hml, hown, hts, -⟩ := C
  have hc : H[a + k]? = some (vp_cell G.2.1 (n, .inl (γ k))) := hG k _ hk
  refine W.iast hx hb hc ((hK.1.2 0 _ rfl).1 n (fun j => .int (γ k j))) (fun q => by cases q) (by show ¬ (i < 0 ∨ (arrV _ _ _).slots.size ≤ _); rw [arrV_size]; exact hin) rfl rfl hdg fun H1 e z oq => ?_
  refine kk _ H1 _ rfl (hG.ast hk ?_ oq) (hS.put z oq hA) oq
  rw [e, vp_cell_i, vp_cell_i, arrV_store]
  congr 2
  funext q
  by_cases hq : q = i.toNatClampNeg
  · subst hq
    simp [updV, upd]
  · simp [updV, upd, hq]
theorem g_recv {k ci : Nat} {fs : List (Option Nat)} {C' : String} {T : u_T} {N : Nat} (hK : KK G s) (hG : rg G L a γ H) (hk : L[k]? = some (.inr (ci, fs))) (hc : vwCl[ci]? = some (C', T, N)) : ∃ cell : Cell, H[a + k]? = some cell ∧ cell.vm.isStatics = false ∧ s.vm.findClass C' = some cell.cls :=
  va_recv (ws := [(a + k, rcell G a (γ k) (.inr (ci, fs)))]) (q := (C', T, N)) hK.1 (hG.one hk) hc (q0 := 0) rfl
/-! calls -/
theorem g_cw {y : MethodName} {bytes : ByteArray} {maxL n index : Nat} {ret : Option FieldType} {rm : Room} (C : CX p m meth c s args cc own nL) (hw : MW y bytes maxL ret n) (hl : (Cond.methodLink own index y) ∈ BIG) (hrm : rm.cells = 0 ∧ rm.slots = 0 ∧ rm.frames + 1 ≤ R.frames ∧ 8 + (maxL + 11) + rm.locals ≤ R.locals) : CallB R s args own index y bytes maxL ret (Cond.code y bytes maxL ret :: BIG) rm 0 0 n := by
  obtain ⟨hx, hb, hml, hown, hts, -⟩ := C
  obtain ⟨h1, h2, h3⟩ := hw
  exact callB_of n hts (big_good (fun w hw => by rcases List.mem_cons.mp hw with rfl | h; exact h1; exact h)) rfl hrm.1 hrm.2.1 (hts _ h2) (hts _ hl) h3 hrm.2.2
theorem g_cn {y : MethodName} {bytes : ByteArray} {maxL n index : Nat} {ret : Option FieldType} {rm : Room} {host : String} (C : CX p m meth c s args cc own nL) (hK : KK G s) (hw : MW y bytes maxL ret n) (hl : (own, index, y, host) ∈ nwl) (hrm : rm.cells = 0 ∧ rm.slots = 0 ∧ rm.frames + 1 ≤ R.frames ∧ 8 + (maxL + 11) + rm.locals ≤ R.locals) : va_CN R s args own index y host bytes maxL ret (Cond.code y bytes maxL ret :: BIG) rm 0 0 n := by
  obtain ⟨hx, hb, hml, hown, hts, -⟩ := C
  obtain ⟨h1, h2, h3⟩ := hw
  exact va_cnB n hts (big_good (fun w hw => by rcases List.mem_cons.mp hw with rfl | h; exact h1; exact h)) rfl hrm.1 hrm.2.1 (hK.2.1 _ hl) (hts _ h2) h3 hrm.2.2
theorem g_blind {G : GG} {P : Heap → Prop} {av : List Value} : FrameBlind (va_Pc av (fun U => P U.heap ∧ KK G U)) := fun a U g mk q => ⟨q.1, q.2.1, q.2.2.calling⟩
theorem g_pre {P : Heap → Prop} {av : List Value} (hK : KK G s) (hP : P H) : ∀ U : State, U.heap = H → s.WarmedH U.vm → va_Pc av (fun U => P U.heap ∧ KK G U) av.toArray U := fun U hU hW => ⟨rfl, by rw [hU]; exact hP, hK.warm hW⟩
section CALLS
variable {y : MethodName} {bytes : ByteArray} {maxL n index : Nat} {ret : Option FieldType} {rm : Room} {S : Type} {P : Heap → Prop} {P' : S → Heap → Prop} {A1 : Nat → Prop} {b : Addr} {As : List Value} {stk : List Value}
/-- invokevirtual of a method that answers an int -/
theorem g_vI {post : Int32 → S → Prop} (C : CX p m meth c s args cc own nL) (hK : KK G s) (hls : ls.size = nL) (hM : CtI l y bytes maxL ret rm (.ref b :: As) G P post P' A1) (hw : MW y bytes maxL ret n) (hi : MI y) (hl : (Cond.methodLink own index y) ∈ BIG) (hn : As.length = n) (hrm : rm.cells = 0 ∧ rm.slots = 0 ∧ rm.frames + 1 ≤ R.frames ∧ 8 + (maxL + 11) + rm.locals ≤ R.locals) (hcs : cells ≤ R.cells ∧ slots ≤ R.slots) (hrecv : ∃ cell : Cell, H[b]? = some cell ∧ cell.vm.isStatics = false ∧ s.vm.findClass y.cls = some cell.cls) (hP : P H) (hS : va_S A H0 H locs) (hA : ∀ q, A1 q → A q) (hst : stk = As.reverse ++ .ref b :: rest) (hrest : (rest.map fun v => v.category).sum ≤ 8) (hdg : decode cc pc = .ok (.invokevirtual index, 3))
    (kk : ∀ (r : Int32) (u : S) (H1 : Heap) (locs1 : List Loc), post r u → P' u H1 → H.size ≤ H1.size → (∀ q, q < H.size → ¬ A1 q → H1[q]? = H[q]?) → va_S A H0 H1 locs1 → W p l e R s m args below meth c H1 locs1 cells slots Q (F0 m (pc + 3) ls (.int r :: rest))) : W p l e R s m args below meth c H locs cells slots Q (F0 m pc ls stk) := by
  have C' := C
  obtain ⟨hx, hb, hml, hown, hts, -⟩ := C
  exact va_calli (va_runV (nL := nL) (Ts := BIG) (C := y.cls) (As := As) (rest := rest) ⟨hx, hb, hml, hown, hts⟩ hM ⟨g_cw C' hw hl hrm, hts _ hi.1, hts _ hi.2⟩ ⟨g_blind, hrecv, g_pre hK hP⟩ rfl hn hls hst (lv_room hrest) hdg hcs) hS (fun q _ h => hA q h) hA (fun r u t H1 locs1 ht hvm hq hB hz hk hS => kk r u H1 locs1 hq (by rw [← ht]; exact hB.1) hz hk hS)
theorem g_vV {post : S → Prop} (C : CX p m meth c s args cc own nL) (hK : KK G s) (hls : ls.size = nL) (hM : CtV l y bytes maxL rm (.ref b :: As) G P post P' A1) (hw : MW y bytes maxL none n) (hi : MI y) (hl : (Cond.methodLink own index y) ∈ BIG) (hn : As.length = n) (hrm : rm.cells = 0 ∧ rm.slots = 0 ∧ rm.frames + 1 ≤ R.frames ∧ 8 + (maxL + 11) + rm.locals ≤ R.locals) (hcs : cells ≤ R.cells ∧ slots ≤ R.slots) (hrecv : ∃ cell : Cell, H[b]? = some cell ∧ cell.vm.isStatics = false ∧ s.vm.findClass y.cls = some cell.cls) (hP : P H) (hS : va_S A H0 H locs) (hA : ∀ q, A1 q → A q) (hst : stk = As.reverse ++ .ref b :: rest) (hrest : (rest.map fun v => v.category).sum ≤ 8) (hdg : decode cc pc = .ok (.invokevirtual index, 3))
    (kk : ∀ (u : S) (H1 : Heap) (locs1 : List Loc), post u → P' u H1 → H.size ≤ H1.size → (∀ q, q < H.size → ¬ A1 q → H1[q]? = H[q]?) → va_S A H0 H1 locs1 → W p l e R s m args below meth c H1 locs1 cells slots Q (F0 m (pc + 3) ls rest)) : W p l e R s m args below meth c H locs cells slots Q (F0 m pc ls stk) := by
  have C' := C
  obtain ⟨hx, hb, hml, hown, hts, -⟩ := C
  exact va_callv (va_runV (nL := nL) (Ts := BIG) (C := y.cls) (As := As) (rest := rest) ⟨hx, hb, hml, hown, hts⟩ hM ⟨g_cw C' hw hl hrm, hts _ hi.1, hts _ hi.2⟩ ⟨g_blind, hrecv, g_pre hK hP⟩ rfl hn hls hst (lv_room hrest) hdg hcs) hS (fun q _ h => hA q h) hA (fun u t H1 locs1 ht hvm hq hB hz hk hS => kk u H1 locs1 hq (by rw [← ht]; exact hB.1) hz hk hS)
theorem g_sI {post : Int32 → S → Prop} (C : CX p m meth c s args cc own nL) (hK : KK G s) (hls : ls.size = nL) (hM : CtI l y bytes maxL ret rm As G P post P' A1) (hw : MW y bytes maxL ret n) (hi : Cond.static y ∈ BIG) (hl : (Cond.methodLink own index y) ∈ BIG) (hn : As.length = n) (hrm : rm.cells = 0 ∧ rm.slots = 0 ∧ rm.frames + 1 ≤ R.frames ∧ 8 + (maxL + 11) + rm.locals ≤ R.locals) (hcs : cells ≤ R.cells ∧ slots ≤ R.slots) (hP : P H) (hS : va_S A H0 H locs) (hA : ∀ q, A1 q → A q) (hst : stk = As.reverse ++ rest) (hrest : (rest.map fun v => v.category).sum ≤ 8) (hdg : decode cc pc = .ok (.invokestatic index, 3))
    (kk : ∀ (r : Int32) (u : S) (H1 : Heap) (locs1 : List Loc), post r u → P' u H1 → H.size ≤ H1.size → (∀ q, q < H.size → ¬ A1 q → H1[q]? = H[q]?) → va_S A H0 H1 locs1 → W p l e R s m args below meth c H1 locs1 cells slots Q (F0 m (pc + 3) ls (.int r :: rest))) : W p l e R s m args below meth c H locs cells slots Q (F0 m pc ls stk) := by
  have C' := C
  obtain ⟨hx, hb, hml, hown, hts, -⟩ := C
  exact va_calli (va_runS (nL := nL) (Ts := BIG) (As := As) (rest := rest) ⟨hx, hb, hml, hown, hts⟩ hM ⟨g_cw C' hw hl hrm, hts _ hi⟩ ⟨g_blind, g_pre hK hP⟩ rfl hn hls hst (lv_room hrest) hdg hcs) hS (fun q _ h => hA q h) hA (fun r u t H1 locs1 ht hvm hq hB hz hk hS => kk r u H1 locs1 hq (by rw [← ht]; exact hB.1) hz hk hS)
theorem g_sV {post : S → Prop} (C : CX p m meth c s args cc own nL) (hK : KK G s) (hls : ls.size = nL) (hM : CtV l y bytes maxL rm As G P post P' A1) (hw : MW y bytes maxL none n) (hi : Cond.static y ∈ BIG) (hl : (Cond.methodLink own index y) ∈ BIG) (hn : As.length = n) (hrm : rm.cells = 0 ∧ rm.slots = 0 ∧ rm.frames + 1 ≤ R.frames ∧ 8 + (maxL + 11) + rm.locals ≤ R.locals) (hcs : cells ≤ R.cells ∧ slots ≤ R.slots) (hP : P H) (hS : va_S A H0 H locs) (hA : ∀ q, A1 q → A q) (hst : stk = As.reverse ++ rest) (hrest : (rest.map fun v => v.category).sum ≤ 8) (hdg : decode cc pc = .ok (.invokestatic index, 3))
    (kk : ∀ (u : S) (H1 : Heap) (locs1 : List Loc), post u → P' u H1 → H.size ≤ H1.size → (∀ q, q < H.size → ¬ A1 q → H1[q]? = H[q]?) → va_S A H0 H1 locs1 → W p l e R s m args below meth c H1 locs1 cells slots Q (F0 m (pc + 3) ls rest)) : W p l e R s m args below meth c H locs cells slots Q (F0 m pc ls stk) := by
  have C' := C
  obtain ⟨hx, hb, hml, hown, hts, -⟩ := C
  exact va_callv (va_runS (nL := nL) (Ts := BIG) (As := As) (rest := rest) ⟨hx, hb, hml, hown, hts⟩ hM ⟨g_cw C' hw hl hrm, hts _ hi⟩ ⟨g_blind, g_pre hK hP⟩ rfl hn hls hst (lv_room hrest) hdg hcs) hS (fun q _ h => hA q h) hA (fun u t H1 locs1 ht hvm hq hB hz hk hS => kk u H1 locs1 hq (by rw [← ht]; exact hB.1) hz hk hS)
theorem g_nI {post : Int32 → S → Prop} {host : String} (C : CX p m meth c s args cc own nL) (hK : KK G s) (hls : ls.size = nL) (hM : CtI l y bytes maxL ret rm As G P post P' A1) (hw : MW y bytes maxL ret n) (hi : Cond.static y ∈ BIG) (hl : (own, index, y, host) ∈ nwl) (hn : As.length = n) (hrm : rm.cells = 0 ∧ rm.slots = 0 ∧ rm.frames + 1 ≤ R.frames ∧ 8 + (maxL + 11) + rm.locals ≤ R.locals) (hcs : cells ≤ R.cells ∧ slots ≤ R.slots) (hP : P H) (hS : va_S A H0 H locs) (hA : ∀ q, A1 q → A q) (hst : stk = As.reverse ++ rest) (hrest : (rest.map fun v => v.category).sum ≤ 8) (hdg : decode cc pc = .ok (.invokestatic index, 3))
    (kk : ∀ (r : Int32) (u : S) (H1 : Heap) (locs1 : List Loc), post r u → P' u H1 → H.size ≤ H1.size → (∀ q, q < H.size → ¬ A1 q → H1[q]? = H[q]?) → va_S A H0 H1 locs1 → W p l e R s m args below meth c H1 locs1 cells slots Q (F0 m (pc + 3) ls (.int r :: rest))) : W p l e R s m args below meth c H locs cells slots Q (F0 m pc ls stk) := by
  have C' := C
  obtain ⟨hx, hb, hml, hown, hts, -⟩ := C
  exact va_calli (va_runSN (nL := nL) (Ts := BIG) (As := As) (rest := rest) ⟨hx, hb, hml, hown, hts⟩ hM ⟨g_cn C' hK hw hl hrm, hts _ hi, trivial⟩ ⟨g_blind, g_pre hK hP⟩ rfl hn hls hst (lv_room hrest) hdg hcs) hS (fun q _ h => hA q h) hA (fun r u t H1 locs1 ht hvm hq hB hz hk hS => kk r u H1 locs1 hq (by rw [← ht]; exact hB.1) hz hk hS)
theorem g_nV {post : S → Prop} {host : String} (C : CX p m meth c s args cc own nL) (hK : KK G s) (hls : ls.size = nL) (hM : CtV l y bytes maxL rm As G P post P' A1) (hw : MW y bytes maxL none n) (hi : Cond.static y ∈ BIG) (hl : (own, index, y, host) ∈ nwl) (hn : As.length = n) (hrm : rm.cells = 0 ∧ rm.slots = 0 ∧ rm.frames + 1 ≤ R.frames ∧ 8 + (maxL + 11) + rm.locals ≤ R.locals) (hcs : cells ≤ R.cells ∧ slots ≤ R.slots) (hP : P H) (hS : va_S A H0 H locs) (hA : ∀ q, A1 q → A q) (hst : stk = As.reverse ++ rest) (hrest : (rest.map fun v => v.category).sum ≤ 8) (hdg : decode cc pc = .ok (.invokestatic index, 3))
    (kk : ∀ (u : S) (H1 : Heap) (locs1 : List Loc), post u → P' u H1 → H.size ≤ H1.size → (∀ q, q < H.size → ¬ A1 q → H1[q]? = H[q]?) → va_S A H0 H1 locs1 → W p l e R s m args below meth c H1 locs1 cells slots Q (F0 m (pc + 3) ls rest)) : W p l e R s m args below meth c H locs cells slots Q (F0 m pc ls stk) := by
  have C' := C
  obtain ⟨hx, hb, hml, hown, hts, -⟩ := C
  exact va_callv (va_runSN (nL := nL) (Ts := BIG) (As := As) (rest := rest) ⟨hx, hb, hml, hown, hts⟩ hM ⟨g_cn C' hK hw hl hrm, hts _ hi, trivial⟩ ⟨g_blind, g_pre hK hP⟩ rfl hn hls hst (lv_room hrest) hdg hcs) hS (fun q _ h => hA q h) hA (fun u t H1 locs1 ht hvm hq hB hz hk hS => kk u H1 locs1 hq (by rw [← ht]; exact hB.1) hz hk hS)
end CALLS
/-! ends -/
theorem g_iret {S : Type} {post : Int32 → S → Prop} {P' : S → Heap → Prop} {r : Int32} {u : S} (C : CX p m meth c s args cc own nL) (hr : meth.sig.returnType = some .int) (hK : KK G s) (hS : va_S A s.heap H locs) (hq : post r u) (hP : P' u H) (hdg : decode cc pc = .ok (.ireturn, 1)) : W p l e R s m args below meth c H locs cells slots (MQ below (va_Qi post (fun u t => P' u t.heap ∧ KK G t) A) args s cells slots A) (F0 m pc ls [.int r]) := by
  obtain ⟨hx, hb, hml, hown, hts, hlocks⟩ := C
  exact W.iret hx hb hr (fun t ht hW => ⟨⟨r, u, rfl, hq, by rw [ht]; exact hP, hK.warm hW⟩, hS.F ht⟩) hS.2.2 hdg hlocks
theorem g_zret {S : Type} {post : Int32 → S → Prop} {P' : S → Heap → Prop} {r : Int32} {u : S} (C : CX p m meth c s args cc own nL) (hr : meth.sig.returnType = some .boolean) (hK : KK G s) (hS : va_S A s.heap H locs) (hn : narrow .boolean (.int r) = .int r) (hq : post r u) (hP : P' u H) (hdg : decode cc pc = .ok (.ireturn, 1)) : W p l e R s m args below meth c H locs cells slots (MQ below (va_Qi post (fun u t => P' u t.heap ∧ KK G t) A) args s cells slots A) (F0 m pc ls [.int r]) := by
  obtain ⟨hx, hb, hml, hown, hts, hlocks⟩ := C
  exact W.zret hx hb hr hn (fun t ht hW => ⟨⟨r, u, rfl, hq, by rw [ht]; exact hP, hK.warm hW⟩, hS.F ht⟩) hS.2.2 hdg hlocks
theorem g_vret {S : Type} {post : S → Prop} {P' : S → Heap → Prop} {u : S} (C : CX p m meth c s args cc own nL) (hr : meth.sig.returnType = none) (hK : KK G s) (hS : va_S A s.heap H locs) (hq : post u) (hP : P' u H) (hdg : decode cc pc = .ok (.return_, 1)) : W p l e R s m args below meth c H locs cells slots (MQ below (va_Qv post (fun u t => P' u t.heap ∧ KK G t) A) args s cells slots A) (F0 m pc ls []) := by
  obtain ⟨hx, hb, hml, hown, hts, hlocks⟩ := C
  exact W.vret hx hb hr (fun t ht hW => ⟨⟨u, rfl, hq, by rw [ht]; exact hP, hK.warm hW⟩, hS.F ht⟩) hS.2.2 hdg hlocks
theorem g_ldc (C : CX p m meth c s args cc own nL) {index : Nat} {v : Int32} (hw : Cond.constant own index v ∈ BIG) (hdg : decode cc pc = .ok (.ldc index, 2)) (k : W p l e R s m args below meth c H locs cells slots Q (F0 m (pc + 2) ls (.int v :: rest))) : W p l e R s m args below meth c H locs cells slots Q (F0 m pc ls rest) := by
  obtain ⟨hx, hb, hml, hown, hts, -⟩ := C
  exact lv_ldc hx hb hown (hts _ hw) hdg k
theorem g_ldcw (C : CX p m meth c s args cc own nL) {index : Nat} {v : Int32} (hw : Cond.constant own index v ∈ BIG) (hdg : decode cc pc = .ok (.ldc_w index, 3)) (k : W p l e R s m args below meth c H locs cells slots Q (F0 m (pc + 3) ls (.int v :: rest))) : W p l e R s m args below meth c H locs cells slots Q (F0 m pc ls rest) := by
  obtain ⟨hx, hb, hml, hown, hts, -⟩ := C
  exact lv_ldcw hx hb hown (hts _ hw) hdg k
end RG
theorem vp_dec {i : Int32} {n : Nat} (h : ¬ (i < 0 ∨ n ≤ i.toNatClampNeg)) : vp_in i n := h
