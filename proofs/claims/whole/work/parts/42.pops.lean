/-! the class's moves, as functions -/
abbrev isP (g : Mem) (x : Int32) : Prop := rng x (g 1 0)
abbrev isW (g : Mem) (x y : Int32) : Prop := rng x (g 1 0) ∧ 0 ≤ y ∧ y ≤ 2
theorem e_win (Q : Int32 → Prop) (x a b : Int32) : vc_X7_within Q x a b ↔ Q (if a ≤ x ∧ x ≤ b then 1 else 0) := by
  rw [e_within]
  by_cases h1 : x < a
  · rw [if_pos h1, if_neg (by grind)]
  · by_cases h2 : b < x
    · rw [if_neg h1, if_pos h2, if_neg (by grind)]
    · rw [if_neg h1, if_neg h2, if_pos (by grind)]
theorem if_01 {p : Prop} [Decidable p] {A B : Prop} (h : if p then A else B) : ((if p then (1 : Int32) else 0) = 0 → B) ∧ (¬ (if p then (1 : Int32) else 0) = 0 → A) := by
  by_cases c : p
  · rw [if_pos c] at h ⊢
    exact ⟨fun q => absurd q (by decide), fun _ => h⟩
  · rw [if_neg c] at h ⊢
    exact ⟨fun _ => h, fun q => absurd rfl q⟩
theorem if_10 {p : Prop} [Decidable p] {A B : Prop} (h : if p then A else B) : (¬ (if p then (1 : Int32) else 0) = 0 → A) ∧ ((if p then (1 : Int32) else 0) = 0 → B) := ⟨(if_01 h).2, (if_01 h).1⟩
theorem s_hasW {Q : Int32 → Prop} {g : Mem} {x y : Int32} (hp : PT g) (h : Q (if isW g x y then 1 else 0)) : vc_X1_hasWorker Q g x y := by
  refine s_hasPlayer hp ?_
  by_cases c : rng x (g 1 0)
  · rw [if_pos c]
    refine ⟨fun q => absurd q (by decide), fun _ => ?_⟩
    rw [e_win]
    by_cases c2 : 0 ≤ y ∧ y ≤ 2
    · rw [if_pos ⟨c, c2⟩] at h
      rw [if_pos c2]
      exact ⟨fun q => absurd q (by decide), fun _ => h⟩
    · rw [if_neg (fun q => c2 q.2)] at h
      rw [if_neg c2]
      exact ⟨fun _ => h, fun q => absurd rfl q⟩
  · rw [if_neg (fun q => c q.1)] at h
    rw [if_neg c]
    exact ⟨fun _ => h, fun q => absurd rfl q⟩
/-- an answer with the game after it -/
abbrev Rs := Int32 × Mem
def o_player (g : Mem) : Rs := if g 1 0 < 4 then (g 1 0, up g 1 0 (g 1 0 + 1)) else (-1000003, g)
theorem s_player {Q : Int32 → Mem → Prop} {g : Mem} (h : Q (o_player g).1 (o_player g).2) : vc_X1_addPlayer Q g := by
  unfold o_player at h
  by_cases c : g 1 0 < 4
  · rw [if_pos c] at h; exact br_t c (nm_e (nm_e h))
  · rw [if_neg c] at h; exact br_f c h
/-- the glass that is told by two ints -/
def gl (x y : Int32) : Nat := (3 * x + y).toNatClampNeg
theorem s_gl {Q : Int32 → Prop} {x y : Int32} (h : Q (3 * x + y)) : vc_X7_glassOf Q x y := h
theorem gl_spec {P : Nat} {g : Mem} {x y : Int32} (hP : P ≤ 4) (e : g 1 0 = nI P) (h : isW g x y) : ∃ p k, p < P ∧ k < 3 ∧ x = nI p ∧ y = nI k ∧ 3 * x + y = nI (3 * p + k) ∧ gl x y = 3 * p + k := by
  obtain ⟨h1, h2, h3⟩ := h
  rw [e] at h1
  obtain ⟨p, hp, ep⟩ := rng_nat (by omega) h1
  obtain ⟨k, hk, ek⟩ := rng_nat (n := 3) (x := y) (by omega) (by
    refine ⟨h2, ?_⟩
    show y < 3
    grind)
  refine ⟨p, k, hp, hk, ep, ek, by rw [ep, ek]; exact i3 p k, ?_⟩
  unfold gl
  rw [ep, ek, i3, nI_clamp (by omega)]
def o_size (g : Mem) (x y z : Int32) : Rs :=
  if isW g x y then (if 5 ≤ z ∧ z ≤ 300 then (if g 7 (gl x y) = 0 then (g 5 (gl x y), up g 5 (gl x y) z) else (-1000002, g)) else (-1000001, g)) else (-1000001, g)
theorem s_size {Q : Int32 → Mem → Prop} {P : Nat} {g : Mem} {x y z : Int32} (hP : P ≤ 4) (e : g 1 0 = nI P) (hp : PT g) (h : Q (o_size g x y z).1 (o_size g x y z).2) : vc_X1_setSize Q g x y z := by
  unfold o_size at h
  refine s_hasW hp ?_
  by_cases c : isW g x y
  · rw [if_pos c] at h ⊢
    obtain ⟨p, k, hp', hk, ex, ey, e3, eg⟩ := gl_spec hP e c
    refine ⟨fun q => absurd q (by decide), fun _ => ?_⟩
    rw [e_win]
    by_cases c2 : 5 ≤ z ∧ z ≤ 300
    · rw [if_pos c2] at h ⊢
      refine ⟨fun _ => ?_, fun q => absurd q (by decide)⟩
      refine s_gl ?_
      rw [e3]
      rw [eg] at h
      refine s_isOut (by omega) ?_
      by_cases c3 : g 7 (3 * p + k) = 0
      · rw [if_pos c3] at h ⊢
        refine ⟨fun _ => ⟨vp_in_nI (by omega) (by omega), nm_e ?_⟩, fun q => absurd q (by decide)⟩
        rw [nI_clamp (by omega)]
        exact nm_e h
      · rw [if_neg c3] at h ⊢
        exact ⟨fun q => absurd rfl q, fun _ => h⟩
    · rw [if_neg c2] at h ⊢
      exact ⟨fun q => absurd rfl q, fun _ => h⟩
  · rw [if_neg c] at h ⊢
    exact ⟨fun _ => h, fun q => absurd rfl q⟩

def o_task (g : Mem) (a b c d : Int32) : Rs :=
  if 1 ≤ a ∧ a ≤ 3 then (if 0 ≤ b ∧ b ≤ 999 then (if 0 ≤ c ∧ c ≤ 999 then (if 0 ≤ d ∧ d ≤ 2 then (if g 12 0 < 8 then (g 12 0, up (up (up (up (up g 13 (g 12 0).toNatClampNeg a) 14 (g 12 0).toNatClampNeg b) 15 (g 12 0).toNatClampNeg c) 16 (g 12 0).toNatClampNeg d) 12 0 (g 12 0 + 1)) else (-1000003, g)) else (-1000001, g)) else (-1000001, g)) else (-1000001, g)) else (-1000001, g)
theorem s_task {Q : Int32 → Mem → Prop} {T : Nat} {g : Mem} {a b c d : Int32} (hT : T ≤ 8) (e : g 12 0 = nI T) (h : Q (o_task g a b c d).1 (o_task g a b c d).2) : vc_X1_addTask Q g a b c d := by
  unfold o_task at h
  unfold vc_X1_addTask
  rw [e_win]
  by_cases c1 : 1 ≤ a ∧ a ≤ 3
  · rw [if_pos c1] at h ⊢
    refine ⟨fun q => absurd q (by decide), fun _ => ?_⟩
    rw [e_win]
    by_cases c1 : 0 ≤ b ∧ b ≤ 999
    · rw [if_pos c1] at h ⊢
      refine ⟨fun q => absurd q (by decide), fun _ => ?_⟩
      rw [e_win]
      by_cases c1 : 0 ≤ c ∧ c ≤ 999
      · rw [if_pos c1] at h ⊢
        refine ⟨fun q => absurd q (by decide), fun _ => ?_⟩
        rw [e_win]
        by_cases c1 : 0 ≤ d ∧ d ≤ 2
        · rw [if_pos c1] at h ⊢
          refine ⟨fun _ => ?_, fun q => absurd q (by decide)⟩
          by_cases c1 : g 12 0 < 8
          · rw [if_pos c1] at h
            refine br_t c1 (nm_e ⟨?_, nm_e (nm_e (nm_e (nm_e (nm_e h))))⟩)
            rw [e] at c1 ⊢
            exact vp_in_nI ((nI_ltI (a := T) (b := 8) (by omega) (by omega)).mp c1) (by omega)
          · rw [if_neg c1] at h
            exact br_f c1 h
        · rw [if_neg c1] at h ⊢
          exact ⟨fun q => absurd rfl q, fun _ => h⟩
      · rw [if_neg c1] at h ⊢
        exact ⟨fun _ => h, fun q => absurd rfl q⟩
    · rw [if_neg c1] at h ⊢
      exact ⟨fun _ => h, fun q => absurd rfl q⟩
  · rw [if_neg c1] at h ⊢
    exact ⟨fun _ => h, fun q => absurd rfl q⟩
def o_contract (g : Mem) (a b : Int32) : Rs :=
  if 0 ≤ a ∧ a ≤ 999 then (if 1 ≤ b ∧ b ≤ 20 then (if g 18 0 < 6 then (g 18 0, up (up (up g 19 (g 18 0).toNatClampNeg a) 20 (g 18 0).toNatClampNeg b) 18 0 (g 18 0 + 1)) else (-1000003, g)) else (-1000001, g)) else (-1000001, g)
theorem s_contract {Q : Int32 → Mem → Prop} {C : Nat} {g : Mem} {a b : Int32} (hC : C ≤ 6) (e : g 18 0 = nI C) (h : Q (o_contract g a b).1 (o_contract g a b).2) : vc_X1_layContract Q g a b := by
  unfold o_contract at h
  unfold vc_X1_layContract
  rw [e_win]
  by_cases c1 : 0 ≤ a ∧ a ≤ 999
  · rw [if_pos c1] at h ⊢
    refine ⟨fun q => absurd q (by decide), fun _ => ?_⟩
    rw [e_win]
    by_cases c1 : 1 ≤ b ∧ b ≤ 20
    · rw [if_pos c1] at h ⊢
      refine ⟨fun _ => ?_, fun q => absurd q (by decide)⟩
      by_cases c1 : g 18 0 < 6
      · rw [if_pos c1] at h
        refine br_t c1 (nm_e ⟨?_, nm_e (nm_e (nm_e h))⟩)
        rw [e] at c1 ⊢
        exact vp_in_nI ((nI_ltI (a := C) (b := 6) (by omega) (by omega)).mp c1) (by omega)
      · rw [if_neg c1] at h
        exact br_f c1 h
    · rw [if_neg c1] at h ⊢
      exact ⟨fun q => absurd rfl q, fun _ => h⟩
  · rw [if_neg c1] at h ⊢
    exact ⟨fun _ => h, fun q => absurd rfl q⟩
def o_put (g : Mem) (x y z : Int32) : Rs :=
  if isW g x y then (if rng z (g 12 0) then (if cput g (gl x y) z.toNatClampNeg then (lft (stt (pay g (gl x y / 3) (g 14 z.toNatClampNeg)) (gl x y) z) z.toNatClampNeg, stt (pay g (gl x y / 3) (g 14 z.toNatClampNeg)) (gl x y) z) else (-1000002, g)) else (-1000001, g)) else (-1000001, g)
theorem s_put {Q : Int32 → Mem → Prop} {P T : Nat} {g : Mem} {x y z : Int32} (hP : P ≤ 4) (e : g 1 0 = nI P) (hT : T ≤ 8) (eT : g 12 0 = nI T) (hp : PT g) (h : Q (o_put g x y z).1 (o_put g x y z).2) : vc_X1_putWorker Q g x y z := by
  unfold o_put at h
  refine s_hasW hp ?_
  by_cases c : isW g x y
  · rw [if_pos c] at h ⊢
    obtain ⟨p, k, hp', hk, ex, ey, e3, eg⟩ := gl_spec hP e c
    refine ⟨fun q => absurd q (by decide), fun _ => s_hasTask hp ?_⟩
    by_cases c2 : rng z (g 12 0)
    · rw [if_pos c2] at h ⊢
      rw [eT] at c2
      obtain ⟨t, ht, et⟩ := rng_nat (by omega) c2
      refine ⟨fun _ => s_gl ?_, fun q => absurd q (by decide)⟩
      rw [e3, ex, et]
      rw [eg, et, nI_clamp (by omega)] at h
      refine s_canBePut (by omega) (by omega) ?_
      by_cases c3 : cput g (3 * p + k) t
      · rw [if_pos c3] at h ⊢
        refine ⟨fun _ => ⟨vp_in_nI (by omega) (by omega), ?_⟩, fun q => absurd q (by decide)⟩
        rw [nI_clamp (by omega)]
        refine s_pay (by omega) (s_start (by omega) (s_placesLeft (by omega) ?_))
        rw [show (3 * p + k) / 3 = p by omega] at h
        exact h
      · rw [if_neg c3] at h ⊢
        exact ⟨fun q => absurd rfl q, fun _ => h⟩
    · rw [if_neg c2] at h ⊢
      exact ⟨fun q => absurd rfl q, fun _ => h⟩
  · rw [if_neg c] at h ⊢
    exact ⟨fun _ => h, fun q => absurd rfl q⟩
def o_home (g : Mem) (x y : Int32) : Rs :=
  if isW g x y then (if g 7 (gl x y) = 0 then (if g 6 (gl x y) = -1 then (-1000002, g) else (g 6 (gl x y), up g 6 (gl x y) (-1))) else (-1000002, g)) else (-1000001, g)
theorem s_home {Q : Int32 → Mem → Prop} {P : Nat} {g : Mem} {x y : Int32} (hP : P ≤ 4) (e : g 1 0 = nI P) (hp : PT g) (h : Q (o_home g x y).1 (o_home g x y).2) : vc_X1_takeHome Q g x y := by
  unfold o_home at h
  refine s_hasW hp ?_
  by_cases c : isW g x y
  · rw [if_pos c] at h ⊢
    obtain ⟨p, k, hp', hk, ex, ey, e3, eg⟩ := gl_spec hP e c
    refine ⟨fun _ => s_gl ?_, fun q => absurd q (by decide)⟩
    rw [e3]
    rw [eg] at h
    refine ⟨vp_in_nI (by omega) (by omega), nm_e (s_isOut (by omega) ?_)⟩
    rw [nI_clamp (by omega)]
    by_cases c3 : g 7 (3 * p + k) = 0
    · rw [if_pos c3] at h ⊢
      refine ⟨fun q => absurd q (by decide), fun _ => ⟨fun c4 => nm_e ?_, fun c4 => ?_⟩⟩
      · rw [if_neg c4] at h; exact h
      · rw [if_pos c4] at h; exact h
    · rw [if_neg c3] at h ⊢
      exact ⟨fun _ => h, fun q => absurd rfl q⟩
  · rw [if_neg c] at h ⊢
    exact ⟨fun q => absurd rfl q, fun _ => h⟩
theorem nat_le {x : Int32} {m : Nat} (hm : m < 2 ^ 31) (h0 : 0 ≤ x) (h : x ≤ nI m) : ∃ k, k ≤ m ∧ x = nI k := by
  obtain ⟨k, hk, e⟩ := nI_of (x := x) (by grind)
  rw [e, nI_leI (by omega) hm] at h
  exact ⟨k, h, e⟩
def o_pass (P : Nat) (g : Mem) (n : Int32) : Rs :=
  if 1 ≤ n ∧ n ≤ 600 then (if g 0 0 + n ≤ 9999 then advs P n.toNatClampNeg g else (-1000003, g)) else (-1000001, g)
theorem s_pass {Q : Int32 → Mem → Prop} {P : Nat} {g : Mem} {n : Int32} (hg : GI P g) (h : Q (o_pass P g n).1 (o_pass P g n).2) : vc_X1_letPass Q g n := by
  unfold o_pass at h
  unfold vc_X1_letPass
  rw [e_win]
  by_cases c : 1 ≤ n ∧ n ≤ 600
  · rw [if_pos c] at h ⊢
    refine ⟨fun _ => ⟨fun c2 => ?_, fun c2 => ?_⟩, fun q => absurd q (by decide)⟩
    · rw [if_pos c2] at h
      obtain ⟨k, hk, ek⟩ := nat_le (x := n) (m := 600) (by omega) (by grind) c.2
      rw [ek, nI_clamp (by omega)] at h
      rw [ek]
      exact s_advance hg (by omega) h
    · rw [if_neg c2] at h; exact h
  · rw [if_neg c] at h ⊢
    exact ⟨fun q => absurd rfl q, fun _ => h⟩
