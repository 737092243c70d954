/-! texts: what class and reference read -/
/-- up to k digits from s on: the value and where it ends -/
def rd (c : Nat → Int32) (l : Nat) : Nat → Int32 → Nat → Int32 × Nat
  | 0, v, s => (v, s)
  | k + 1, v, s => if s < l ∧ 48 ≤ c s ∧ c s ≤ 57 then rd c l k (10 * v + c s - 48) (s + 1) else (v, s)
theorem rd_ge (c : Nat → Int32) (l : Nat) : ∀ k v s, s ≤ (rd c l k v s).2 ∧ (rd c l k v s).2 ≤ s + k ∧ (s ≤ l → (rd c l k v s).2 ≤ l)
  | 0, v, s => ⟨Nat.le_refl _, Nat.le_refl _, fun h => h⟩
  | k + 1, v, s => by
    unfold rd
    split
    · next q =>
      obtain ⟨a, b, d⟩ := rd_ge c l k (10 * v + c s - 48) (s + 1)
      exact ⟨by omega, by omega, fun h => d (by omega)⟩
    · exact ⟨Nat.le_refl _, by omega, fun h => h⟩
/-- k numbers with their signs from s on: is it so, and where it ends -/
def ps (c : Nat → Int32) (l : Nat) : Nat → Nat → Bool × Nat
  | 0, s => (true, s)
  | k + 1, s => if (rd c l 3 0 s).2 ≤ s then (false, (rd c l 3 0 s).2) else if (rd c l 3 0 s).2 < l ∧ c (rd c l 3 0 s).2 = (if k = 0 then 59 else 44) then ps c l k ((rd c l 3 0 s).2 + 1) else (false, (rd c l 3 0 s).2)
theorem ps_ge (c : Nat → Int32) (l : Nat) : ∀ k s, s ≤ (ps c l k s).2 ∧ (s ≤ l → (ps c l k s).2 ≤ l)
  | 0, s => ⟨Nat.le_refl _, fun h => h⟩
  | k + 1, s => by
    obtain ⟨a, b, d⟩ := rd_ge c l 3 0 s
    obtain ⟨e, f⟩ := ps_ge c l k ((rd c l 3 0 s).2 + 1)
    have ep : ps c l (k + 1) s = if (rd c l 3 0 s).2 ≤ s then (false, (rd c l 3 0 s).2) else if (rd c l 3 0 s).2 < l ∧ c (rd c l 3 0 s).2 = (if k = 0 then 59 else 44) then ps c l k ((rd c l 3 0 s).2 + 1) else (false, (rd c l 3 0 s).2) := rfl
    rw [ep]
    by_cases z : (rd c l 3 0 s).2 ≤ s
    · rw [if_pos z]; exact ⟨a, d⟩
    · rw [if_neg z]
      by_cases q : (rd c l 3 0 s).2 < l ∧ c (rd c l 3 0 s).2 = (if k = 0 then 59 else 44)
      · rw [if_pos q]; exact ⟨by omega, fun h => f (by omega)⟩
      · rw [if_neg q]; exact ⟨a, d⟩
/-- the numbers that were read -/
def pn (c : Nat → Int32) (l : Nat) : Nat → Nat → Nat → Int32
  | 0, _, _ => 0
  | k + 1, s, 0 => (rd c l 3 0 s).1
  | k + 1, s, i + 1 => pn c l k ((rd c l 3 0 s).2 + 1) i
/-- how many numbers an order has -/
def nof (o : Int32) : Nat := if o = 98 then 2 else if o = 99 then 2 else if o = 104 then 2 else if o = 115 then 1 else if o = 116 then 4 else if o = 119 then 3 else 0
theorem nof_le (o : Int32) : nof o ≤ 4 := by
  unfold nof
  split <;> (try omega) <;> split <;> (try omega) <;> split <;> (try omega) <;> split <;> (try omega) <;> split <;> (try omega) <;> split <;> omega
def prs (c : Nat → Int32) (l s : Nat) : Bool × Nat := if nof (c s) = 0 then (false, s) else ps c l (nof (c s)) (s + 1)
/-! the class -/
def Ko (ο ο' : Mem) : Prop := ο' 1 = ο 1 ∧ ∀ f, f ≠ 5 → ο' 0 f = ο 0 f
theorem Ko.tr {a b c : Mem} (h : Ko a b) (h' : Ko b c) : Ko a c := ⟨h'.1.trans h.1, fun f hf => (h'.2 f hf).trans (h.2 f hf)⟩
theorem ko_5 (ο : Mem) (v : Int32) : Ko ο (up ο 0 5 v) := ⟨up_n _ _ _ (by omega), fun f hf => up_nn _ (fun q => hf q.2)⟩
theorem ko_2 (ο : Mem) (i : Nat) (v : Int32) : Ko ο (up ο 2 i v) := ⟨up_n _ _ _ (by omega), fun f hf => by rw [up_n _ _ _ (by omega)]⟩
theorem s_signAt {Q : Int32 → Prop} {ο : Mem} {l s : Nat} (hl : l ≤ 60) (hs : s ≤ 60) (e : ο 0 0 = nI l) (h : Q (if s < l then ο 1 s else -1)) : vc_X4_signAt Q ο (nI s) := by
  unfold vc_X4_signAt
  rw [e_win, e]
  by_cases c : s < l
  · rw [if_pos c] at h
    have q : 0 ≤ nI s ∧ nI s ≤ nI l - 1 := ⟨nI_pos' (by omega), by rw [show (1 : Int32) = nI 1 from rfl, nI_sub (by omega), nI_leI (by omega) (by omega)]; omega⟩
    rw [if_pos q, nI_clamp (by omega)]
    exact ⟨fun q => absurd q (by decide), fun _ => ⟨vp_in_nI (by omega) (by omega), h⟩⟩
  · rw [if_neg c] at h
    have q : ¬ (0 ≤ nI s ∧ nI s ≤ nI l - 1) := by
      rintro ⟨_, q⟩
      rcases Nat.eq_zero_or_pos l with z | z
      · subst z
        have := nI_pos' (n := s) (by omega)
        rw [show nI 0 - 1 = (-1 : Int32) from by decide] at q
        grind
      · rw [show (1 : Int32) = nI 1 from rfl, nI_sub (by omega), nI_leI (by omega) (by omega)] at q
        omega
    rw [if_neg q]
    exact ⟨fun _ => h, fun q => absurd rfl q⟩
theorem s_readNumber {Q : Int32 → Mem → Prop} {ο : Mem} {c : Nat → Int32} {l s i : Nat} (hi : i < 4) (hl : l ≤ 60) (hs : s ≤ l) (ec : ο 1 = c) (e0 : ο 0 0 = nI l) (e5 : ο 0 5 = nI s) (hq : ∀ ο', Ko ο ο' → ο' 0 5 = nI (rd c l 3 0 s).2 → (∀ j, j ≠ i → ο' 2 j = ο 2 j) → (¬ (rd c l 3 0 s).2 ≤ s → ο' 2 i = (rd c l 3 0 s).1) → Q (if (rd c l 3 0 s).2 ≤ s then 0 else 1) ο') : vc_X4_readNumber Q ο (nI i) := by
  have fin : ∀ f ο', Ko ο ο' → ο' 2 = ο 2 → ο' 0 5 = nI (rd c l 3 0 s).2 → vl_X4_readNumber Q (f + 1) 1 ο' (nI i) (rd c l 3 0 s).1 (nI ((rd c l 3 0 s).2 - s)) := by
    intro f ο' k k2 k5
    have hge := rd_ge c l 3 0 s
    show vb_X4_readNumber_60 Q (vl_X4_readNumber Q f) ο' (nI i) (rd c l 3 0 s).1 (nI ((rd c l 3 0 s).2 - s))
    by_cases z : (rd c l 3 0 s).2 ≤ s
    · have q := hq ο' k k5 (fun j _ => by rw [k2]) (fun q => absurd z q)
      rw [if_pos z] at q
      exact ⟨fun _ => q, fun w => absurd (by rw [show (rd c l 3 0 s).2 - s = 0 by omega]; rfl) w⟩
    · refine ⟨fun w => absurd w (ai0 (by omega) (by omega)), fun _ => ?_⟩
      rw [e_win]
      have q4 : 0 ≤ nI i ∧ nI i ≤ 3 := ⟨nI_pos' (by omega), gec (a := 3) (b := i) (by omega)⟩
      rw [if_pos q4, nI_clamp (by omega)]
      have q := hq (up ο' 2 i (rd c l 3 0 s).1) (k.tr (ko_2 _ _ _)) (by rw [up_n _ _ _ (by omega)]; exact k5) (fun j hj => by rw [up_nn _ (fun z => hj z.2), k2]) (fun _ => by rw [up_at, if_pos ⟨rfl, rfl⟩])
      rw [if_neg z] at q
      exact ⟨fun _ => ⟨vp_in_nI hi (by omega), nm_e q⟩, fun q => absurd q (by decide)⟩
  have st : ∀ k m v ο' f, m + k = 3 → k + 2 ≤ f → Ko ο ο' → ο' 2 = ο 2 → s + m ≤ l → ο' 0 5 = nI (s + m) → rd c l k v (s + m) = rd c l 3 0 s → vl_X4_readNumber Q f 0 ο' (nI i) v (nI m) := by
    intro k
    induction k with
    | zero =>
      intro m v ο' f hm hf hk k2 hsl k5 er
      obtain ⟨f, rfl⟩ : ∃ f', f = f' + 2 := ⟨f - 2, by omega⟩
      have e1 : (rd c l 3 0 s).1 = v := by rw [← er]; rfl
      have e2 : (rd c l 3 0 s).2 = s + m := by rw [← er]; rfl
      have := fin f ο' hk k2 (by rw [e2]; exact k5)
      rw [e1, e2, show s + m - s = m by omega] at this
      exact br_t (gec (a := m) (b := 3) (by omega)) this
    | succ k ih =>
      intro m v ο' f hm hf hk k2 hsl k5 er
      obtain ⟨f, rfl⟩ : ∃ f', f = f' + 2 := ⟨f - 2, by omega⟩
      have e0' : ο' 0 0 = nI l := (hk.2 0 (by omega)).trans e0
      have e1' : ο' 1 = c := hk.1.trans ec
      refine br_f (ltc (a := m) (b := 3) (by omega)) ?_
      show vc_X4_signAt _ ο' (ο' 0 5)
      rw [k5]
      refine s_signAt hl (by omega) e0' ?_
      rw [e_win, e1']
      have ee : rd c l (k + 1) v (s + m) = if s + m < l ∧ 48 ≤ c (s + m) ∧ c (s + m) ≤ 57 then rd c l k (10 * v + c (s + m) - 48) (s + m + 1) else (v, s + m) := rfl
      rw [ee] at er
      by_cases q : s + m < l ∧ 48 ≤ c (s + m) ∧ c (s + m) ≤ 57
      · rw [if_pos q] at er
        rw [if_pos q.1, if_pos q.2]
        refine ⟨fun q => absurd q (by decide), fun _ => s_signAt hl (by omega) e0' (nm_e (nm_e (nm_e ?_)))⟩
        rw [e1', if_pos q.1, nI_1, nI_1, show s + m + 1 = s + (m + 1) by omega]
        exact ih (m + 1) _ _ (f + 1) (by omega) (by omega) (hk.tr (ko_5 _ _)) (by rw [up_n _ _ _ (by omega)]; exact k2) (by omega) (by rw [up_at, if_pos ⟨rfl, rfl⟩]) er
      · rw [if_neg q] at er
        have e1 : (rd c l 3 0 s).1 = v := by rw [← er]
        have e2 : (rd c l 3 0 s).2 = s + m := by rw [← er]
        have := fin f ο' hk k2 (by rw [e2]; exact k5)
        rw [e1, e2, show s + m - s = m by omega] at this
        have nq : ¬ (48 ≤ (if s + m < l then c (s + m) else -1) ∧ (if s + m < l then c (s + m) else -1) ≤ 57) := by
          by_cases w : s + m < l
          · rw [if_pos w]; exact fun z => q ⟨w, z⟩
          · rw [if_neg w]; decide
        rw [if_neg nq]
        exact ⟨fun _ => this, fun q => absurd rfl q⟩
  exact ⟨6, st 3 0 0 ο 6 (by omega) (by omega) ⟨rfl, fun _ _ => rfl⟩ rfl (by omega) e5 rfl⟩
theorem s_readSign {Q : Int32 → Mem → Prop} {ο : Mem} {c : Nat → Int32} {l s : Nat} {x : Int32} (hx : x ≠ -1) (hl : l ≤ 60) (hs : s ≤ l) (ec : ο 1 = c) (e0 : ο 0 0 = nI l) (e5 : ο 0 5 = nI s) (h : if s < l ∧ c s = x then Q 1 (up ο 0 5 (nI (s + 1))) else Q 0 ο) : vc_X4_readSign Q ο x := by
  unfold vc_X4_readSign
  rw [e5]
  refine s_signAt hl (by omega) e0 ?_
  rw [ec, nI_1]
  by_cases q : s < l
  · rw [if_pos q]
    by_cases w : c s = x
    · rw [if_pos ⟨q, w⟩] at h
      exact ⟨fun _ => nm_e h, fun z => absurd w z⟩
    · rw [if_neg (fun z => w z.2)] at h
      exact ⟨fun z => absurd z w, fun _ => h⟩
  · rw [if_neg q]
    rw [if_neg (fun z => q z.1)] at h
    exact ⟨fun z => absurd z.symm hx, fun _ => h⟩
theorem s_readLoop {Q : Int32 → Mem → Prop} {c : Nat → Int32} {l w : Nat} (hw : w ≤ 4) (hl : l ≤ 60) : ∀ k i s ο f, i + k = w → k + 1 ≤ f → s ≤ l → ο 1 = c → ο 0 0 = nI l → ο 0 5 = nI s → (∀ ο', Ko ο ο' → ο' 0 5 = nI (ps c l k s).2 → (∀ j, j < i → ο' 2 j = ο 2 j) → ((ps c l k s).1 = true → ∀ j, j < k → ο' 2 (i + j) = pn c l k s j) → Q (if (ps c l k s).1 then 1 else 0) ο') → vl_X4_readOrder Q f 0 ο (nI w) (nI i) := by
  intro k
  induction k with
  | zero =>
    intro i s ο f hi hf hs ec e0 e5 hq
    obtain ⟨f, rfl⟩ : ∃ f', f = f' + 1 := ⟨f - 1, by omega⟩
    exact br_t (gec (a := i) (b := w) (by omega)) (hq ο ⟨rfl, fun _ _ => rfl⟩ e5 (fun _ _ => rfl) (fun _ j hj => by omega))
  | succ k ih =>
    intro i s ο f hi hf hs ec e0 e5 hq
    obtain ⟨f, rfl⟩ : ∃ f', f = f' + 1 := ⟨f - 1, by omega⟩
    have hge := rd_ge c l 3 0 s
    refine br_f (ltc (a := i) (b := w) (by omega)) (s_readNumber (by omega) hl hs ec e0 e5 (fun ο1 k1 k5 kn kv => ?_))
    have ep : ps c l (k + 1) s = if (rd c l 3 0 s).2 ≤ s then (false, (rd c l 3 0 s).2) else if (rd c l 3 0 s).2 < l ∧ c (rd c l 3 0 s).2 = (if k = 0 then 59 else 44) then ps c l k ((rd c l 3 0 s).2 + 1) else (false, (rd c l 3 0 s).2) := rfl
    have e1 : ο1 1 = c := k1.1.trans ec
    have e10 : ο1 0 0 = nI l := (k1.2 0 (by omega)).trans e0
    by_cases z : (rd c l 3 0 s).2 ≤ s
    · rw [if_pos z] at ep ⊢
      rw [ep] at hq
      exact ⟨fun _ => hq ο1 k1 k5 (fun j hj => kn j (by omega)) (fun q => absurd (show false = true from q) (by decide)), fun q => absurd rfl q⟩
    · rw [if_neg z] at ep ⊢
      refine ⟨fun q => absurd q (by decide), fun _ => ?_⟩
      have ew : nI w - 1 = nI (w - 1) := by rw [show (1 : Int32) = nI 1 from rfl, nI_sub (by omega)]
      have go : ∀ x : Int32, x ≠ -1 → x = (if k = 0 then 59 else 44) → vc_X4_readSign (fun r10 ο11 => ((¬ r10 = 0) → (∀ v13 : Int32, v13 = nI i + 1 → (vl_X4_readOrder Q f 0 ο11 (nI w) v13))) ∧ ((r10 = 0) → (Q 0 ο11))) ο1 x := by
        intro x hx ex
        refine s_readSign hx hl (hge.2.2 hs) e1 e10 k5 ?_
        rw [ex]
        by_cases q : (rd c l 3 0 s).2 < l ∧ c (rd c l 3 0 s).2 = (if k = 0 then 59 else 44)
        · rw [if_pos q] at ep ⊢
          refine ⟨fun _ => nm_e ?_, fun q => absurd q (by decide)⟩
          rw [nI_1]
          refine ih (i + 1) ((rd c l 3 0 s).2 + 1) _ f (by omega) (by omega) (by omega) (by rw [up_n _ _ _ (by omega)]; exact e1) (by rw [up_nn _ (by omega)]; exact e10) (by rw [up_at, if_pos ⟨rfl, rfl⟩]) (fun ο' k' k5' kj' kn' => ?_)
          have := hq ο' (k1.tr ((ko_5 _ _).tr k')) (by rw [ep]; exact k5') (fun j hj => (kj' j (by omega)).trans (by rw [up_n _ _ _ (by omega)]; exact kn j (by omega))) (fun ok j hj => ?_)
          · rw [ep] at this; exact this
          · rw [ep] at ok
            rcases Nat.eq_zero_or_pos j with rfl | hj0
            · show ο' 2 i = (rd c l 3 0 s).1
              rw [kj' i (by omega), up_n _ _ _ (by omega)]
              exact kv z
            · obtain ⟨j, rfl⟩ : ∃ j', j = j' + 1 := ⟨j - 1, by omega⟩
              have := kn' ok j (by omega)
              rw [show i + 1 + j = i + (j + 1) by omega] at this
              exact this
        · rw [if_neg q] at ep ⊢
          rw [ep] at hq
          exact ⟨fun q => absurd rfl q, fun _ => hq ο1 k1 k5 (fun j hj => kn j (by omega)) (fun q => absurd (show false = true from q) (by decide))⟩
      by_cases k0 : k = 0
      · exact br_t (by rw [ew]; exact gec (a := i) (b := w - 1) (by omega)) (go 59 (by decide) (by rw [if_pos k0]))
      · exact br_f (by rw [ew]; exact ltc (a := i) (b := w - 1) (by omega)) (go 44 (by decide) (by rw [if_neg k0]))
theorem s_numbersOf {Q : Int32 → Prop} {o : Int32} (h : Q (nI (nof o))) : vc_X4_numbersOf Q o := by
  unfold nof at h
  refine ⟨fun c => ?_, fun c1 => ⟨fun c => ?_, fun c2 => ⟨fun c => ?_, fun c3 => ⟨fun c => ?_, fun c4 => ⟨fun c => ?_, fun c5 => ⟨fun c => ?_, fun c6 => ?_⟩⟩⟩⟩⟩⟩
  · rw [if_pos c] at h; exact h
  · rw [if_neg c1, if_pos c] at h; exact h
  · rw [if_neg c1, if_neg c2, if_pos c] at h; exact h
  · rw [if_neg c1, if_neg c2, if_neg c3, if_pos c] at h; exact h
  · rw [if_neg c1, if_neg c2, if_neg c3, if_neg c4, if_pos c] at h; exact h
  · rw [if_neg c1, if_neg c2, if_neg c3, if_neg c4, if_neg c5, if_pos c] at h; exact h
  · rw [if_neg c1, if_neg c2, if_neg c3, if_neg c4, if_neg c5, if_neg c6] at h; exact h
theorem s_readOrder {Q : Int32 → Mem → Prop} {ο : Mem} {c : Nat → Int32} {l s : Nat} (hl : l ≤ 60) (hs : s < l) (ec : ο 1 = c) (e0 : ο 0 0 = nI l) (e5 : ο 0 5 = nI s) (hq : ∀ ο', Ko ο ο' → ο' 0 5 = nI (prs c l s).2 → ((prs c l s).1 = true → ∀ j, j < nof (c s) → ο' 2 j = pn c l (nof (c s)) (s + 1) j) → Q (if (prs c l s).1 then 1 else 0) ο') : vc_X4_readOrder Q ο := by
  refine ⟨6, ?_⟩
  rw [e5]
  refine s_signAt hl (by omega) e0 ?_
  rw [if_pos hs, ec]
  refine s_numbersOf ?_
  have hn := nof_le (c s)
  unfold prs at hq
  by_cases z : nof (c s) = 0
  · rw [if_pos z] at hq
    refine ⟨fun q => absurd (by rw [z]; rfl) q, fun _ => hq ο ⟨rfl, fun _ _ => rfl⟩ e5 (fun q => absurd (show false = true from q) (by decide))⟩
  · rw [if_neg z] at hq
    refine ⟨fun _ => nm_e ?_, fun q => absurd q (ai0 (by omega) z)⟩
    rw [nI_1]
    refine s_readLoop hn hl (nof (c s)) 0 (s + 1) _ 6 (by omega) (by omega) (by omega) (by rw [up_n _ _ _ (by omega)]; exact ec) (by rw [up_nn _ (by omega)]; exact e0) (by rw [up_at, if_pos ⟨rfl, rfl⟩]) (fun ο' k' k5 kj kn => hq ο' ((ko_5 _ _).tr k') k5 (fun ok j hj => ?_))
    have := kn ok j hj
    rw [Nat.zero_add] at this
    exact this
