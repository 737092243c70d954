/-! the reference reads -/
def Kr (ρ ρ' : Mem) : Prop := (∀ c, c ≠ 0 → c ≠ 7 → ρ' c = ρ c) ∧ ∀ f, f ≠ 10 → f ≠ 15 → ρ' 0 f = ρ 0 f
theorem Kr.tr {a b c : Mem} (h : Kr a b) (h' : Kr b c) : Kr a c := ⟨fun i h0 h7 => (h'.1 i h0 h7).trans (h.1 i h0 h7), fun f h1 h2 => (h'.2 f h1 h2).trans (h.2 f h1 h2)⟩
theorem kr_10 (ρ : Mem) (v : Int32) : Kr ρ (up ρ 0 10 v) := ⟨fun c h0 _ => up_n _ _ _ h0, fun f h _ => up_nn _ (fun q => h q.2)⟩
theorem kr_15 (ρ : Mem) (v : Int32) : Kr ρ (up ρ 0 15 v) := ⟨fun c h0 _ => up_n _ _ _ h0, fun f _ h => up_nn _ (fun q => h q.2)⟩
theorem kr_7 (ρ : Mem) (i : Nat) (v : Int32) : Kr ρ (up ρ 7 i v) := ⟨fun c _ h7 => up_n _ _ _ h7, fun f _ _ => by rw [up_n _ _ _ (by omega)]⟩
/-- the text c of l signs -/
def TX (c : Nat → Int32) (l : Nat) (ρ : Mem) : Prop := ρ 0 7 = nI l ∧ ∀ i, i < l → ρ 5 i = c i
theorem TX.kr {c : Nat → Int32} {l : Nat} {ρ ρ' : Mem} (h : TX c l ρ) (k : Kr ρ ρ') : TX c l ρ' := ⟨(k.2 7 (by omega) (by omega)).trans h.1, fun i hi => by rw [k.1 5 (by omega) (by omega)]; exact h.2 i hi⟩
theorem r_isAt {Q : Int32 → Prop} {ρ : Mem} {c : Nat → Int32} {l s : Nat} {lo hi : Int32} (hl : l ≤ 60) (hs : s ≤ l) (ht : TX c l ρ) (e : ρ 0 10 = nI s) (h : Q (if s < l ∧ lo ≤ c s ∧ c s ≤ hi then 1 else 0)) : vc_X8_isAt Q ρ lo hi := by
  unfold vc_X8_isAt
  rw [ht.1, e]
  by_cases q : s < l
  · refine br_f (ltc q (by omega)) ⟨vp_in_nI (by omega) (by omega), ?_⟩
    rw [nI_clamp (by omega), ht.2 s q, e_rin]
    by_cases w : lo ≤ c s ∧ c s ≤ hi
    · rw [if_pos ⟨q, w⟩] at h
      rw [if_pos w]
      exact ⟨fun q => absurd q (by decide), fun _ => h⟩
    · rw [if_neg (fun z => w z.2)] at h
      rw [if_neg w]
      exact ⟨fun _ => h, fun q => absurd rfl q⟩
  · rw [if_neg (fun z => q z.1)] at h
    exact br_t (gec (by omega) (by omega)) h
theorem le_self_iff {a x : Int32} : x ≤ a ∧ a ≤ x ↔ a = x := by
  constructor
  · rintro ⟨h1, h2⟩
    rw [Int32.le_iff_toInt_le] at h1 h2
    exact Int32.toInt_inj.mp (by omega)
  · rintro rfl
    exact ⟨Int32.le_refl _, Int32.le_refl _⟩
theorem r_sign {Q : Int32 → Mem → Prop} {ρ : Mem} {c : Nat → Int32} {l s : Nat} {x : Int32} (hl : l ≤ 60) (hs : s ≤ l) (ht : TX c l ρ) (e : ρ 0 10 = nI s) (h : if s < l ∧ c s = x then Q 1 (up ρ 0 10 (nI (s + 1))) else Q 0 ρ) : vc_X8_sign Q ρ x := by
  unfold vc_X8_sign
  refine r_isAt hl hs ht e ?_
  rw [e, nI_1, Int32.add_zero]
  by_cases q : s < l ∧ c s = x
  · rw [if_pos q] at h
    rw [if_pos ⟨q.1, le_self_iff.mpr q.2⟩]
    exact ⟨fun q => absurd q (by decide), fun _ => nm_e ⟨by decide, h⟩⟩
  · rw [if_neg q] at h
    rw [if_neg (fun z => q ⟨z.1, le_self_iff.mp z.2⟩)]
    refine ⟨fun _ => nm_e ⟨by decide, ?_⟩, fun q => absurd rfl q⟩
    rw [up_id e]
    exact h
theorem r_number {Q : Int32 → Mem → Prop} {ρ : Mem} {c : Nat → Int32} {l s i : Nat} (hi : i < 4) (hl : l ≤ 60) (hs : s ≤ l) (ht : TX c l ρ) (e : ρ 0 10 = nI s) (hq : ∀ ρ', Kr ρ ρ' → ρ' 0 15 = ρ 0 15 → ρ' 0 10 = nI (rd c l 3 0 s).2 → (∀ j, j ≠ i → ρ' 7 j = ρ 7 j) → ρ' 7 i = (rd c l 3 0 s).1 → Q (if (rd c l 3 0 s).2 ≤ s then 0 else 1) ρ') : vc_X8_number Q ρ (nI i) := by
  have st : ∀ k m v ρ' f, m + k = 3 → k + 1 ≤ f → Kr ρ ρ' → ρ' 0 15 = ρ 0 15 → (∀ j, j ≠ i → ρ' 7 j = ρ 7 j) → ρ' 7 i = v → s + m ≤ l → ρ' 0 10 = nI (s + m) → rd c l k v (s + m) = rd c l 3 0 s → vl_X8_number Q f 0 ρ' (nI i) (nI s) := by
    intro k
    induction k with
    | zero =>
      intro m v ρ' f hm hf hk k15 kj kv hsl k10 er
      obtain ⟨f, rfl⟩ : ∃ f', f = f' + 1 := ⟨f - 1, by omega⟩
      have e1 : (rd c l 3 0 s).1 = v := by rw [← er]; rfl
      have e2 : (rd c l 3 0 s).2 = s + m := by rw [← er]; rfl
      have q := hq ρ' hk k15 (by rw [e2]; exact k10) kj (by rw [e1]; exact kv)
      rw [if_neg (by omega)] at q
      have en : ((ρ' 0 10 ≤ nI s) → (Q 0 ρ')) ∧ ((¬ (ρ' 0 10) ≤ nI s) → (Q 1 ρ')) := by
        rw [k10]
        exact br_f (ltc (by omega) (by omega)) q
      show vb_X8_number_12 Q (vl_X8_number Q f) ρ' (nI i) (nI s)
      unfold vb_X8_number_12
      refine r_isAt hl hsl (ht.kr hk) k10 ?_
      refine ⟨fun _ => en, fun _ => br_t ?_ en⟩
      rw [k10, nI_sub (by omega)]
      exact gec (a := s + m - s) (b := 3) (by omega)
    | succ k ih =>
      intro m v ρ' f hm hf hk k15 kj kv hsl k10 er
      obtain ⟨f, rfl⟩ : ∃ f', f = f' + 1 := ⟨f - 1, by omega⟩
      have ee : rd c l (k + 1) v (s + m) = if s + m < l ∧ 48 ≤ c (s + m) ∧ c (s + m) ≤ 57 then rd c l k (10 * v + c (s + m) - 48) (s + m + 1) else (v, s + m) := rfl
      rw [ee] at er
      show vb_X8_number_12 Q (vl_X8_number Q f) ρ' (nI i) (nI s)
      unfold vb_X8_number_12
      refine r_isAt hl hsl (ht.kr hk) k10 ?_
      by_cases q : s + m < l ∧ 48 ≤ c (s + m) ∧ c (s + m) ≤ 57
      · rw [if_pos q] at er ⊢
        refine ⟨fun q => absurd q (by decide), fun _ => br_f ?_ ⟨vp_in_nI hi (by omega), ?_⟩⟩
        · rw [k10, nI_sub (by omega)]
          exact ltc (a := s + m - s) (b := 3) (by omega)
        · rw [k10, nI_clamp (by omega), nI_clamp (n := s + m) (by omega)]
          refine ⟨vp_in_nI (by omega) (by omega), nm_e (nm_e ?_)⟩
          rw [up_n _ _ _ (show 0 ≠ 7 by omega), k10, nI_1, kv, (ht.kr hk).2 _ q.1]
          refine ih (m + 1) (10 * v + c (s + m) - 48) _ f (by omega) (by omega) (hk.tr ((kr_7 _ _ _).tr (kr_10 _ _))) ?_ (fun j hj => ?_) ?_ (by omega) ?_ er
          · rw [up_nn _ (by omega), up_n _ _ _ (by omega)]; exact k15
          · rw [up_n _ _ _ (by omega), up_nn _ (fun z => hj z.2)]; exact kj j hj
          · rw [up_n _ _ _ (by omega), up_at, if_pos ⟨rfl, rfl⟩]
          · rw [up_at, if_pos ⟨rfl, rfl⟩]; rfl
      · rw [if_neg q] at er ⊢
        have e1 : (rd c l 3 0 s).1 = v := by rw [← er]
        have e2 : (rd c l 3 0 s).2 = s + m := by rw [← er]
        have q := hq ρ' hk k15 (by rw [e2]; exact k10) kj (by rw [e1]; exact kv)
        refine ⟨fun _ => ?_, fun q => absurd rfl q⟩
        rw [k10]
        rw [e2] at q
        by_cases m0 : m = 0
        · rw [if_pos (by omega)] at q
          exact br_t (gec (by omega) (by omega)) q
        · rw [if_neg (by omega)] at q
          exact br_f (ltc (by omega) (by omega)) q
  refine ⟨5, nm_e ⟨vp_in_nI hi (by omega), nm_e ?_⟩⟩
  rw [nI_clamp (by omega), e]
  exact st 3 0 0 _ 5 (by omega) (by omega) (kr_7 _ _ _) (by rw [up_n _ _ _ (by omega)]) (fun j hj => up_nn _ (fun z => hj z.2)) (by rw [up_at, if_pos ⟨rfl, rfl⟩]) (by omega) (by rw [up_n _ _ _ (by omega)]; exact e) rfl
theorem r_readLoop {Q : Int32 → Mem → Prop} {c : Nat → Int32} {l w : Nat} (hw : w ≤ 4) (hl : l ≤ 60) : ∀ k i s ρ f, i + (k + 1) = w → k + 2 ≤ f → s ≤ l → TX c l ρ → ρ 0 10 = nI s → (∀ ρ', Kr ρ ρ' → ρ' 0 15 = ρ 0 15 → ρ' 0 10 = nI (ps c l (k + 1) s).2 → (∀ j, j < i → ρ' 7 j = ρ 7 j) → ((ps c l (k + 1) s).1 = true → ∀ j, j < k + 1 → ρ' 7 (i + j) = pn c l (k + 1) s j) → Q (if (ps c l (k + 1) s).1 then 1 else 0) ρ') → ∀ Q' : Int32 → Mem → Prop, (∀ r ρ', (r = 0 ∨ r = 1) → vl_X8_reads Q f 1 ρ' (nI w) r (nI (i + 1)) → Q' r ρ') → vc_X8_number Q' ρ (nI i) := by
  intro k
  induction k with
  | zero =>
    intro i s ρ f hi hf hs ht e hq Q' hQ'
    obtain ⟨f, rfl⟩ : ∃ f', f = f' + 1 := ⟨f - 1, by omega⟩
    have hge := rd_ge c l 3 0 s
    refine r_number (by omega) hl hs ht e (fun ρ1 k1 k15 k10 kj kv => hQ' _ ρ1 (by split <;> simp) ?_)
    have ep : ps c l (0 + 1) s = if (rd c l 3 0 s).2 ≤ s then (false, (rd c l 3 0 s).2) else if (rd c l 3 0 s).2 < l ∧ c (rd c l 3 0 s).2 = 59 then (true, (rd c l 3 0 s).2 + 1) else (false, (rd c l 3 0 s).2) := rfl
    show vb_X8_reads_60 Q (vl_X8_reads Q f) ρ1 (nI w) _ (nI (i + 1))
    refine br_t (gec (a := i + 1) (b := w) (by omega)) ?_
    by_cases z : (rd c l 3 0 s).2 ≤ s
    · rw [if_pos z] at ep ⊢
      rw [ep] at hq
      exact ⟨fun _ => hq ρ1 k1 k15 k10 (fun j hj => kj j (by omega)) (fun q => absurd (show false = true from q) (by decide)), fun q => absurd rfl q⟩
    · rw [if_neg z] at ep ⊢
      refine ⟨fun q => absurd q (by decide), fun _ => r_sign hl (hge.2.2 hs) (ht.kr k1) k10 ?_⟩
      by_cases q : (rd c l 3 0 s).2 < l ∧ c (rd c l 3 0 s).2 = 59
      · rw [if_pos q] at ep ⊢
        rw [ep] at hq
        refine ⟨fun q => absurd q (by decide), fun _ => hq _ (k1.tr (kr_10 _ _)) (by rw [up_nn _ (by omega)]; exact k15) (by rw [up_at, if_pos ⟨rfl, rfl⟩]) (fun j hj => by rw [up_n _ _ _ (by omega)]; exact kj j (by omega)) (fun _ j hj => ?_)⟩
        have : j = 0 := by omega
        subst this
        rw [up_n _ _ _ (by omega)]
        exact kv
      · rw [if_neg q] at ep ⊢
        rw [ep] at hq
        exact ⟨fun _ => hq ρ1 k1 k15 k10 (fun j hj => kj j (by omega)) (fun q => absurd (show false = true from q) (by decide)), fun q => absurd rfl q⟩
  | succ k ih =>
    intro i s ρ f hi hf hs ht e hq Q' hQ'
    obtain ⟨f, rfl⟩ : ∃ f', f = f' + 1 := ⟨f - 1, by omega⟩
    have hge := rd_ge c l 3 0 s
    refine r_number (by omega) hl hs ht e (fun ρ1 k1 k15 k10 kj kv => hQ' _ ρ1 (by split <;> simp) ?_)
    have ep : ps c l (k + 1 + 1) s = if (rd c l 3 0 s).2 ≤ s then (false, (rd c l 3 0 s).2) else if (rd c l 3 0 s).2 < l ∧ c (rd c l 3 0 s).2 = (if k + 1 = 0 then 59 else 44) then ps c l (k + 1) ((rd c l 3 0 s).2 + 1) else (false, (rd c l 3 0 s).2) := rfl
    rw [if_neg (show ¬ k + 1 = 0 by omega)] at ep
    show vb_X8_reads_60 Q (vl_X8_reads Q f) ρ1 (nI w) _ (nI (i + 1))
    refine br_f (ltc (a := i + 1) (b := w) (by omega)) ?_
    by_cases z : (rd c l 3 0 s).2 ≤ s
    · rw [if_pos z] at ep ⊢
      rw [ep] at hq
      have := hq ρ1 k1 k15 k10 (fun j hj => kj j (by omega)) (fun q => absurd (show false = true from q) (by decide))
      exact ⟨fun _ => ⟨fun _ => this, fun q => absurd rfl q⟩, fun q => absurd rfl q⟩
    · rw [if_neg z] at ep ⊢
      refine ⟨fun q => absurd q (by decide), fun _ => r_sign hl (hge.2.2 hs) (ht.kr k1) k10 ?_⟩
      obtain ⟨f, rfl⟩ : ∃ f', f = f' + 1 := ⟨f - 1, by omega⟩
      by_cases q : (rd c l 3 0 s).2 < l ∧ c (rd c l 3 0 s).2 = 44
      · rw [if_pos q] at ep ⊢
        refine ⟨fun q => absurd q (by decide), fun _ => ?_⟩
        refine ih (i + 1) ((rd c l 3 0 s).2 + 1) _ (f + 1) (by omega) (by omega) (by omega) ((ht.kr k1).kr (kr_10 _ _)) (by rw [up_at, if_pos ⟨rfl, rfl⟩]) (fun ρ' k' k15' k10' kj' kn' => ?_) _ (fun r ρ' hr hv => ?_)
        · rw [ep] at hq
          refine hq ρ' (k1.tr ((kr_10 _ _).tr k')) (k15'.trans (by rw [up_nn _ (by omega)]; exact k15)) k10' (fun j hj => (kj' j (by omega)).trans (by rw [up_n _ _ _ (by omega)]; exact kj j (by omega))) (fun ok j hj => ?_)
          rcases Nat.eq_zero_or_pos j with rfl | hj0
          · show ρ' 7 i = (rd c l 3 0 s).1
            rw [kj' i (by omega), up_n _ _ _ (by omega)]
            exact kv
          · obtain ⟨j, rfl⟩ : ∃ j', j = j' + 1 := ⟨j - 1, by omega⟩
            have := kn' ok j (by omega)
            rw [show i + 1 + j = i + (j + 1) by omega] at this
            exact this
        · rcases hr with rfl | rfl
          · exact ⟨fun _ => nm_e (by rw [nI_1]; exact hv), fun q => absurd rfl q⟩
          · exact ⟨fun q => absurd q (by decide), fun _ => nm_e (by rw [nI_1]; exact hv)⟩
      · rw [if_neg q] at ep ⊢
        rw [ep] at hq
        have fin := hq ρ1 k1 k15 k10 (fun j hj => kj j (by omega)) (fun q => absurd (show false = true from q) (by decide))
        refine ⟨fun _ => nm_e ?_, fun q => absurd rfl q⟩
        show vb_X8_reads_60 Q (vl_X8_reads Q f) ρ1 (nI w) 0 (nI (i + 1) + 1)
        unfold vb_X8_reads_60
        refine ⟨fun _ => ⟨fun _ => fin, fun q => absurd rfl q⟩, fun _ => ⟨fun _ => ⟨fun _ => fin, fun q => absurd rfl q⟩, fun q => absurd rfl q⟩⟩
theorem r_numbersOf {Q : Int32 → Prop} {o : Int32} (h : Q (nI (nof o))) : vc_X8_numbersOf Q o := by
  unfold nof at h
  unfold vc_X8_numbersOf
  by_cases c1 : o = 98
  · subst c1; exact ⟨fun _ => ⟨fun _ => ⟨fun q => absurd q (by decide), fun _ => ⟨fun q => absurd q (by decide), fun _ => ⟨fun q => absurd rfl q, fun _ => h⟩⟩⟩, fun q => absurd q (by decide)⟩, fun q => absurd q (by decide)⟩
  rw [if_neg c1] at h
  by_cases c2 : o = 99
  · subst c2; exact ⟨fun _ => ⟨fun _ => ⟨fun q => absurd q (by decide), fun _ => ⟨fun _ => h, fun q => absurd rfl q⟩⟩, fun q => absurd q (by decide)⟩, fun q => absurd q (by decide)⟩
  rw [if_neg c2] at h
  by_cases c3 : o = 104
  · subst c3; exact ⟨fun _ => ⟨fun _ => ⟨fun _ => h, fun q => absurd rfl q⟩, fun q => absurd q (by decide)⟩, fun q => absurd q (by decide)⟩
  rw [if_neg c3] at h
  by_cases c4 : o = 115
  · subst c4; exact ⟨fun _ => ⟨fun _ => ⟨fun q => absurd q (by decide), fun _ => ⟨fun q => absurd q (by decide), fun _ => ⟨fun _ => ⟨fun q => absurd rfl q, fun _ => h⟩, fun q => absurd q (by decide)⟩⟩⟩, fun q => absurd q (by decide)⟩, fun q => absurd q (by decide)⟩
  rw [if_neg c4] at h
  by_cases c5 : o = 116
  · subst c5; exact ⟨fun q => absurd rfl q, fun _ => h⟩
  rw [if_neg c5] at h
  by_cases c6 : o = 119
  · subst c6; exact ⟨fun _ => ⟨fun q => absurd rfl q, fun _ => h⟩, fun q => absurd q (by decide)⟩
  rw [if_neg c6] at h
  exact ⟨fun _ => ⟨fun _ => ⟨fun q => absurd q c3, fun _ => ⟨fun q => absurd q c2, fun _ => ⟨fun _ => ⟨fun _ => h, fun q => absurd q c4⟩, fun q => absurd q c1⟩⟩⟩, fun q => absurd q c6⟩, fun q => absurd q c5⟩
theorem r_reads {Q : Int32 → Mem → Prop} {ρ : Mem} {c : Nat → Int32} {l s : Nat} (hl : l ≤ 60) (hs : s < l) (ht : TX c l ρ) (hch : ∀ i, i < l → 32 ≤ c i ∧ c i ≤ 126) (e : ρ 0 10 = nI s) (hq : ∀ ρ', Kr ρ ρ' → ρ' 0 10 = nI (prs c l s).2 → ((prs c l s).1 = true → ρ' 0 15 = c s ∧ ∀ j, j < nof (c s) → ρ' 7 j = pn c l (nof (c s)) (s + 1) j) → Q (if (prs c l s).1 then 1 else 0) ρ') : vc_X8_reads Q ρ := by
  refine ⟨7, r_isAt hl (by omega) ht e ?_⟩
  have body : ∀ z1 : Int32, nof z1 = nof (c s) → (nof (c s) ≠ 0 → z1 = c s) → vl_X8_reads Q 7 0 ρ z1 0 0 := by
    intro z1 hz hz2
    show vb_X8_reads_25 Q (vl_X8_reads Q 6) ρ z1
    refine nm_e (r_numbersOf ?_)
    rw [show up ρ 0 15 z1 0 15 = z1 from by rw [up_at, if_pos ⟨rfl, rfl⟩], hz]
    have hn := nof_le (c s)
    unfold prs at hq
    by_cases z : nof (c s) = 0
    · rw [if_pos z] at hq
      refine ⟨fun q => absurd (by rw [z]; rfl) q, fun _ => hq _ (kr_15 _ _) (by rw [up_nn _ (by omega)]; exact e) (fun q => absurd (show false = true from q) (by decide))⟩
    · rw [if_neg z] at hq
      refine ⟨fun _ => nm_e ?_, fun q => absurd q (ai0 (by omega) z)⟩
      rw [up_nn _ (by omega), e, nI_1]
      obtain ⟨m, hm⟩ : ∃ m, nof (c s) = m + 1 := ⟨nof (c s) - 1, by omega⟩
      refine r_readLoop (w := nof (c s)) hn hl m 0 (s + 1) _ 6 (by omega) (by omega) (by omega) ((ht.kr (kr_15 _ _)).kr (kr_10 _ _)) (by rw [up_at, if_pos ⟨rfl, rfl⟩]) (fun ρ' k' k15 k10 kj kn => ?_) _ (fun r ρ' hr hv => hv)
      rw [← hm] at k10 kn ⊢
      refine hq ρ' (((kr_15 _ _).tr (kr_10 _ _)).tr k') k10 (fun ok => ⟨?_, fun j hj => ?_⟩)
      · rw [k15, up_nn _ (by omega), up_at, if_pos ⟨rfl, rfl⟩]
        exact hz2 z
      · have := kn ok j (by omega)
        rw [Nat.zero_add] at this
        exact this
  have hc := hch s hs
  by_cases q : 33 ≤ c s ∧ c s ≤ 126
  · rw [if_pos ⟨hs, q⟩]
    refine ⟨fun q => absurd q (by decide), fun _ => ?_⟩
    rw [e, nI_clamp (by omega), ht.2 s hs]
    exact ⟨vp_in_nI (by omega) (by omega), body _ rfl (fun _ => rfl)⟩
  · rw [if_neg (fun z => q z.2)]
    have e32 : c s = 32 := by
      have h1 := hc.1
      have h2 : ¬ 33 ≤ c s := fun z => q ⟨z, hc.2⟩
      rw [Int32.le_iff_toInt_le] at h1 h2
      exact Int32.toInt_inj.mp (by
        rw [show (32 : Int32).toInt = 32 from rfl] at h1 ⊢
        rw [show (33 : Int32).toInt = 33 from rfl] at h2
        omega)
    have n0 : nof (c s) = 0 := by rw [e32]; decide
    exact ⟨fun _ => body 0 (by rw [n0]; decide) (fun z => absurd n0 z), fun q => absurd rfl q⟩
