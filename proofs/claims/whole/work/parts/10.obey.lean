theorem dX4_obey_0 : decode cX4_obey 0 = .ok (.iload_n 2, 1) := by decide +kernel
theorem dX4_obey_1 : decode cX4_obey 1 = .ok (.lookupswitch 154 #[(98, 137), (99, 120), (104, 103), (116, 51), (119, 80)], 51) := by decide +kernel
theorem dX4_obey_52 : decode cX4_obey 52 = .ok (.aload_n 1, 1) := by decide +kernel
theorem dX4_obey_53 : decode cX4_obey 53 = .ok (.aload_n 0, 1) := by decide +kernel
theorem dX4_obey_54 : decode cX4_obey 54 = .ok (.getfield 15, 3) := by decide +kernel
theorem dX4_obey_57 : decode cX4_obey 57 = .ok (.iconst 0, 1) := by decide +kernel
theorem dX4_obey_58 : decode cX4_obey 58 = .ok (.iaload, 1) := by decide +kernel
theorem dX4_obey_59 : decode cX4_obey 59 = .ok (.aload_n 0, 1) := by decide +kernel
theorem dX4_obey_60 : decode cX4_obey 60 = .ok (.getfield 15, 3) := by decide +kernel
theorem dX4_obey_63 : decode cX4_obey 63 = .ok (.iconst 1, 1) := by decide +kernel
theorem dX4_obey_64 : decode cX4_obey 64 = .ok (.iaload, 1) := by decide +kernel
theorem dX4_obey_65 : decode cX4_obey 65 = .ok (.aload_n 0, 1) := by decide +kernel
theorem dX4_obey_66 : decode cX4_obey 66 = .ok (.getfield 15, 3) := by decide +kernel
theorem dX4_obey_69 : decode cX4_obey 69 = .ok (.iconst 2, 1) := by decide +kernel
theorem dX4_obey_70 : decode cX4_obey 70 = .ok (.iaload, 1) := by decide +kernel
theorem dX4_obey_71 : decode cX4_obey 71 = .ok (.aload_n 0, 1) := by decide +kernel
theorem dX4_obey_72 : decode cX4_obey 72 = .ok (.getfield 15, 3) := by decide +kernel
theorem dX4_obey_75 : decode cX4_obey 75 = .ok (.iconst 3, 1) := by decide +kernel
theorem dX4_obey_76 : decode cX4_obey 76 = .ok (.iaload, 1) := by decide +kernel
theorem dX4_obey_77 : decode cX4_obey 77 = .ok (.invokevirtual 64, 3) := by decide +kernel
theorem dX4_obey_80 : decode cX4_obey 80 = .ok (.ireturn, 1) := by decide +kernel
theorem dX4_obey_81 : decode cX4_obey 81 = .ok (.aload_n 1, 1) := by decide +kernel
theorem dX4_obey_82 : decode cX4_obey 82 = .ok (.aload_n 0, 1) := by decide +kernel
theorem dX4_obey_83 : decode cX4_obey 83 = .ok (.getfield 15, 3) := by decide +kernel
theorem dX4_obey_86 : decode cX4_obey 86 = .ok (.iconst 0, 1) := by decide +kernel
theorem dX4_obey_87 : decode cX4_obey 87 = .ok (.iaload, 1) := by decide +kernel
theorem dX4_obey_88 : decode cX4_obey 88 = .ok (.aload_n 0, 1) := by decide +kernel
theorem dX4_obey_89 : decode cX4_obey 89 = .ok (.getfield 15, 3) := by decide +kernel
theorem dX4_obey_92 : decode cX4_obey 92 = .ok (.iconst 1, 1) := by decide +kernel
theorem dX4_obey_93 : decode cX4_obey 93 = .ok (.iaload, 1) := by decide +kernel
theorem dX4_obey_94 : decode cX4_obey 94 = .ok (.aload_n 0, 1) := by decide +kernel
theorem dX4_obey_95 : decode cX4_obey 95 = .ok (.getfield 15, 3) := by decide +kernel
theorem dX4_obey_98 : decode cX4_obey 98 = .ok (.iconst 2, 1) := by decide +kernel
theorem dX4_obey_99 : decode cX4_obey 99 = .ok (.iaload, 1) := by decide +kernel
theorem dX4_obey_100 : decode cX4_obey 100 = .ok (.invokevirtual 70, 3) := by decide +kernel
theorem dX4_obey_103 : decode cX4_obey 103 = .ok (.ireturn, 1) := by decide +kernel
theorem dX4_obey_104 : decode cX4_obey 104 = .ok (.aload_n 1, 1) := by decide +kernel
theorem dX4_obey_105 : decode cX4_obey 105 = .ok (.aload_n 0, 1) := by decide +kernel
theorem dX4_obey_106 : decode cX4_obey 106 = .ok (.getfield 15, 3) := by decide +kernel
theorem dX4_obey_109 : decode cX4_obey 109 = .ok (.iconst 0, 1) := by decide +kernel
theorem dX4_obey_110 : decode cX4_obey 110 = .ok (.iaload, 1) := by decide +kernel
theorem dX4_obey_111 : decode cX4_obey 111 = .ok (.aload_n 0, 1) := by decide +kernel
theorem dX4_obey_112 : decode cX4_obey 112 = .ok (.getfield 15, 3) := by decide +kernel
theorem dX4_obey_115 : decode cX4_obey 115 = .ok (.iconst 1, 1) := by decide +kernel
theorem dX4_obey_116 : decode cX4_obey 116 = .ok (.iaload, 1) := by decide +kernel
theorem dX4_obey_117 : decode cX4_obey 117 = .ok (.invokevirtual 74, 3) := by decide +kernel
theorem dX4_obey_120 : decode cX4_obey 120 = .ok (.ireturn, 1) := by decide +kernel
theorem dX4_obey_121 : decode cX4_obey 121 = .ok (.aload_n 1, 1) := by decide +kernel
theorem dX4_obey_122 : decode cX4_obey 122 = .ok (.aload_n 0, 1) := by decide +kernel
theorem dX4_obey_123 : decode cX4_obey 123 = .ok (.getfield 15, 3) := by decide +kernel
theorem dX4_obey_126 : decode cX4_obey 126 = .ok (.iconst 0, 1) := by decide +kernel
theorem dX4_obey_127 : decode cX4_obey 127 = .ok (.iaload, 1) := by decide +kernel
theorem dX4_obey_128 : decode cX4_obey 128 = .ok (.aload_n 0, 1) := by decide +kernel
theorem dX4_obey_129 : decode cX4_obey 129 = .ok (.getfield 15, 3) := by decide +kernel
theorem dX4_obey_132 : decode cX4_obey 132 = .ok (.iconst 1, 1) := by decide +kernel
theorem dX4_obey_133 : decode cX4_obey 133 = .ok (.iaload, 1) := by decide +kernel
theorem dX4_obey_134 : decode cX4_obey 134 = .ok (.invokevirtual 78, 3) := by decide +kernel
theorem dX4_obey_137 : decode cX4_obey 137 = .ok (.ireturn, 1) := by decide +kernel
theorem dX4_obey_138 : decode cX4_obey 138 = .ok (.aload_n 1, 1) := by decide +kernel
theorem dX4_obey_139 : decode cX4_obey 139 = .ok (.aload_n 0, 1) := by decide +kernel
theorem dX4_obey_140 : decode cX4_obey 140 = .ok (.getfield 15, 3) := by decide +kernel
theorem dX4_obey_143 : decode cX4_obey 143 = .ok (.iconst 0, 1) := by decide +kernel
theorem dX4_obey_144 : decode cX4_obey 144 = .ok (.iaload, 1) := by decide +kernel
theorem dX4_obey_145 : decode cX4_obey 145 = .ok (.aload_n 0, 1) := by decide +kernel
theorem dX4_obey_146 : decode cX4_obey 146 = .ok (.getfield 15, 3) := by decide +kernel
theorem dX4_obey_149 : decode cX4_obey 149 = .ok (.iconst 1, 1) := by decide +kernel
theorem dX4_obey_150 : decode cX4_obey 150 = .ok (.iaload, 1) := by decide +kernel
theorem dX4_obey_151 : decode cX4_obey 151 = .ok (.invokevirtual 81, 3) := by decide +kernel
theorem dX4_obey_154 : decode cX4_obey 154 = .ok (.ireturn, 1) := by decide +kernel
theorem dX4_obey_155 : decode cX4_obey 155 = .ok (.aload_n 1, 1) := by decide +kernel
theorem dX4_obey_156 : decode cX4_obey 156 = .ok (.aload_n 0, 1) := by decide +kernel
theorem dX4_obey_157 : decode cX4_obey 157 = .ok (.getfield 15, 3) := by decide +kernel
theorem dX4_obey_160 : decode cX4_obey 160 = .ok (.iconst 0, 1) := by decide +kernel
theorem dX4_obey_161 : decode cX4_obey 161 = .ok (.iaload, 1) := by decide +kernel
theorem dX4_obey_162 : decode cX4_obey 162 = .ok (.invokevirtual 84, 3) := by decide +kernel
theorem dX4_obey_165 : decode cX4_obey 165 = .ok (.ireturn, 1) := by decide +kernel
def vc_X4_obey (Q : Int32 → Mem → Prop) (ο : Mem) (γ : Mem) (x2 : Int32) : Prop :=
  ((x2 = 98) → (((vc_X1_buyContract (fun r2 γ3 => Q r2 γ3) γ (ο 2 (0 : Int32).toNatClampNeg) (ο 2 (1 : Int32).toNatClampNeg))))) ∧ ((¬ x2 = 98) → (((x2 = 99) → (((vc_X1_layContract (fun r5 γ6 => Q r5 γ6) γ (ο 2 (0 : Int32).toNatClampNeg) (ο 2 (1 : Int32).toNatClampNeg))))) ∧ ((¬ x2 = 99) → (((x2 = 104) → (((vc_X1_takeHome (fun r8 γ9 => Q r8 γ9) γ (ο 2 (0 : Int32).toNatClampNeg) (ο 2 (1 : Int32).toNatClampNeg))))) ∧ ((¬ x2 = 104) → (((x2 = 116) → (((((vc_X1_addTask (fun r11 γ12 => Q r11 γ12) γ (ο 2 (0 : Int32).toNatClampNeg) (ο 2 (1 : Int32).toNatClampNeg) (ο 2 (2 : Int32).toNatClampNeg) (ο 2 (3 : Int32).toNatClampNeg))))))) ∧ ((¬ x2 = 116) → (((x2 = 119) → ((((vc_X1_putWorker (fun r14 γ15 => Q r14 γ15) γ (ο 2 (0 : Int32).toNatClampNeg) (ο 2 (1 : Int32).toNatClampNeg) (ο 2 (2 : Int32).toNatClampNeg)))))) ∧ ((¬ x2 = 119) → ((vc_X1_letPass (fun r16 γ17 => Q r16 γ17) γ (ο 2 (0 : Int32).toNatClampNeg))))))))))))
set_option maxHeartbeats 8000000 in
set_option maxRecDepth 100000 in
theorem m_X4_obey (l : Launch) (G : GG) (aO : Nat) (aG : Nat) (ο : Mem) (γ : Mem) (x2 : Int32) (hd : aO + 3 ≤ aG ∨ aG + 22 ≤ aO) (Q : Int32 → Mem → Prop) (h : vc_X4_obey Q ο γ x2) : CtI l yX4_obey cX4_obey 3 (some .int) { frames := 5, cells := 0, slots := 0, locals := 116 } [.ref (aO + 0), .ref (aG + 0), .int x2] G (fun H => rg G LO aO ο H ∧ rg G LG aG γ H) (Q) (fun u H => rg G LG aG u H) (RA aG 22) := by
  unfold CtI
  refine met_start (y := yX4_obey) (maxL := 3) (av := [.ref (aO + 0), .ref (aG + 0), .int x2]) (G := G) (P := fun H => rg G LO aO ο H ∧ rg G LG aG γ H) (by decide) rfl (Nat.le_of_ble_eq_true rfl) (fun p e s m below meth c ls C hr hP hK hl => ?_)
  obtain ⟨hx, hb, hml, hown, hts, hlocks⟩ := id C
  obtain ⟨hO, hG⟩ := hP
  have hS : va_S (RA aG 22) s.heap s.heap [] := va_S.rf
  have hl : lv_has ls 3 [(0, .ref (aO + 0)), (1, .ref (aG + 0)), (2, .int x2)] := hl
  unfold vc_X4_obey at h
  refine lv_iload_n hx hb dX4_obey_0 rfl (lv_at hl 2 rfl) ?_
  by_cases c1 : x2 = 98
  · replace h := h.1 c1
    refine lv_lookup (off := 137) (tgt := 138) hx hb dX4_obey_1 (by decide) (by rw [c1]; rfl) (by decide) ?_
    refine lv_aload_n hx hb dX4_obey_138 rfl (lv_at hl 1 rfl) ?_
    refine lv_aload_n hx hb dX4_obey_139 rfl (lv_at hl 0 rfl) ?_
    refine g_getR (a := aO) (k := 0) (o := 2) C hK hO fl_X4_15 rfl rfl dX4_obey_140 ?_
    refine lv_iconst (v := 0) hx hb dX4_obey_143 (by decide) ?_
    refine g_ald (a := aO) (k := 2) (n := 4) C hK hO rfl (vp_dec (by decide)) dX4_obey_144 ?_
    refine lv_aload_n hx hb dX4_obey_145 rfl (lv_at hl 0 rfl) ?_
    refine g_getR (a := aO) (k := 0) (o := 2) C hK hO fl_X4_15 rfl rfl dX4_obey_146 ?_
    refine lv_iconst (v := 1) hx hb dX4_obey_149 (by decide) ?_
    refine g_ald (a := aO) (k := 2) (n := 4) C hK hO rfl (vp_dec (by decide)) dX4_obey_150 ?_
    refine g_vI C hK hl.1 (m_X1_buyContract l G aG γ (ο 2 (0 : Int32).toNatClampNeg) (ο 2 (1 : Int32).toNatClampNeg) _ h) mw_X1_buyContract mi_X1_buyContract ml_X4_81 rfl ⟨rfl, rfl, Nat.le_of_ble_eq_true rfl, Nat.le_of_ble_eq_true rfl⟩ ⟨Nat.zero_le _, Nat.zero_le _⟩ (g_recv (a := aG) (k := 0) hK hG rfl rfl) hG hS (fun _ h => h) rfl (Nat.le_of_ble_eq_true rfl) dX4_obey_151 (fun r2 u H locs h hu _ hq hS => ?_)
    obtain ⟨γ3, rfl⟩ : ∃ z, z = u := ⟨_, rfl⟩
    have hG := hu
    have hO := hO.past hq (fun j hj h => by have hj : j < 3 := hj; simp only [RA] at h; omega)
    exact g_iret (post := Q) (P' := fun u H => rg G LG aG u H) (r := r2) (u := γ3) C hr hK hS h hG dX4_obey_154
  · replace h := h.2 c1
    by_cases c4 : x2 = 99
    · replace h := h.1 c4
      refine lv_lookup (off := 120) (tgt := 121) hx hb dX4_obey_1 (by decide) (by rw [c4]; rfl) (by decide) ?_
      refine lv_aload_n hx hb dX4_obey_121 rfl (lv_at hl 1 rfl) ?_
      refine lv_aload_n hx hb dX4_obey_122 rfl (lv_at hl 0 rfl) ?_
      refine g_getR (a := aO) (k := 0) (o := 2) C hK hO fl_X4_15 rfl rfl dX4_obey_123 ?_
      refine lv_iconst (v := 0) hx hb dX4_obey_126 (by decide) ?_
      refine g_ald (a := aO) (k := 2) (n := 4) C hK hO rfl (vp_dec (by decide)) dX4_obey_127 ?_
      refine lv_aload_n hx hb dX4_obey_128 rfl (lv_at hl 0 rfl) ?_
      refine g_getR (a := aO) (k := 0) (o := 2) C hK hO fl_X4_15 rfl rfl dX4_obey_129 ?_
      refine lv_iconst (v := 1) hx hb dX4_obey_132 (by decide) ?_
      refine g_ald (a := aO) (k := 2) (n := 4) C hK hO rfl (vp_dec (by decide)) dX4_obey_133 ?_
      refine g_vI C hK hl.1 (m_X1_layContract l G aG γ (ο 2 (0 : Int32).toNatClampNeg) (ο 2 (1 : Int32).toNatClampNeg) _ h) mw_X1_layContract mi_X1_layContract ml_X4_78 rfl ⟨rfl, rfl, Nat.le_of_ble_eq_true rfl, Nat.le_of_ble_eq_true rfl⟩ ⟨Nat.zero_le _, Nat.zero_le _⟩ (g_recv (a := aG) (k := 0) hK hG rfl rfl) hG hS (fun _ h => h) rfl (Nat.le_of_ble_eq_true rfl) dX4_obey_134 (fun r5 u H locs h hu _ hq hS => ?_)
      obtain ⟨γ6, rfl⟩ : ∃ z, z = u := ⟨_, rfl⟩
      have hG := hu
      have hO := hO.past hq (fun j hj h => by have hj : j < 3 := hj; simp only [RA] at h; omega)
      exact g_iret (post := Q) (P' := fun u H => rg G LG aG u H) (r := r5) (u := γ6) C hr hK hS h hG dX4_obey_137
    · replace h := h.2 c4
      by_cases c7 : x2 = 104
      · replace h := h.1 c7
        refine lv_lookup (off := 103) (tgt := 104) hx hb dX4_obey_1 (by decide) (by rw [c7]; rfl) (by decide) ?_
        refine lv_aload_n hx hb dX4_obey_104 rfl (lv_at hl 1 rfl) ?_
        refine lv_aload_n hx hb dX4_obey_105 rfl (lv_at hl 0 rfl) ?_
        refine g_getR (a := aO) (k := 0) (o := 2) C hK hO fl_X4_15 rfl rfl dX4_obey_106 ?_
        refine lv_iconst (v := 0) hx hb dX4_obey_109 (by decide) ?_
        refine g_ald (a := aO) (k := 2) (n := 4) C hK hO rfl (vp_dec (by decide)) dX4_obey_110 ?_
        refine lv_aload_n hx hb dX4_obey_111 rfl (lv_at hl 0 rfl) ?_
        refine g_getR (a := aO) (k := 0) (o := 2) C hK hO fl_X4_15 rfl rfl dX4_obey_112 ?_
        refine lv_iconst (v := 1) hx hb dX4_obey_115 (by decide) ?_
        refine g_ald (a := aO) (k := 2) (n := 4) C hK hO rfl (vp_dec (by decide)) dX4_obey_116 ?_
        refine g_vI C hK hl.1 (m_X1_takeHome l G aG γ (ο 2 (0 : Int32).toNatClampNeg) (ο 2 (1 : Int32).toNatClampNeg) _ h) mw_X1_takeHome mi_X1_takeHome ml_X4_74 rfl ⟨rfl, rfl, Nat.le_of_ble_eq_true rfl, Nat.le_of_ble_eq_true rfl⟩ ⟨Nat.zero_le _, Nat.zero_le _⟩ (g_recv (a := aG) (k := 0) hK hG rfl rfl) hG hS (fun _ h => h) rfl (Nat.le_of_ble_eq_true rfl) dX4_obey_117 (fun r8 u H locs h hu _ hq hS => ?_)
        obtain ⟨γ9, rfl⟩ : ∃ z, z = u := ⟨_, rfl⟩
        have hG := hu
        have hO := hO.past hq (fun j hj h => by have hj : j < 3 := hj; simp only [RA] at h; omega)
        exact g_iret (post := Q) (P' := fun u H => rg G LG aG u H) (r := r8) (u := γ9) C hr hK hS h hG dX4_obey_120
      · replace h := h.2 c7
        by_cases c10 : x2 = 116
        · replace h := h.1 c10
          refine lv_lookup (off := 51) (tgt := 52) hx hb dX4_obey_1 (by decide) (by rw [c10]; rfl) (by decide) ?_
          refine lv_aload_n hx hb dX4_obey_52 rfl (lv_at hl 1 rfl) ?_
          refine lv_aload_n hx hb dX4_obey_53 rfl (lv_at hl 0 rfl) ?_
          refine g_getR (a := aO) (k := 0) (o := 2) C hK hO fl_X4_15 rfl rfl dX4_obey_54 ?_
          refine lv_iconst (v := 0) hx hb dX4_obey_57 (by decide) ?_
          refine g_ald (a := aO) (k := 2) (n := 4) C hK hO rfl (vp_dec (by decide)) dX4_obey_58 ?_
          refine lv_aload_n hx hb dX4_obey_59 rfl (lv_at hl 0 rfl) ?_
          refine g_getR (a := aO) (k := 0) (o := 2) C hK hO fl_X4_15 rfl rfl dX4_obey_60 ?_
          refine lv_iconst (v := 1) hx hb dX4_obey_63 (by decide) ?_
          refine g_ald (a := aO) (k := 2) (n := 4) C hK hO rfl (vp_dec (by decide)) dX4_obey_64 ?_
          refine lv_aload_n hx hb dX4_obey_65 rfl (lv_at hl 0 rfl) ?_
          refine g_getR (a := aO) (k := 0) (o := 2) C hK hO fl_X4_15 rfl rfl dX4_obey_66 ?_
          refine lv_iconst (v := 2) hx hb dX4_obey_69 (by decide) ?_
          refine g_ald (a := aO) (k := 2) (n := 4) C hK hO rfl (vp_dec (by decide)) dX4_obey_70 ?_
          refine lv_aload_n hx hb dX4_obey_71 rfl (lv_at hl 0 rfl) ?_
          refine g_getR (a := aO) (k := 0) (o := 2) C hK hO fl_X4_15 rfl rfl dX4_obey_72 ?_
          refine lv_iconst (v := 3) hx hb dX4_obey_75 (by decide) ?_
          refine g_ald (a := aO) (k := 2) (n := 4) C hK hO rfl (vp_dec (by decide)) dX4_obey_76 ?_
          refine g_vI C hK hl.1 (m_X1_addTask l G aG γ (ο 2 (0 : Int32).toNatClampNeg) (ο 2 (1 : Int32).toNatClampNeg) (ο 2 (2 : Int32).toNatClampNeg) (ο 2 (3 : Int32).toNatClampNeg) _ h) mw_X1_addTask mi_X1_addTask ml_X4_64 rfl ⟨rfl, rfl, Nat.le_of_ble_eq_true rfl, Nat.le_of_ble_eq_true rfl⟩ ⟨Nat.zero_le _, Nat.zero_le _⟩ (g_recv (a := aG) (k := 0) hK hG rfl rfl) hG hS (fun _ h => h) rfl (Nat.le_of_ble_eq_true rfl) dX4_obey_77 (fun r11 u H locs h hu _ hq hS => ?_)
          obtain ⟨γ12, rfl⟩ : ∃ z, z = u := ⟨_, rfl⟩
          have hG := hu
          have hO := hO.past hq (fun j hj h => by have hj : j < 3 := hj; simp only [RA] at h; omega)
          exact g_iret (post := Q) (P' := fun u H => rg G LG aG u H) (r := r11) (u := γ12) C hr hK hS h hG dX4_obey_80
        · replace h := h.2 c10
          by_cases c13 : x2 = 119
          · replace h := h.1 c13
            refine lv_lookup (off := 80) (tgt := 81) hx hb dX4_obey_1 (by decide) (by rw [c13]; rfl) (by decide) ?_
            refine lv_aload_n hx hb dX4_obey_81 rfl (lv_at hl 1 rfl) ?_
            refine lv_aload_n hx hb dX4_obey_82 rfl (lv_at hl 0 rfl) ?_
            refine g_getR (a := aO) (k := 0) (o := 2) C hK hO fl_X4_15 rfl rfl dX4_obey_83 ?_
            refine lv_iconst (v := 0) hx hb dX4_obey_86 (by decide) ?_
            refine g_ald (a := aO) (k := 2) (n := 4) C hK hO rfl (vp_dec (by decide)) dX4_obey_87 ?_
            refine lv_aload_n hx hb dX4_obey_88 rfl (lv_at hl 0 rfl) ?_
            refine g_getR (a := aO) (k := 0) (o := 2) C hK hO fl_X4_15 rfl rfl dX4_obey_89 ?_
            refine lv_iconst (v := 1) hx hb dX4_obey_92 (by decide) ?_
            refine g_ald (a := aO) (k := 2) (n := 4) C hK hO rfl (vp_dec (by decide)) dX4_obey_93 ?_
            refine lv_aload_n hx hb dX4_obey_94 rfl (lv_at hl 0 rfl) ?_
            refine g_getR (a := aO) (k := 0) (o := 2) C hK hO fl_X4_15 rfl rfl dX4_obey_95 ?_
            refine lv_iconst (v := 2) hx hb dX4_obey_98 (by decide) ?_
            refine g_ald (a := aO) (k := 2) (n := 4) C hK hO rfl (vp_dec (by decide)) dX4_obey_99 ?_
            refine g_vI C hK hl.1 (m_X1_putWorker l G aG γ (ο 2 (0 : Int32).toNatClampNeg) (ο 2 (1 : Int32).toNatClampNeg) (ο 2 (2 : Int32).toNatClampNeg) _ h) mw_X1_putWorker mi_X1_putWorker ml_X4_70 rfl ⟨rfl, rfl, Nat.le_of_ble_eq_true rfl, Nat.le_of_ble_eq_true rfl⟩ ⟨Nat.zero_le _, Nat.zero_le _⟩ (g_recv (a := aG) (k := 0) hK hG rfl rfl) hG hS (fun _ h => h) rfl (Nat.le_of_ble_eq_true rfl) dX4_obey_100 (fun r14 u H locs h hu _ hq hS => ?_)
            obtain ⟨γ15, rfl⟩ : ∃ z, z = u := ⟨_, rfl⟩
            have hG := hu
            have hO := hO.past hq (fun j hj h => by have hj : j < 3 := hj; simp only [RA] at h; omega)
            exact g_iret (post := Q) (P' := fun u H => rg G LG aG u H) (r := r14) (u := γ15) C hr hK hS h hG dX4_obey_103
          · replace h := h.2 c13
            refine lv_lookup (off := 154) (tgt := 155) hx hb dX4_obey_1 (by decide) (by simp only [List.toList_toArray]; rw [lv_osw c1 (by rfl), lv_osw c4 (by rfl), lv_osw c7 (by rfl), lv_osw c10 (by rfl), lv_osw c13 (by rfl)]; rfl) (by decide) ?_
            refine lv_aload_n hx hb dX4_obey_155 rfl (lv_at hl 1 rfl) ?_
            refine lv_aload_n hx hb dX4_obey_156 rfl (lv_at hl 0 rfl) ?_
            refine g_getR (a := aO) (k := 0) (o := 2) C hK hO fl_X4_15 rfl rfl dX4_obey_157 ?_
            refine lv_iconst (v := 0) hx hb dX4_obey_160 (by decide) ?_
            refine g_ald (a := aO) (k := 2) (n := 4) C hK hO rfl (vp_dec (by decide)) dX4_obey_161 ?_
            refine g_vI C hK hl.1 (m_X1_letPass l G aG γ (ο 2 (0 : Int32).toNatClampNeg) _ h) mw_X1_letPass mi_X1_letPass ml_X4_84 rfl ⟨rfl, rfl, Nat.le_of_ble_eq_true rfl, Nat.le_of_ble_eq_true rfl⟩ ⟨Nat.zero_le _, Nat.zero_le _⟩ (g_recv (a := aG) (k := 0) hK hG rfl rfl) hG hS (fun _ h => h) rfl (Nat.le_of_ble_eq_true rfl) dX4_obey_162 (fun r16 u H locs h hu _ hq hS => ?_)
            obtain ⟨γ17, rfl⟩ : ∃ z, z = u := ⟨_, rfl⟩
            have hG := hu
            have hO := hO.past hq (fun j hj h => by have hj : j < 3 := hj; simp only [RA] at h; omega)
            exact g_iret (post := Q) (P' := fun u H => rg G LG aG u H) (r := r16) (u := γ17) C hr hK hS h hG dX4_obey_165
theorem dX4_obeyAll_0 : decode cX4_obeyAll 0 = .ok (.aload_n 0, 1) := by decide +kernel
theorem dX4_obeyAll_1 : decode cX4_obeyAll 1 = .ok (.iconst 0, 1) := by decide +kernel
theorem dX4_obeyAll_2 : decode cX4_obeyAll 2 = .ok (.putfield 23, 3) := by decide +kernel
theorem dX4_obeyAll_5 : decode cX4_obeyAll 5 = .ok (.aload_n 0, 1) := by decide +kernel
theorem dX4_obeyAll_6 : decode cX4_obeyAll 6 = .ok (.iconst 0, 1) := by decide +kernel
theorem dX4_obeyAll_7 : decode cX4_obeyAll 7 = .ok (.putfield 26, 3) := by decide +kernel
theorem dX4_obeyAll_10 : decode cX4_obeyAll 10 = .ok (.aload_n 0, 1) := by decide +kernel
theorem dX4_obeyAll_11 : decode cX4_obeyAll 11 = .ok (.getfield 26, 3) := by decide +kernel
theorem dX4_obeyAll_14 : decode cX4_obeyAll 14 = .ok (.aload_n 0, 1) := by decide +kernel
theorem dX4_obeyAll_15 : decode cX4_obeyAll 15 = .ok (.getfield 18, 3) := by decide +kernel
theorem dX4_obeyAll_18 : decode cX4_obeyAll 18 = .ok (.if_icmp .ge 90, 3) := by decide +kernel
theorem dX4_obeyAll_21 : decode cX4_obeyAll 21 = .ok (.aload_n 0, 1) := by decide +kernel
theorem dX4_obeyAll_22 : decode cX4_obeyAll 22 = .ok (.getfield 23, 3) := by decide +kernel
theorem dX4_obeyAll_25 : decode cX4_obeyAll 25 = .ok (.bipush 60, 2) := by decide +kernel
theorem dX4_obeyAll_27 : decode cX4_obeyAll 27 = .ok (.if_icmp .ge 81, 3) := by decide +kernel
theorem dX4_obeyAll_30 : decode cX4_obeyAll 30 = .ok (.aload_n 0, 1) := by decide +kernel
theorem dX4_obeyAll_31 : decode cX4_obeyAll 31 = .ok (.aload_n 0, 1) := by decide +kernel
theorem dX4_obeyAll_32 : decode cX4_obeyAll 32 = .ok (.getfield 26, 3) := by decide +kernel
theorem dX4_obeyAll_35 : decode cX4_obeyAll 35 = .ok (.putfield 29, 3) := by decide +kernel
theorem dX4_obeyAll_38 : decode cX4_obeyAll 38 = .ok (.aload_n 0, 1) := by decide +kernel
theorem dX4_obeyAll_39 : decode cX4_obeyAll 39 = .ok (.invokevirtual 32, 3) := by decide +kernel
theorem dX4_obeyAll_42 : decode cX4_obeyAll 42 = .ok (.ifCond .ne 23, 3) := by decide +kernel
theorem dX4_obeyAll_45 : decode cX4_obeyAll 45 = .ok (.aload_n 0, 1) := by decide +kernel
theorem dX4_obeyAll_46 : decode cX4_obeyAll 46 = .ok (.iconst 1, 1) := by decide +kernel
theorem dX4_obeyAll_47 : decode cX4_obeyAll 47 = .ok (.putfield 36, 3) := by decide +kernel
theorem dX4_obeyAll_50 : decode cX4_obeyAll 50 = .ok (.aload_n 0, 1) := by decide +kernel
theorem dX4_obeyAll_51 : decode cX4_obeyAll 51 = .ok (.aload_n 0, 1) := by decide +kernel
theorem dX4_obeyAll_52 : decode cX4_obeyAll 52 = .ok (.getfield 26, 3) := by decide +kernel
theorem dX4_obeyAll_55 : decode cX4_obeyAll 55 = .ok (.aload_n 0, 1) := by decide +kernel
theorem dX4_obeyAll_56 : decode cX4_obeyAll 56 = .ok (.getfield 29, 3) := by decide +kernel
theorem dX4_obeyAll_59 : decode cX4_obeyAll 59 = .ok (.isub, 1) := by decide +kernel
theorem dX4_obeyAll_60 : decode cX4_obeyAll 60 = .ok (.putfield 39, 3) := by decide +kernel
theorem dX4_obeyAll_63 : decode cX4_obeyAll 63 = .ok (.iconst 0, 1) := by decide +kernel
theorem dX4_obeyAll_64 : decode cX4_obeyAll 64 = .ok (.ireturn, 1) := by decide +kernel
theorem dX4_obeyAll_65 : decode cX4_obeyAll 65 = .ok (.aload_n 0, 1) := by decide +kernel
theorem dX4_obeyAll_66 : decode cX4_obeyAll 66 = .ok (.aload_n 1, 1) := by decide +kernel
theorem dX4_obeyAll_67 : decode cX4_obeyAll 67 = .ok (.aload_n 0, 1) := by decide +kernel
theorem dX4_obeyAll_68 : decode cX4_obeyAll 68 = .ok (.aload_n 0, 1) := by decide +kernel
theorem dX4_obeyAll_69 : decode cX4_obeyAll 69 = .ok (.getfield 29, 3) := by decide +kernel
theorem dX4_obeyAll_72 : decode cX4_obeyAll 72 = .ok (.invokevirtual 42, 3) := by decide +kernel
theorem dX4_obeyAll_75 : decode cX4_obeyAll 75 = .ok (.invokevirtual 46, 3) := by decide +kernel
theorem dX4_obeyAll_78 : decode cX4_obeyAll 78 = .ok (.istore_n 2, 1) := by decide +kernel
theorem dX4_obeyAll_79 : decode cX4_obeyAll 79 = .ok (.iload_n 2, 1) := by decide +kernel
theorem dX4_obeyAll_80 : decode cX4_obeyAll 80 = .ok (.ifCond .ge 15, 3) := by decide +kernel
theorem dX4_obeyAll_83 : decode cX4_obeyAll 83 = .ok (.aload_n 0, 1) := by decide +kernel
theorem dX4_obeyAll_84 : decode cX4_obeyAll 84 = .ok (.iconst 2, 1) := by decide +kernel
theorem dX4_obeyAll_85 : decode cX4_obeyAll 85 = .ok (.putfield 36, 3) := by decide +kernel
theorem dX4_obeyAll_88 : decode cX4_obeyAll 88 = .ok (.aload_n 0, 1) := by decide +kernel
theorem dX4_obeyAll_89 : decode cX4_obeyAll 89 = .ok (.iload_n 2, 1) := by decide +kernel
theorem dX4_obeyAll_90 : decode cX4_obeyAll 90 = .ok (.putfield 39, 3) := by decide +kernel
theorem dX4_obeyAll_93 : decode cX4_obeyAll 93 = .ok (.iconst 0, 1) := by decide +kernel
theorem dX4_obeyAll_94 : decode cX4_obeyAll 94 = .ok (.ireturn, 1) := by decide +kernel
theorem dX4_obeyAll_95 : decode cX4_obeyAll 95 = .ok (.aload_n 0, 1) := by decide +kernel
theorem dX4_obeyAll_96 : decode cX4_obeyAll 96 = .ok (.dup, 1) := by decide +kernel
theorem dX4_obeyAll_97 : decode cX4_obeyAll 97 = .ok (.getfield 23, 3) := by decide +kernel
theorem dX4_obeyAll_100 : decode cX4_obeyAll 100 = .ok (.iconst 1, 1) := by decide +kernel
theorem dX4_obeyAll_101 : decode cX4_obeyAll 101 = .ok (.iadd, 1) := by decide +kernel
theorem dX4_obeyAll_102 : decode cX4_obeyAll 102 = .ok (.putfield 23, 3) := by decide +kernel
theorem dX4_obeyAll_105 : decode cX4_obeyAll 105 = .ok (.goto (-95), 3) := by decide +kernel
theorem dX4_obeyAll_108 : decode cX4_obeyAll 108 = .ok (.iconst 1, 1) := by decide +kernel
theorem dX4_obeyAll_109 : decode cX4_obeyAll 109 = .ok (.ireturn, 1) := by decide +kernel
def vb_X4_obeyAll_10 (Q : Int32 → Mem → Mem → Prop) (rec : Nat → Mem → Mem → Prop) (ο : Mem) (γ : Mem) : Prop :=
  (((ο 0 0) ≤ (ο 0 5)) → (Q 1 ο γ)) ∧ ((¬ (ο 0 0) ≤ (ο 0 5)) → (((60 ≤ (ο 0 1)) → (Q 1 ο γ)) ∧ ((¬ 60 ≤ (ο 0 1)) → (∀ ο5 : Mem, ο5 = up ο 0 2 (ο 0 5) → (vc_X4_readOrder (fun r6 ο7 => ((¬ r6 = 0) → (vc_X4_signAt (fun r9 => vc_X4_obey (fun r10 γ11 => ((0 ≤ r10) → (∀ ο13 : Mem, ο13 = up ο7 0 1 ((ο7 0 1) + 1) → (rec 0 ο13 γ11))) ∧ ((¬ 0 ≤ r10) → (∀ ο14 : Mem, ο14 = up ο7 0 3 2 → (∀ ο15 : Mem, ο15 = up ο14 0 4 r10 → (Q 0 ο15 γ11))))) ο7 γ r9) ο7 (ο7 0 2))) ∧ ((r6 = 0) → (∀ ο16 : Mem, ο16 = up ο7 0 3 1 → (∀ ο17 : Mem, ο17 = up ο16 0 4 ((ο16 0 5) - (ο16 0 2)) → (Q 0 ο17 γ))))) ο5)))))
def vl_X4_obeyAll (Q : Int32 → Mem → Mem → Prop) : Nat → Nat → Mem → Mem → Prop
  | 0, _, _, _ => False
  | n + 1, 0, ο, γ => vb_X4_obeyAll_10 Q (vl_X4_obeyAll Q n) ο γ
  | _ + 1, _, _, _ => False
def vc_X4_obeyAll (Q : Int32 → Mem → Mem → Prop) (ο : Mem) (γ : Mem) : Prop :=
  ∃ n : Nat, ∀ ο1 : Mem, ο1 = up ο 0 1 0 → (∀ ο2 : Mem, ο2 = up ο1 0 5 0 → (vl_X4_obeyAll Q n 0 ο2 γ))
set_option maxHeartbeats 8000000 in
set_option maxRecDepth 100000 in
theorem m_X4_obeyAll (l : Launch) (G : GG) (aO : Nat) (aG : Nat) (ο : Mem) (γ : Mem) (hd : aO + 3 ≤ aG ∨ aG + 22 ≤ aO) (Q : Int32 → Mem → Mem → Prop) (h : vc_X4_obeyAll Q ο γ) : CtI l yX4_obeyAll cX4_obeyAll 3 (some .boolean) { frames := 6, cells := 0, slots := 0, locals := 138 } [.ref (aO + 0), .ref (aG + 0)] G (fun H => rg G LO aO ο H ∧ rg G LG aG γ H) (fun r (u : Mem × Mem) => Q r u.1 u.2) (fun (u : Mem × Mem) H => rg G LO aO u.1 H ∧ rg G LG aG u.2 H) (fun q => RA aO 3 q ∨ RA aG 22 q) := by
  unfold CtI
  refine met_start (y := yX4_obeyAll) (maxL := 3) (av := [.ref (aO + 0), .ref (aG + 0)]) (G := G) (P := fun H => rg G LO aO ο H ∧ rg G LG aG γ H) (by decide) rfl (Nat.le_of_ble_eq_true rfl) (fun p e s m below meth c ls C hr hP hK hl => ?_)
  obtain ⟨hx, hb, hml, hown, hts, hlocks⟩ := id C
  obtain ⟨hO, hG⟩ := hP
  have hS : va_S (fun q => RA aO 3 q ∨ RA aG 22 q) s.heap s.heap [] := va_S.rf
  have hl : lv_has ls 3 [(0, .ref (aO + 0)), (1, .ref (aG + 0))] := hl
  have K : ∀ n : Nat, (∀ (ο : Mem) (γ : Mem) (H : Heap) (locs : List Loc) (ls : Array Slot), rg G LO aO ο H → rg G LG aG γ H → va_S (fun q => RA aO 3 q ∨ RA aG 22 q) s.heap H locs → lv_has ls 3 [(0, .ref (aO + 0)), (1, .ref (aG + 0))] → vl_X4_obeyAll Q n 0 ο γ → W p l e { frames := 6, cells := 0, slots := 0, locals := 138 } s m [.ref (aO + 0), .ref (aG + 0)].toArray below meth c H locs 0 0 (MQ below (va_Qi (fun r (u : Mem × Mem) => Q r u.1 u.2) (fun u t => (fun (u : Mem × Mem) H => rg G LO aO u.1 H ∧ rg G LG aG u.2 H) u t.heap ∧ KK G t) (fun q => RA aO 3 q ∨ RA aG 22 q)) [.ref (aO + 0), .ref (aG + 0)].toArray s 0 0 (fun q => RA aO 3 q ∨ RA aG 22 q)) (F0 m 10 ls [])) := by
    intro n
    induction n with
    | zero => exact fun _ _ _ _ _ _ _ _ _ h => h.elim
    | succ n ih =>
      · intro ο γ H locs ls hO hG hS hl h
        replace h : vb_X4_obeyAll_10 Q (vl_X4_obeyAll Q n) ο γ := h
        unfold vb_X4_obeyAll_10 at h
        refine lv_aload_n hx hb dX4_obeyAll_10 rfl (lv_at hl 0 rfl) ?_
        refine g_getI (a := aO) (k := 0) C hK hO fl_X4_26 rfl rfl dX4_obeyAll_11 ?_
        refine lv_aload_n hx hb dX4_obeyAll_14 rfl (lv_at hl 0 rfl) ?_
        refine g_getI (a := aO) (k := 0) C hK hO fl_X4_18 rfl rfl dX4_obeyAll_15 ?_
        refine lv_icmp_ge (tgt := 108) hx hb dX4_obeyAll_18 (by decide) (fun c3 => ?_) (fun c3 => ?_)
        · replace h := h.1 c3
          refine lv_iconst (v := 1) hx hb dX4_obeyAll_108 (by decide) ?_
          exact g_zret (post := fun r (u : Mem × Mem) => Q r u.1 u.2) (P' := fun (u : Mem × Mem) H => rg G LO aO u.1 H ∧ rg G LG aG u.2 H) (r := 1) (u := (ο, γ)) C hr hK hS (by rfl) h ⟨hO, hG⟩ dX4_obeyAll_109
        · replace h := h.2 c3
          refine lv_aload_n hx hb dX4_obeyAll_21 rfl (lv_at hl 0 rfl) ?_
          refine g_getI (a := aO) (k := 0) C hK hO fl_X4_23 rfl rfl dX4_obeyAll_22 ?_
          refine lv_bipush (v := 60) hx hb dX4_obeyAll_25 (by decide) ?_
          refine lv_icmp_ge (tgt := 108) hx hb dX4_obeyAll_27 (by decide) (fun c4 => ?_) (fun c4 => ?_)
          · replace h := h.1 c4
            refine lv_iconst (v := 1) hx hb dX4_obeyAll_108 (by decide) ?_
            exact g_zret (post := fun r (u : Mem × Mem) => Q r u.1 u.2) (P' := fun (u : Mem × Mem) H => rg G LO aO u.1 H ∧ rg G LG aG u.2 H) (r := 1) (u := (ο, γ)) C hr hK hS (by rfl) h ⟨hO, hG⟩ dX4_obeyAll_109
          · replace h := h.2 c4
            refine lv_aload_n hx hb dX4_obeyAll_30 rfl (lv_at hl 0 rfl) ?_
            refine lv_aload_n hx hb dX4_obeyAll_31 rfl (lv_at hl 0 rfl) ?_
            refine g_getI (a := aO) (k := 0) C hK hO fl_X4_26 rfl rfl dX4_obeyAll_32 ?_
            refine g_put (a := aO) (k := 0) C hK hO hS fl_X4_29 fp_X4_2 rfl rfl (by rfl) (by rfl) (by first | exact Or.inl (RA_in (by decide)) | exact Or.inr (RA_in (by decide))) dX4_obeyAll_35 (fun ο5 H locs eο5 hO hS hq => ?_)
            specialize h ο5 eο5
            have hG := hG.kept (fun j hj => hq _ (by have hj : j < 22 := hj; omega))
            refine lv_aload_n hx hb dX4_obeyAll_38 rfl (lv_at hl 0 rfl) ?_
            refine g_vI C hK hl.1 (m_X4_readOrder l G aO ο5 _ h) mw_X4_readOrder mi_X4_readOrder ml_X4_32 rfl ⟨rfl, rfl, Nat.le_of_ble_eq_true rfl, Nat.le_of_ble_eq_true rfl⟩ ⟨Nat.zero_le _, Nat.zero_le _⟩ (g_recv (a := aO) (k := 0) hK hO rfl rfl) hO hS (fun q h => by first | exact Or.inl h | exact Or.inr h) rfl (Nat.le_of_ble_eq_true rfl) dX4_obeyAll_39 (fun r6 u H locs h hu _ hq hS => ?_)
            obtain ⟨ο7, rfl⟩ : ∃ z, z = u := ⟨_, rfl⟩
            have hO := hu
            have hG := hG.past hq (fun j hj h => by have hj : j < 22 := hj; simp only [RA] at h; omega)
            refine lv_if_ne (tgt := 65) hx hb dX4_obeyAll_42 (by decide) (fun c8 => ?_) (fun c8 => ?_)
            · replace h := h.1 c8
              refine lv_aload_n hx hb dX4_obeyAll_65 rfl (lv_at hl 0 rfl) ?_
              refine lv_aload_n hx hb dX4_obeyAll_66 rfl (lv_at hl 1 rfl) ?_
              refine lv_aload_n hx hb dX4_obeyAll_67 rfl (lv_at hl 0 rfl) ?_
              refine lv_aload_n hx hb dX4_obeyAll_68 rfl (lv_at hl 0 rfl) ?_
              refine g_getI (a := aO) (k := 0) C hK hO fl_X4_29 rfl rfl dX4_obeyAll_69 ?_
              refine g_vI C hK hl.1 (m_X4_signAt l G aO ο7 (ο7 0 2) _ h) mw_X4_signAt mi_X4_signAt ml_X4_42 rfl ⟨rfl, rfl, Nat.le_of_ble_eq_true rfl, Nat.le_of_ble_eq_true rfl⟩ ⟨Nat.zero_le _, Nat.zero_le _⟩ (g_recv (a := aO) (k := 0) hK hO rfl rfl) hO hS (fun _ h => h.elim) rfl (Nat.le_of_ble_eq_true rfl) dX4_obeyAll_72 (fun r9 u H locs h hu _ hq hS => ?_)
              have hO := hO.past hq (fun _ _ h => h)
              have hG := hG.past hq (fun _ _ h => h)
              refine g_vI C hK hl.1 (m_X4_obey l G aO aG ο7 γ r9 (by omega) _ h) mw_X4_obey mi_X4_obey ml_X4_46 rfl ⟨rfl, rfl, Nat.le_of_ble_eq_true rfl, Nat.le_of_ble_eq_true rfl⟩ ⟨Nat.zero_le _, Nat.zero_le _⟩ (g_recv (a := aO) (k := 0) hK hO rfl rfl) ⟨hO, hG⟩ hS (fun q h => by first | exact Or.inl h | exact Or.inr h) rfl (Nat.le_of_ble_eq_true rfl) dX4_obeyAll_75 (fun r10 u H locs h hu _ hq hS => ?_)
              obtain ⟨γ11, rfl⟩ : ∃ z, z = u := ⟨_, rfl⟩
              have hG := hu
              have hO := hO.past hq (fun j hj h => by have hj : j < 3 := hj; simp only [RA] at h; omega)
              refine lv_istore_n (lv' := [(2, .int r10), (0, .ref (aO + 0)), (1, .ref (aG + 0))]) hx hb dX4_obeyAll_78 rfl hl (by decide) rfl (fun ls hl => ?_)
              refine lv_iload_n hx hb dX4_obeyAll_79 rfl (lv_at hl 0 rfl) ?_
              refine lv_if_ge (tgt := 95) hx hb dX4_obeyAll_80 (by decide) (fun c12 => ?_) (fun c12 => ?_)
              · replace h := h.1 c12
                refine lv_aload_n hx hb dX4_obeyAll_95 rfl (lv_at hl 1 rfl) ?_
                refine lv_dup hx hb dX4_obeyAll_96 rfl ?_
                refine g_getI (a := aO) (k := 0) C hK hO fl_X4_23 rfl rfl dX4_obeyAll_97 ?_
                refine lv_iconst (v := 1) hx hb dX4_obeyAll_100 (by decide) ?_
                refine lv_iadd hx hb dX4_obeyAll_101 ?_
                refine g_put (a := aO) (k := 0) C hK hO hS fl_X4_23 fp_X4_1 rfl rfl (by rfl) (by rfl) (by first | exact Or.inl (RA_in (by decide)) | exact Or.inr (RA_in (by decide))) dX4_obeyAll_102 (fun ο13 H locs eο13 hO hS hq => ?_)
                specialize h ο13 eο13
                have hG := hG.kept (fun j hj => hq _ (by have hj : j < 22 := hj; omega))
                refine lv_goto (tgt := 10) hx hb dX4_obeyAll_105 (by decide) ?_
                exact (ih) ο13 γ11 _ _ _ hO hG hS (lv_sub hl [1, 2] rfl) h
              · replace h := h.2 c12
                refine lv_aload_n hx hb dX4_obeyAll_83 rfl (lv_at hl 1 rfl) ?_
                refine lv_iconst (v := 2) hx hb dX4_obeyAll_84 (by decide) ?_
                refine g_put (a := aO) (k := 0) C hK hO hS fl_X4_36 fp_X4_3 rfl rfl (by rfl) (by rfl) (by first | exact Or.inl (RA_in (by decide)) | exact Or.inr (RA_in (by decide))) dX4_obeyAll_85 (fun ο14 H locs eο14 hO hS hq => ?_)
                specialize h ο14 eο14
                have hG := hG.kept (fun j hj => hq _ (by have hj : j < 22 := hj; omega))
                refine lv_aload_n hx hb dX4_obeyAll_88 rfl (lv_at hl 1 rfl) ?_
                refine lv_iload_n hx hb dX4_obeyAll_89 rfl (lv_at hl 0 rfl) ?_
                refine g_put (a := aO) (k := 0) C hK hO hS fl_X4_39 fp_X4_4 rfl rfl (by rfl) (by rfl) (by first | exact Or.inl (RA_in (by decide)) | exact Or.inr (RA_in (by decide))) dX4_obeyAll_90 (fun ο15 H locs eο15 hO hS hq => ?_)
                specialize h ο15 eο15
                have hG := hG.kept (fun j hj => hq _ (by have hj : j < 22 := hj; omega))
                refine lv_iconst (v := 0) hx hb dX4_obeyAll_93 (by decide) ?_
                exact g_zret (post := fun r (u : Mem × Mem) => Q r u.1 u.2) (P' := fun (u : Mem × Mem) H => rg G LO aO u.1 H ∧ rg G LG aG u.2 H) (r := 0) (u := (ο15, γ11)) C hr hK hS (by rfl) h ⟨hO, hG⟩ dX4_obeyAll_94
            · replace h := h.2 c8
              refine lv_aload_n hx hb dX4_obeyAll_45 rfl (lv_at hl 0 rfl) ?_
              refine lv_iconst (v := 1) hx hb dX4_obeyAll_46 (by decide) ?_
              refine g_put (a := aO) (k := 0) C hK hO hS fl_X4_36 fp_X4_3 rfl rfl (by rfl) (by rfl) (by first | exact Or.inl (RA_in (by decide)) | exact Or.inr (RA_in (by decide))) dX4_obeyAll_47 (fun ο16 H locs eο16 hO hS hq => ?_)
              specialize h ο16 eο16
              have hG := hG.kept (fun j hj => hq _ (by have hj : j < 22 := hj; omega))
              refine lv_aload_n hx hb dX4_obeyAll_50 rfl (lv_at hl 0 rfl) ?_
              refine lv_aload_n hx hb dX4_obeyAll_51 rfl (lv_at hl 0 rfl) ?_
              refine g_getI (a := aO) (k := 0) C hK hO fl_X4_26 rfl rfl dX4_obeyAll_52 ?_
              refine lv_aload_n hx hb dX4_obeyAll_55 rfl (lv_at hl 0 rfl) ?_
              refine g_getI (a := aO) (k := 0) C hK hO fl_X4_29 rfl rfl dX4_obeyAll_56 ?_
              refine lv_isub hx hb dX4_obeyAll_59 ?_
              refine g_put (a := aO) (k := 0) C hK hO hS fl_X4_39 fp_X4_4 rfl rfl (by rfl) (by rfl) (by first | exact Or.inl (RA_in (by decide)) | exact Or.inr (RA_in (by decide))) dX4_obeyAll_60 (fun ο17 H locs eο17 hO hS hq => ?_)
              specialize h ο17 eο17
              have hG := hG.kept (fun j hj => hq _ (by have hj : j < 22 := hj; omega))
              refine lv_iconst (v := 0) hx hb dX4_obeyAll_63 (by decide) ?_
              exact g_zret (post := fun r (u : Mem × Mem) => Q r u.1 u.2) (P' := fun (u : Mem × Mem) H => rg G LO aO u.1 H ∧ rg G LG aG u.2 H) (r := 0) (u := (ο17, γ)) C hr hK hS (by rfl) h ⟨hO, hG⟩ dX4_obeyAll_64
  unfold vc_X4_obeyAll at h
  obtain ⟨n, h⟩ := h
  refine lv_aload_n hx hb dX4_obeyAll_0 rfl (lv_at hl 0 rfl) ?_
  refine lv_iconst (v := 0) hx hb dX4_obeyAll_1 (by decide) ?_
  refine g_put (a := aO) (k := 0) C hK hO hS fl_X4_23 fp_X4_1 rfl rfl (by rfl) (by rfl) (by first | exact Or.inl (RA_in (by decide)) | exact Or.inr (RA_in (by decide))) dX4_obeyAll_2 (fun ο1 H locs eο1 hO hS hq => ?_)
  specialize h ο1 eο1
  have hG := hG.kept (fun j hj => hq _ (by have hj : j < 22 := hj; omega))
  refine lv_aload_n hx hb dX4_obeyAll_5 rfl (lv_at hl 0 rfl) ?_
  refine lv_iconst (v := 0) hx hb dX4_obeyAll_6 (by decide) ?_
  refine g_put (a := aO) (k := 0) C hK hO hS fl_X4_26 fp_X4_5 rfl rfl (by rfl) (by rfl) (by first | exact Or.inl (RA_in (by decide)) | exact Or.inr (RA_in (by decide))) dX4_obeyAll_7 (fun ο2 H locs eο2 hO hS hq => ?_)
  specialize h ο2 eο2
  have hG := hG.kept (fun j hj => hq _ (by have hj : j < 22 := hj; omega))
  exact ((K n)) ο2 γ _ _ _ hO hG hS (lv_sub hl [0, 1] rfl) h
