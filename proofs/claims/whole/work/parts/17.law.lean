def vb_L_law_18 (L : Nat) (xs : Nat → Int32) (ξ : Mem) (rec : Nat → Mem → Mem → Mem → (Nat → Mem) → Mem → Mem → Int32 → Prop) (γ : Mem) (τ : Mem) (η : Mem) (σ : (Nat → Mem)) (ο : Mem) (ρ : Mem) (w3 : Int32) : Prop :=
  ((((Int32.ofNat L) - 5) < w3) → (True)) ∧ ((¬ ((Int32.ofNat L) - 5) < w3) → (vp_in w3 L ∧ (∀ v3 : Int32, v3 = ((xs w3.toNatClampNeg) &&& 31) → (((v3 = 0) → (rec 1 γ τ η σ ο ρ w3)) ∧ ((¬ v3 = 0) → (((v3 = 1) → (rec 2 γ τ η σ ο ρ w3)) ∧ ((¬ v3 = 1) → (((v3 = 2) → (rec 3 γ τ η σ ο ρ w3)) ∧ ((¬ v3 = 2) → (((v3 = 3) → (rec 4 γ τ η σ ο ρ w3)) ∧ ((¬ v3 = 3) → (((v3 = 4) → (rec 5 γ τ η σ ο ρ w3)) ∧ ((¬ v3 = 4) → (((v3 = 5) → (rec 6 γ τ η σ ο ρ w3)) ∧ ((¬ v3 = 5) → (((v3 = 6) → (rec 7 γ τ η σ ο ρ w3)) ∧ ((¬ v3 = 6) → (((v3 = 7) → (rec 8 γ τ η σ ο ρ w3)) ∧ ((¬ v3 = 7) → (((v3 = 8) → (rec 9 γ τ η σ ο ρ w3)) ∧ ((¬ v3 = 8) → (((v3 = 9) → (rec 10 γ τ η σ ο ρ w3)) ∧ ((¬ v3 = 9) → (((v3 = 10) → (rec 11 γ τ η σ ο ρ w3)) ∧ ((¬ v3 = 10) → (((v3 = 11) → (rec 12 γ τ η σ ο ρ w3)) ∧ ((¬ v3 = 11) → (((v3 = 12) → (rec 13 γ τ η σ ο ρ w3)) ∧ ((¬ v3 = 12) → (((v3 = 13) → (rec 14 γ τ η σ ο ρ w3)) ∧ ((¬ v3 = 13) → (((v3 = 14) → (rec 15 γ τ η σ ο ρ w3)) ∧ ((¬ v3 = 14) → (((v3 = 15) → (rec 16 γ τ η σ ο ρ w3)) ∧ ((¬ v3 = 15) → (((v3 = 16) → (rec 17 γ τ η σ ο ρ w3)) ∧ ((¬ v3 = 16) → (((v3 = 17) → (rec 18 γ τ η σ ο ρ w3)) ∧ ((¬ v3 = 17) → (((v3 = 18) → (rec 19 γ τ η σ ο ρ w3)) ∧ ((¬ v3 = 18) → (((v3 = 19) → (rec 20 γ τ η σ ο ρ w3)) ∧ ((¬ v3 = 19) → (((v3 = 20) → (rec 21 γ τ η σ ο ρ w3)) ∧ ((¬ v3 = 20) → (((v3 = 21) → (rec 22 γ τ η σ ο ρ w3)) ∧ ((¬ v3 = 21) → (((v3 = 22) → (rec 23 γ τ η σ ο ρ w3)) ∧ ((¬ v3 = 22) → (((v3 = 23) → (rec 24 γ τ η σ ο ρ w3)) ∧ ((¬ v3 = 23) → (((v3 = 24) → (rec 25 γ τ η σ ο ρ w3)) ∧ ((¬ v3 = 24) → (rec 26 γ τ η σ ο ρ w3))))))))))))))))))))))))))))))))))))))))))))))))))))))
def vb_L_law_148 (L : Nat) (xs : Nat → Int32) (ξ : Mem) (rec : Nat → Mem → Mem → Mem → (Nat → Mem) → Mem → Mem → Int32 → Prop) (γ : Mem) (τ : Mem) (η : Mem) (σ : (Nat → Mem)) (ο : Mem) (ρ : Mem) (w3 : Int32) : Prop :=
  vc_X7_player (fun r29 γ30 τ31 η32 σ33 => vc_X8_player (fun r34 ρ35 => ((r29 = r34) → (rec 26 γ30 τ31 η32 σ33 ο ρ35 w3)) ∧ ((¬ r29 = r34) → (False))) ρ) ξ γ τ η σ ο
def vb_L_law_161 (L : Nat) (xs : Nat → Int32) (ξ : Mem) (rec : Nat → Mem → Mem → Mem → (Nat → Mem) → Mem → Mem → Int32 → Prop) (γ : Mem) (τ : Mem) (η : Mem) (σ : (Nat → Mem)) (ο : Mem) (ρ : Mem) (w3 : Int32) : Prop :=
  vp_in (w3 + 1) L ∧ (vp_in (w3 + 2) L ∧ (vp_in (w3 + 3) L ∧ (vc_X7_size (fun r40 γ41 τ42 η43 σ44 => (((vc_X8_size (fun r45 ρ46 => ((r40 = r45) → (rec 26 γ41 τ42 η43 σ44 ο ρ46 w3)) ∧ ((¬ r40 = r45) → (False))) ρ (xs (w3 + 1).toNatClampNeg) (xs (w3 + 2).toNatClampNeg) (xs (w3 + 3).toNatClampNeg))))) ξ γ τ η σ ο (xs (w3 + 1).toNatClampNeg) (xs (w3 + 2).toNatClampNeg) (xs (w3 + 3).toNatClampNeg))))
def vb_L_law_204 (L : Nat) (xs : Nat → Int32) (ξ : Mem) (rec : Nat → Mem → Mem → Mem → (Nat → Mem) → Mem → Mem → Int32 → Prop) (γ : Mem) (τ : Mem) (η : Mem) (σ : (Nat → Mem)) (ο : Mem) (ρ : Mem) (w3 : Int32) : Prop :=
  vp_in (w3 + 1) L ∧ (vp_in (w3 + 2) L ∧ (vp_in (w3 + 3) L ∧ (vp_in (w3 + 4) L ∧ (vc_X7_task (fun r52 γ53 τ54 η55 σ56 => ((((vc_X8_task (fun r57 ρ58 => ((r52 = r57) → (rec 26 γ53 τ54 η55 σ56 ο ρ58 w3)) ∧ ((¬ r52 = r57) → (False))) ρ (xs (w3 + 1).toNatClampNeg) (xs (w3 + 2).toNatClampNeg) (xs (w3 + 3).toNatClampNeg) (xs (w3 + 4).toNatClampNeg)))))) ξ γ τ η σ ο (xs (w3 + 1).toNatClampNeg) (xs (w3 + 2).toNatClampNeg) (xs (w3 + 3).toNatClampNeg) (xs (w3 + 4).toNatClampNeg)))))
def vb_L_law_257 (L : Nat) (xs : Nat → Int32) (ξ : Mem) (rec : Nat → Mem → Mem → Mem → (Nat → Mem) → Mem → Mem → Int32 → Prop) (γ : Mem) (τ : Mem) (η : Mem) (σ : (Nat → Mem)) (ο : Mem) (ρ : Mem) (w3 : Int32) : Prop :=
  vp_in (w3 + 1) L ∧ (vp_in (w3 + 2) L ∧ (vc_X7_contract (fun r62 γ63 τ64 η65 σ66 => ((vc_X8_contract (fun r67 ρ68 => ((r62 = r67) → (rec 26 γ63 τ64 η65 σ66 ο ρ68 w3)) ∧ ((¬ r62 = r67) → (False))) ρ (xs (w3 + 1).toNatClampNeg) (xs (w3 + 2).toNatClampNeg)))) ξ γ τ η σ ο (xs (w3 + 1).toNatClampNeg) (xs (w3 + 2).toNatClampNeg)))
def vb_L_law_290 (L : Nat) (xs : Nat → Int32) (ξ : Mem) (rec : Nat → Mem → Mem → Mem → (Nat → Mem) → Mem → Mem → Int32 → Prop) (γ : Mem) (τ : Mem) (η : Mem) (σ : (Nat → Mem)) (ο : Mem) (ρ : Mem) (w3 : Int32) : Prop :=
  vp_in (w3 + 1) L ∧ (vp_in (w3 + 2) L ∧ (vp_in (w3 + 3) L ∧ (vc_X7_put (fun r73 γ74 τ75 η76 σ77 => (((vc_X8_put (fun r78 ρ79 => ((r73 = r78) → (rec 26 γ74 τ75 η76 σ77 ο ρ79 w3)) ∧ ((¬ r73 = r78) → (False))) ρ (xs (w3 + 1).toNatClampNeg) (xs (w3 + 2).toNatClampNeg) (xs (w3 + 3).toNatClampNeg))))) ξ γ τ η σ ο (xs (w3 + 1).toNatClampNeg) (xs (w3 + 2).toNatClampNeg) (xs (w3 + 3).toNatClampNeg))))
def vb_L_law_333 (L : Nat) (xs : Nat → Int32) (ξ : Mem) (rec : Nat → Mem → Mem → Mem → (Nat → Mem) → Mem → Mem → Int32 → Prop) (γ : Mem) (τ : Mem) (η : Mem) (σ : (Nat → Mem)) (ο : Mem) (ρ : Mem) (w3 : Int32) : Prop :=
  vp_in (w3 + 1) L ∧ (vp_in (w3 + 2) L ∧ (vc_X7_home (fun r83 γ84 τ85 η86 σ87 => ((vc_X8_home (fun r88 ρ89 => ((r83 = r88) → (rec 26 γ84 τ85 η86 σ87 ο ρ89 w3)) ∧ ((¬ r83 = r88) → (False))) ρ (xs (w3 + 1).toNatClampNeg) (xs (w3 + 2).toNatClampNeg)))) ξ γ τ η σ ο (xs (w3 + 1).toNatClampNeg) (xs (w3 + 2).toNatClampNeg)))
def vb_L_law_366 (L : Nat) (xs : Nat → Int32) (ξ : Mem) (rec : Nat → Mem → Mem → Mem → (Nat → Mem) → Mem → Mem → Int32 → Prop) (γ : Mem) (τ : Mem) (η : Mem) (σ : (Nat → Mem)) (ο : Mem) (ρ : Mem) (w3 : Int32) : Prop :=
  vp_in (w3 + 1) L ∧ (vp_in (w3 + 2) L ∧ (vc_X7_flip (fun r93 γ94 τ95 η96 σ97 => ((vc_X8_flip (fun r98 ρ99 => ((r93 = r98) → (rec 26 γ94 τ95 η96 σ97 ο ρ99 w3)) ∧ ((¬ r93 = r98) → (False))) ρ (xs (w3 + 1).toNatClampNeg) (xs (w3 + 2).toNatClampNeg)))) ξ γ τ η σ ο (xs (w3 + 1).toNatClampNeg) (xs (w3 + 2).toNatClampNeg)))
def vb_L_law_399 (L : Nat) (xs : Nat → Int32) (ξ : Mem) (rec : Nat → Mem → Mem → Mem → (Nat → Mem) → Mem → Mem → Int32 → Prop) (γ : Mem) (τ : Mem) (η : Mem) (σ : (Nat → Mem)) (ο : Mem) (ρ : Mem) (w3 : Int32) : Prop :=
  vp_in (w3 + 1) L ∧ (vp_in (w3 + 2) L ∧ (vc_X7_buy (fun r103 γ104 τ105 η106 σ107 => ((vc_X8_buy (fun r108 ρ109 => ((r103 = r108) → (rec 26 γ104 τ105 η106 σ107 ο ρ109 w3)) ∧ ((¬ r103 = r108) → (False))) ρ (xs (w3 + 1).toNatClampNeg) (xs (w3 + 2).toNatClampNeg)))) ξ γ τ η σ ο (xs (w3 + 1).toNatClampNeg) (xs (w3 + 2).toNatClampNeg)))
def vb_L_law_432 (L : Nat) (xs : Nat → Int32) (ξ : Mem) (rec : Nat → Mem → Mem → Mem → (Nat → Mem) → Mem → Mem → Int32 → Prop) (γ : Mem) (τ : Mem) (η : Mem) (σ : (Nat → Mem)) (ο : Mem) (ρ : Mem) (w3 : Int32) : Prop :=
  vp_in (w3 + 1) L ∧ (vc_X7_pass (fun r112 γ113 τ114 η115 σ116 => (vc_X8_pass (fun r117 ρ118 => ((r112 = r117) → (rec 26 γ113 τ114 η115 σ116 ο ρ118 w3)) ∧ ((¬ r112 = r117) → (False))) ρ (xs (w3 + 1).toNatClampNeg))) ξ γ τ η σ ο (xs (w3 + 1).toNatClampNeg))
def vb_L_law_455 (L : Nat) (xs : Nat → Int32) (ξ : Mem) (rec : Nat → Mem → Mem → Mem → (Nat → Mem) → Mem → Mem → Int32 → Prop) (γ : Mem) (τ : Mem) (η : Mem) (σ : (Nat → Mem)) (ο : Mem) (ρ : Mem) (w3 : Int32) : Prop :=
  vp_in (w3 + 1) L ∧ (vp_in (w3 + 2) L ∧ (vc_X7_playerOf (fun r122 τ123 => ((vc_X8_playerOf (fun r124 ρ125 => ((r122 = r124) → (rec 26 γ τ123 η σ ο ρ125 w3)) ∧ ((¬ r122 = r124) → (False))) ρ (xs (w3 + 1).toNatClampNeg) (xs (w3 + 2).toNatClampNeg)))) ξ γ τ η σ ο (xs (w3 + 1).toNatClampNeg) (xs (w3 + 2).toNatClampNeg)))
def vb_L_law_488 (L : Nat) (xs : Nat → Int32) (ξ : Mem) (rec : Nat → Mem → Mem → Mem → (Nat → Mem) → Mem → Mem → Int32 → Prop) (γ : Mem) (τ : Mem) (η : Mem) (σ : (Nat → Mem)) (ο : Mem) (ρ : Mem) (w3 : Int32) : Prop :=
  vp_in (w3 + 1) L ∧ (vp_in (w3 + 2) L ∧ (vp_in (w3 + 3) L ∧ (vc_X7_workerOf (fun r130 => (((vc_X8_workerOf (fun r131 => ((r130 = r131) → (rec 26 γ τ η σ ο ρ w3)) ∧ ((¬ r130 = r131) → (False))) ρ (xs (w3 + 1).toNatClampNeg) (xs (w3 + 2).toNatClampNeg) (xs (w3 + 3).toNatClampNeg))))) ξ γ τ η σ ο (xs (w3 + 1).toNatClampNeg) (xs (w3 + 2).toNatClampNeg) (xs (w3 + 3).toNatClampNeg))))
def vb_L_law_531 (L : Nat) (xs : Nat → Int32) (ξ : Mem) (rec : Nat → Mem → Mem → Mem → (Nat → Mem) → Mem → Mem → Int32 → Prop) (γ : Mem) (τ : Mem) (η : Mem) (σ : (Nat → Mem)) (ο : Mem) (ρ : Mem) (w3 : Int32) : Prop :=
  vp_in (w3 + 1) L ∧ (vp_in (w3 + 2) L ∧ (vc_X7_taskOf (fun r135 => ((vc_X8_taskOf (fun r136 => ((r135 = r136) → (rec 26 γ τ η σ ο ρ w3)) ∧ ((¬ r135 = r136) → (False))) ρ (xs (w3 + 1).toNatClampNeg) (xs (w3 + 2).toNatClampNeg)))) ξ γ τ η σ ο (xs (w3 + 1).toNatClampNeg) (xs (w3 + 2).toNatClampNeg)))
def vb_L_law_564 (L : Nat) (xs : Nat → Int32) (ξ : Mem) (rec : Nat → Mem → Mem → Mem → (Nat → Mem) → Mem → Mem → Int32 → Prop) (γ : Mem) (τ : Mem) (η : Mem) (σ : (Nat → Mem)) (ο : Mem) (ρ : Mem) (w3 : Int32) : Prop :=
  vp_in (w3 + 1) L ∧ (vp_in (w3 + 2) L ∧ (vc_X7_on (fun r140 => ((vc_X8_on (fun r141 => ((r140 = r141) → (rec 26 γ τ η σ ο ρ w3)) ∧ ((¬ r140 = r141) → (False))) ρ (xs (w3 + 1).toNatClampNeg) (xs (w3 + 2).toNatClampNeg)))) ξ γ τ η σ ο (xs (w3 + 1).toNatClampNeg) (xs (w3 + 2).toNatClampNeg)))
def vb_L_law_597 (L : Nat) (xs : Nat → Int32) (ξ : Mem) (rec : Nat → Mem → Mem → Mem → (Nat → Mem) → Mem → Mem → Int32 → Prop) (γ : Mem) (τ : Mem) (η : Mem) (σ : (Nat → Mem)) (ο : Mem) (ρ : Mem) (w3 : Int32) : Prop :=
  vp_in (w3 + 1) L ∧ (vp_in (w3 + 2) L ∧ (vc_X7_contractOf (fun r145 => ((vc_X8_contractOf (fun r146 => ((r145 = r146) → (rec 26 γ τ η σ ο ρ w3)) ∧ ((¬ r145 = r146) → (False))) ρ (xs (w3 + 1).toNatClampNeg) (xs (w3 + 2).toNatClampNeg)))) ξ γ τ η σ ο (xs (w3 + 1).toNatClampNeg) (xs (w3 + 2).toNatClampNeg)))
def vb_L_law_630 (L : Nat) (xs : Nat → Int32) (ξ : Mem) (rec : Nat → Mem → Mem → Mem → (Nat → Mem) → Mem → Mem → Int32 → Prop) (γ : Mem) (τ : Mem) (η : Mem) (σ : (Nat → Mem)) (ο : Mem) (ρ : Mem) (w3 : Int32) : Prop :=
  vp_in (w3 + 1) L ∧ (vc_X7_next (fun r149 => (vc_X8_next (fun r150 ρ151 => ((r149 = r150) → (rec 26 γ τ η σ ο ρ151 w3)) ∧ ((¬ r149 = r150) → (False))) ρ (xs (w3 + 1).toNatClampNeg))) ξ γ τ η σ ο (xs (w3 + 1).toNatClampNeg))
def vb_L_law_653 (L : Nat) (xs : Nat → Int32) (ξ : Mem) (rec : Nat → Mem → Mem → Mem → (Nat → Mem) → Mem → Mem → Int32 → Prop) (γ : Mem) (τ : Mem) (η : Mem) (σ : (Nat → Mem)) (ο : Mem) (ρ : Mem) (w3 : Int32) : Prop :=
  vp_in (w3 + 1) L ∧ (vp_in (w3 + 2) L ∧ (vp_in (w3 + 3) L ∧ (vc_X7_would (fun r156 τ157 => (((vc_X8_would (fun r158 ρ159 => ((r156 = r158) → (rec 26 γ τ157 η σ ο ρ159 w3)) ∧ ((¬ r156 = r158) → (False))) ρ (xs (w3 + 1).toNatClampNeg) (xs (w3 + 2).toNatClampNeg) (xs (w3 + 3).toNatClampNeg))))) ξ γ τ η σ ο (xs (w3 + 1).toNatClampNeg) (xs (w3 + 2).toNatClampNeg) (xs (w3 + 3).toNatClampNeg))))
def vb_L_law_696 (L : Nat) (xs : Nat → Int32) (ξ : Mem) (rec : Nat → Mem → Mem → Mem → (Nat → Mem) → Mem → Mem → Int32 → Prop) (γ : Mem) (τ : Mem) (η : Mem) (σ : (Nat → Mem)) (ο : Mem) (ρ : Mem) (w3 : Int32) : Prop :=
  vp_in (w3 + 1) L ∧ (vp_in (w3 + 2) L ∧ (vp_in (w3 + 3) L ∧ (vc_X7_best (fun r164 => (((vc_X8_best (fun r165 => ((r164 = r165) → (rec 26 γ τ η σ ο ρ w3)) ∧ ((¬ r164 = r165) → (False))) ρ (xs (w3 + 1).toNatClampNeg) (xs (w3 + 2).toNatClampNeg) (xs (w3 + 3).toNatClampNeg))))) ξ γ τ η σ ο (xs (w3 + 1).toNatClampNeg) (xs (w3 + 2).toNatClampNeg) (xs (w3 + 3).toNatClampNeg))))
def vb_L_law_739 (L : Nat) (xs : Nat → Int32) (ξ : Mem) (rec : Nat → Mem → Mem → Mem → (Nat → Mem) → Mem → Mem → Int32 → Prop) (γ : Mem) (τ : Mem) (η : Mem) (σ : (Nat → Mem)) (ο : Mem) (ρ : Mem) (w3 : Int32) : Prop :=
  vp_in (w3 + 1) L ∧ (vp_in (w3 + 2) L ∧ (vp_in (w3 + 3) L ∧ (vc_X7_earns (fun r170 τ171 => (((vc_X8_earns (fun r172 ρ173 => ((r170 = r172) → (rec 26 γ τ171 η σ ο ρ173 w3)) ∧ ((¬ r170 = r172) → (False))) ρ (xs (w3 + 1).toNatClampNeg) (xs (w3 + 2).toNatClampNeg) (xs (w3 + 3).toNatClampNeg))))) ξ γ τ η σ ο (xs (w3 + 1).toNatClampNeg) (xs (w3 + 2).toNatClampNeg) (xs (w3 + 3).toNatClampNeg))))
def vb_L_law_782 (L : Nat) (xs : Nat → Int32) (ξ : Mem) (rec : Nat → Mem → Mem → Mem → (Nat → Mem) → Mem → Mem → Int32 → Prop) (γ : Mem) (τ : Mem) (η : Mem) (σ : (Nat → Mem)) (ο : Mem) (ρ : Mem) (w3 : Int32) : Prop :=
  vp_in (w3 + 1) L ∧ (vp_in (w3 + 2) L ∧ (vc_X7_busy (fun r177 => ((vc_X8_busy (fun r178 => ((r177 = r178) → (rec 26 γ τ η σ ο ρ w3)) ∧ ((¬ r177 = r178) → (False))) ρ (xs (w3 + 1).toNatClampNeg) (xs (w3 + 2).toNatClampNeg)))) ξ γ τ η σ ο (xs (w3 + 1).toNatClampNeg) (xs (w3 + 2).toNatClampNeg)))
def vb_L_law_815 (L : Nat) (xs : Nat → Int32) (ξ : Mem) (rec : Nat → Mem → Mem → Mem → (Nat → Mem) → Mem → Mem → Int32 → Prop) (γ : Mem) (τ : Mem) (η : Mem) (σ : (Nat → Mem)) (ο : Mem) (ρ : Mem) (w3 : Int32) : Prop :=
  vp_in (w3 + 1) L ∧ (vc_X7_count (fun r181 => (vc_X8_count (fun r182 => ((r181 = r182) → (rec 26 γ τ η σ ο ρ w3)) ∧ ((¬ r181 = r182) → (False))) ρ (xs (w3 + 1).toNatClampNeg))) ξ γ τ η σ ο (xs (w3 + 1).toNatClampNeg))
def vb_L_law_838 (L : Nat) (xs : Nat → Int32) (ξ : Mem) (rec : Nat → Mem → Mem → Mem → (Nat → Mem) → Mem → Mem → Int32 → Prop) (γ : Mem) (τ : Mem) (η : Mem) (σ : (Nat → Mem)) (ο : Mem) (ρ : Mem) (w3 : Int32) : Prop :=
  vc_X7_undo (fun r184 γ185 η186 => vc_X8_undo (fun r187 ρ188 => ((r184 = r187) → (rec 26 γ185 τ η186 σ ο ρ188 w3)) ∧ ((¬ r184 = r187) → (False))) ρ) ξ γ τ η σ ο
def vb_L_law_851 (L : Nat) (xs : Nat → Int32) (ξ : Mem) (rec : Nat → Mem → Mem → Mem → (Nat → Mem) → Mem → Mem → Int32 → Prop) (γ : Mem) (τ : Mem) (η : Mem) (σ : (Nat → Mem)) (ο : Mem) (ρ : Mem) (w3 : Int32) : Prop :=
  vp_in (w3 + 1) L ∧ (vc_X7_type (fun r191 ο192 => (vc_X8_type (fun r193 ρ194 => ((r191 = r193) → (rec 26 γ τ η σ ο192 ρ194 w3)) ∧ ((¬ r191 = r193) → (False))) ρ (xs (w3 + 1).toNatClampNeg))) ξ γ τ η σ ο (xs (w3 + 1).toNatClampNeg))
def vb_L_law_874 (L : Nat) (xs : Nat → Int32) (ξ : Mem) (rec : Nat → Mem → Mem → Mem → (Nat → Mem) → Mem → Mem → Int32 → Prop) (γ : Mem) (τ : Mem) (η : Mem) (σ : (Nat → Mem)) (ο : Mem) (ρ : Mem) (w3 : Int32) : Prop :=
  vc_X7_clearText (fun r196 ο197 => vc_X8_clearText (fun r198 ρ199 => ((r196 = r198) → (rec 26 γ τ η σ ο197 ρ199 w3)) ∧ ((¬ r196 = r198) → (False))) ρ) ξ γ τ η σ ο
def vb_L_law_887 (L : Nat) (xs : Nat → Int32) (ξ : Mem) (rec : Nat → Mem → Mem → Mem → (Nat → Mem) → Mem → Mem → Int32 → Prop) (γ : Mem) (τ : Mem) (η : Mem) (σ : (Nat → Mem)) (ο : Mem) (ρ : Mem) (w3 : Int32) : Prop :=
  vp_in (w3 + 1) L ∧ (vc_X7_fault (fun r202 τ203 ο204 => (vc_X8_fault (fun r205 ρ206 => ((r202 = r205) → (rec 26 γ τ203 η σ ο204 ρ206 w3)) ∧ ((¬ r202 = r205) → (False))) ρ (xs (w3 + 1).toNatClampNeg))) ξ γ τ η σ ο (xs (w3 + 1).toNatClampNeg))
def vb_L_law_910 (L : Nat) (xs : Nat → Int32) (ξ : Mem) (rec : Nat → Mem → Mem → Mem → (Nat → Mem) → Mem → Mem → Int32 → Prop) (γ : Mem) (τ : Mem) (η : Mem) (σ : (Nat → Mem)) (ο : Mem) (ρ : Mem) (w3 : Int32) : Prop :=
  vc_X7_play (fun r208 γ209 τ210 η211 σ212 ο213 => vc_X8_play (fun r214 ρ215 => ((r208 = r214) → (rec 26 γ209 τ210 η211 σ212 ο213 ρ215 w3)) ∧ ((¬ r208 = r214) → (False))) ρ) ξ γ τ η σ ο
def vb_L_law_923 (L : Nat) (xs : Nat → Int32) (ξ : Mem) (rec : Nat → Mem → Mem → Mem → (Nat → Mem) → Mem → Mem → Int32 → Prop) (γ : Mem) (τ : Mem) (η : Mem) (σ : (Nat → Mem)) (ο : Mem) (ρ : Mem) (w3 : Int32) : Prop :=
  ∀ v217 : Int32, v217 = w3 + 5 → (rec 0 γ τ η σ ο ρ v217)
def vl_L_law (L : Nat) (xs : Nat → Int32) (ξ : Mem) : Nat → Nat → Mem → Mem → Mem → (Nat → Mem) → Mem → Mem → Int32 → Prop
  | 0, _, _, _, _, _, _, _, _ => False
  | n + 1, 0, γ, τ, η, σ, ο, ρ, w3 => vb_L_law_18 L xs ξ (vl_L_law L xs ξ n) γ τ η σ ο ρ w3
  | n + 1, 1, γ, τ, η, σ, ο, ρ, w3 => vb_L_law_148 L xs ξ (vl_L_law L xs ξ n) γ τ η σ ο ρ w3
  | n + 1, 2, γ, τ, η, σ, ο, ρ, w3 => vb_L_law_161 L xs ξ (vl_L_law L xs ξ n) γ τ η σ ο ρ w3
  | n + 1, 3, γ, τ, η, σ, ο, ρ, w3 => vb_L_law_204 L xs ξ (vl_L_law L xs ξ n) γ τ η σ ο ρ w3
  | n + 1, 4, γ, τ, η, σ, ο, ρ, w3 => vb_L_law_257 L xs ξ (vl_L_law L xs ξ n) γ τ η σ ο ρ w3
  | n + 1, 5, γ, τ, η, σ, ο, ρ, w3 => vb_L_law_290 L xs ξ (vl_L_law L xs ξ n) γ τ η σ ο ρ w3
  | n + 1, 6, γ, τ, η, σ, ο, ρ, w3 => vb_L_law_333 L xs ξ (vl_L_law L xs ξ n) γ τ η σ ο ρ w3
  | n + 1, 7, γ, τ, η, σ, ο, ρ, w3 => vb_L_law_366 L xs ξ (vl_L_law L xs ξ n) γ τ η σ ο ρ w3
  | n + 1, 8, γ, τ, η, σ, ο, ρ, w3 => vb_L_law_399 L xs ξ (vl_L_law L xs ξ n) γ τ η σ ο ρ w3
  | n + 1, 9, γ, τ, η, σ, ο, ρ, w3 => vb_L_law_432 L xs ξ (vl_L_law L xs ξ n) γ τ η σ ο ρ w3
  | n + 1, 10, γ, τ, η, σ, ο, ρ, w3 => vb_L_law_455 L xs ξ (vl_L_law L xs ξ n) γ τ η σ ο ρ w3
  | n + 1, 11, γ, τ, η, σ, ο, ρ, w3 => vb_L_law_488 L xs ξ (vl_L_law L xs ξ n) γ τ η σ ο ρ w3
  | n + 1, 12, γ, τ, η, σ, ο, ρ, w3 => vb_L_law_531 L xs ξ (vl_L_law L xs ξ n) γ τ η σ ο ρ w3
  | n + 1, 13, γ, τ, η, σ, ο, ρ, w3 => vb_L_law_564 L xs ξ (vl_L_law L xs ξ n) γ τ η σ ο ρ w3
  | n + 1, 14, γ, τ, η, σ, ο, ρ, w3 => vb_L_law_597 L xs ξ (vl_L_law L xs ξ n) γ τ η σ ο ρ w3
  | n + 1, 15, γ, τ, η, σ, ο, ρ, w3 => vb_L_law_630 L xs ξ (vl_L_law L xs ξ n) γ τ η σ ο ρ w3
  | n + 1, 16, γ, τ, η, σ, ο, ρ, w3 => vb_L_law_653 L xs ξ (vl_L_law L xs ξ n) γ τ η σ ο ρ w3
  | n + 1, 17, γ, τ, η, σ, ο, ρ, w3 => vb_L_law_696 L xs ξ (vl_L_law L xs ξ n) γ τ η σ ο ρ w3
  | n + 1, 18, γ, τ, η, σ, ο, ρ, w3 => vb_L_law_739 L xs ξ (vl_L_law L xs ξ n) γ τ η σ ο ρ w3
  | n + 1, 19, γ, τ, η, σ, ο, ρ, w3 => vb_L_law_782 L xs ξ (vl_L_law L xs ξ n) γ τ η σ ο ρ w3
  | n + 1, 20, γ, τ, η, σ, ο, ρ, w3 => vb_L_law_815 L xs ξ (vl_L_law L xs ξ n) γ τ η σ ο ρ w3
  | n + 1, 21, γ, τ, η, σ, ο, ρ, w3 => vb_L_law_838 L xs ξ (vl_L_law L xs ξ n) γ τ η σ ο ρ w3
  | n + 1, 22, γ, τ, η, σ, ο, ρ, w3 => vb_L_law_851 L xs ξ (vl_L_law L xs ξ n) γ τ η σ ο ρ w3
  | n + 1, 23, γ, τ, η, σ, ο, ρ, w3 => vb_L_law_874 L xs ξ (vl_L_law L xs ξ n) γ τ η σ ο ρ w3
  | n + 1, 24, γ, τ, η, σ, ο, ρ, w3 => vb_L_law_887 L xs ξ (vl_L_law L xs ξ n) γ τ η σ ο ρ w3
  | n + 1, 25, γ, τ, η, σ, ο, ρ, w3 => vb_L_law_910 L xs ξ (vl_L_law L xs ξ n) γ τ η σ ο ρ w3
  | n + 1, 26, γ, τ, η, σ, ο, ρ, w3 => vb_L_law_923 L xs ξ (vl_L_law L xs ξ n) γ τ η σ ο ρ w3
  | _ + 1, _, _, _, _, _, _, _, _ => False
def lawK (p : Program) (l : Launch) (e : Env) (s : State) (m : MethodId) (below : List Frame) (meth : Method) (c : Code) (G : GG) (b L x y : Nat) (xs : Nat → Int32) (ξ : Mem) (n : Nat) : Prop :=
  (∀ (γ : Mem) (τ : Mem) (η : Mem) (σ : (Nat → Mem)) (ο : Mem) (ρ : Mem) (w3 : Int32) (H : Heap) (locs : List Loc) (ls : Array Slot), rg G LX x ξ H → rg G LG (x + 1) γ H → rg G LG (x + 23) τ H → rg G LH (x + 45) η H → HG G (x + 46) σ H → rg G LO (x + 135) ο H → rg G LM y ρ H → va_S (fun q => x ≤ q) s.heap H locs → lv_has ls 4 [(0, .ref b), (1, .ref x), (2, .ref y), (3, .int w3)] → vl_L_law L xs ξ n 0 γ τ η σ ο ρ w3 → W p l e room_1 s m #[Value.ref b] below meth c H locs 146 2475 (lw_Z below #[Value.ref b] s) (F0 m 18 ls [])) ∧ (∀ (γ : Mem) (τ : Mem) (η : Mem) (σ : (Nat → Mem)) (ο : Mem) (ρ : Mem) (w3 : Int32) (H : Heap) (locs : List Loc) (ls : Array Slot), rg G LX x ξ H → rg G LG (x + 1) γ H → rg G LG (x + 23) τ H → rg G LH (x + 45) η H → HG G (x + 46) σ H → rg G LO (x + 135) ο H → rg G LM y ρ H → va_S (fun q => x ≤ q) s.heap H locs → lv_has ls 4 [(0, .ref b), (1, .ref x), (2, .ref y), (3, .int w3)] → vl_L_law L xs ξ n 1 γ τ η σ ο ρ w3 → W p l e room_1 s m #[Value.ref b] below meth c H locs 146 2475 (lw_Z below #[Value.ref b] s) (F0 m 148 ls [])) ∧ (∀ (γ : Mem) (τ : Mem) (η : Mem) (σ : (Nat → Mem)) (ο : Mem) (ρ : Mem) (w3 : Int32) (H : Heap) (locs : List Loc) (ls : Array Slot), rg G LX x ξ H → rg G LG (x + 1) γ H → rg G LG (x + 23) τ H → rg G LH (x + 45) η H → HG G (x + 46) σ H → rg G LO (x + 135) ο H → rg G LM y ρ H → va_S (fun q => x ≤ q) s.heap H locs → lv_has ls 4 [(0, .ref b), (1, .ref x), (2, .ref y), (3, .int w3)] → vl_L_law L xs ξ n 2 γ τ η σ ο ρ w3 → W p l e room_1 s m #[Value.ref b] below meth c H locs 146 2475 (lw_Z below #[Value.ref b] s) (F0 m 161 ls [])) ∧ (∀ (γ : Mem) (τ : Mem) (η : Mem) (σ : (Nat → Mem)) (ο : Mem) (ρ : Mem) (w3 : Int32) (H : Heap) (locs : List Loc) (ls : Array Slot), rg G LX x ξ H → rg G LG (x + 1) γ H → rg G LG (x + 23) τ H → rg G LH (x + 45) η H → HG G (x + 46) σ H → rg G LO (x + 135) ο H → rg G LM y ρ H → va_S (fun q => x ≤ q) s.heap H locs → lv_has ls 4 [(0, .ref b), (1, .ref x), (2, .ref y), (3, .int w3)] → vl_L_law L xs ξ n 3 γ τ η σ ο ρ w3 → W p l e room_1 s m #[Value.ref b] below meth c H locs 146 2475 (lw_Z below #[Value.ref b] s) (F0 m 204 ls [])) ∧ (∀ (γ : Mem) (τ : Mem) (η : Mem) (σ : (Nat → Mem)) (ο : Mem) (ρ : Mem) (w3 : Int32) (H : Heap) (locs : List Loc) (ls : Array Slot), rg G LX x ξ H → rg G LG (x + 1) γ H → rg G LG (x + 23) τ H → rg G LH (x + 45) η H → HG G (x + 46) σ H → rg G LO (x + 135) ο H → rg G LM y ρ H → va_S (fun q => x ≤ q) s.heap H locs → lv_has ls 4 [(0, .ref b), (1, .ref x), (2, .ref y), (3, .int w3)] → vl_L_law L xs ξ n 4 γ τ η σ ο ρ w3 → W p l e room_1 s m #[Value.ref b] below meth c H locs 146 2475 (lw_Z below #[Value.ref b] s) (F0 m 257 ls [])) ∧ (∀ (γ : Mem) (τ : Mem) (η : Mem) (σ : (Nat → Mem)) (ο : Mem) (ρ : Mem) (w3 : Int32) (H : Heap) (locs : List Loc) (ls : Array Slot), rg G LX x ξ H → rg G LG (x + 1) γ H → rg G LG (x + 23) τ H → rg G LH (x + 45) η H → HG G (x + 46) σ H → rg G LO (x + 135) ο H → rg G LM y ρ H → va_S (fun q => x ≤ q) s.heap H locs → lv_has ls 4 [(0, .ref b), (1, .ref x), (2, .ref y), (3, .int w3)] → vl_L_law L xs ξ n 5 γ τ η σ ο ρ w3 → W p l e room_1 s m #[Value.ref b] below meth c H locs 146 2475 (lw_Z below #[Value.ref b] s) (F0 m 290 ls [])) ∧ (∀ (γ : Mem) (τ : Mem) (η : Mem) (σ : (Nat → Mem)) (ο : Mem) (ρ : Mem) (w3 : Int32) (H : Heap) (locs : List Loc) (ls : Array Slot), rg G LX x ξ H → rg G LG (x + 1) γ H → rg G LG (x + 23) τ H → rg G LH (x + 45) η H → HG G (x + 46) σ H → rg G LO (x + 135) ο H → rg G LM y ρ H → va_S (fun q => x ≤ q) s.heap H locs → lv_has ls 4 [(0, .ref b), (1, .ref x), (2, .ref y), (3, .int w3)] → vl_L_law L xs ξ n 6 γ τ η σ ο ρ w3 → W p l e room_1 s m #[Value.ref b] below meth c H locs 146 2475 (lw_Z below #[Value.ref b] s) (F0 m 333 ls [])) ∧ (∀ (γ : Mem) (τ : Mem) (η : Mem) (σ : (Nat → Mem)) (ο : Mem) (ρ : Mem) (w3 : Int32) (H : Heap) (locs : List Loc) (ls : Array Slot), rg G LX x ξ H → rg G LG (x + 1) γ H → rg G LG (x + 23) τ H → rg G LH (x + 45) η H → HG G (x + 46) σ H → rg G LO (x + 135) ο H → rg G LM y ρ H → va_S (fun q => x ≤ q) s.heap H locs → lv_has ls 4 [(0, .ref b), (1, .ref x), (2, .ref y), (3, .int w3)] → vl_L_law L xs ξ n 7 γ τ η σ ο ρ w3 → W p l e room_1 s m #[Value.ref b] below meth c H locs 146 2475 (lw_Z below #[Value.ref b] s) (F0 m 366 ls [])) ∧ (∀ (γ : Mem) (τ : Mem) (η : Mem) (σ : (Nat → Mem)) (ο : Mem) (ρ : Mem) (w3 : Int32) (H : Heap) (locs : List Loc) (ls : Array Slot), rg G LX x ξ H → rg G LG (x + 1) γ H → rg G LG (x + 23) τ H → rg G LH (x + 45) η H → HG G (x + 46) σ H → rg G LO (x + 135) ο H → rg G LM y ρ H → va_S (fun q => x ≤ q) s.heap H locs → lv_has ls 4 [(0, .ref b), (1, .ref x), (2, .ref y), (3, .int w3)] → vl_L_law L xs ξ n 8 γ τ η σ ο ρ w3 → W p l e room_1 s m #[Value.ref b] below meth c H locs 146 2475 (lw_Z below #[Value.ref b] s) (F0 m 399 ls [])) ∧ (∀ (γ : Mem) (τ : Mem) (η : Mem) (σ : (Nat → Mem)) (ο : Mem) (ρ : Mem) (w3 : Int32) (H : Heap) (locs : List Loc) (ls : Array Slot), rg G LX x ξ H → rg G LG (x + 1) γ H → rg G LG (x + 23) τ H → rg G LH (x + 45) η H → HG G (x + 46) σ H → rg G LO (x + 135) ο H → rg G LM y ρ H → va_S (fun q => x ≤ q) s.heap H locs → lv_has ls 4 [(0, .ref b), (1, .ref x), (2, .ref y), (3, .int w3)] → vl_L_law L xs ξ n 9 γ τ η σ ο ρ w3 → W p l e room_1 s m #[Value.ref b] below meth c H locs 146 2475 (lw_Z below #[Value.ref b] s) (F0 m 432 ls [])) ∧ (∀ (γ : Mem) (τ : Mem) (η : Mem) (σ : (Nat → Mem)) (ο : Mem) (ρ : Mem) (w3 : Int32) (H : Heap) (locs : List Loc) (ls : Array Slot), rg G LX x ξ H → rg G LG (x + 1) γ H → rg G LG (x + 23) τ H → rg G LH (x + 45) η H → HG G (x + 46) σ H → rg G LO (x + 135) ο H → rg G LM y ρ H → va_S (fun q => x ≤ q) s.heap H locs → lv_has ls 4 [(0, .ref b), (1, .ref x), (2, .ref y), (3, .int w3)] → vl_L_law L xs ξ n 10 γ τ η σ ο ρ w3 → W p l e room_1 s m #[Value.ref b] below meth c H locs 146 2475 (lw_Z below #[Value.ref b] s) (F0 m 455 ls [])) ∧ (∀ (γ : Mem) (τ : Mem) (η : Mem) (σ : (Nat → Mem)) (ο : Mem) (ρ : Mem) (w3 : Int32) (H : Heap) (locs : List Loc) (ls : Array Slot), rg G LX x ξ H → rg G LG (x + 1) γ H → rg G LG (x + 23) τ H → rg G LH (x + 45) η H → HG G (x + 46) σ H → rg G LO (x + 135) ο H → rg G LM y ρ H → va_S (fun q => x ≤ q) s.heap H locs → lv_has ls 4 [(0, .ref b), (1, .ref x), (2, .ref y), (3, .int w3)] → vl_L_law L xs ξ n 11 γ τ η σ ο ρ w3 → W p l e room_1 s m #[Value.ref b] below meth c H locs 146 2475 (lw_Z below #[Value.ref b] s) (F0 m 488 ls [])) ∧ (∀ (γ : Mem) (τ : Mem) (η : Mem) (σ : (Nat → Mem)) (ο : Mem) (ρ : Mem) (w3 : Int32) (H : Heap) (locs : List Loc) (ls : Array Slot), rg G LX x ξ H → rg G LG (x + 1) γ H → rg G LG (x + 23) τ H → rg G LH (x + 45) η H → HG G (x + 46) σ H → rg G LO (x + 135) ο H → rg G LM y ρ H → va_S (fun q => x ≤ q) s.heap H locs → lv_has ls 4 [(0, .ref b), (1, .ref x), (2, .ref y), (3, .int w3)] → vl_L_law L xs ξ n 12 γ τ η σ ο ρ w3 → W p l e room_1 s m #[Value.ref b] below meth c H locs 146 2475 (lw_Z below #[Value.ref b] s) (F0 m 531 ls [])) ∧ (∀ (γ : Mem) (τ : Mem) (η : Mem) (σ : (Nat → Mem)) (ο : Mem) (ρ : Mem) (w3 : Int32) (H : Heap) (locs : List Loc) (ls : Array Slot), rg G LX x ξ H → rg G LG (x + 1) γ H → rg G LG (x + 23) τ H → rg G LH (x + 45) η H → HG G (x + 46) σ H → rg G LO (x + 135) ο H → rg G LM y ρ H → va_S (fun q => x ≤ q) s.heap H locs → lv_has ls 4 [(0, .ref b), (1, .ref x), (2, .ref y), (3, .int w3)] → vl_L_law L xs ξ n 13 γ τ η σ ο ρ w3 → W p l e room_1 s m #[Value.ref b] below meth c H locs 146 2475 (lw_Z below #[Value.ref b] s) (F0 m 564 ls [])) ∧ (∀ (γ : Mem) (τ : Mem) (η : Mem) (σ : (Nat → Mem)) (ο : Mem) (ρ : Mem) (w3 : Int32) (H : Heap) (locs : List Loc) (ls : Array Slot), rg G LX x ξ H → rg G LG (x + 1) γ H → rg G LG (x + 23) τ H → rg G LH (x + 45) η H → HG G (x + 46) σ H → rg G LO (x + 135) ο H → rg G LM y ρ H → va_S (fun q => x ≤ q) s.heap H locs → lv_has ls 4 [(0, .ref b), (1, .ref x), (2, .ref y), (3, .int w3)] → vl_L_law L xs ξ n 14 γ τ η σ ο ρ w3 → W p l e room_1 s m #[Value.ref b] below meth c H locs 146 2475 (lw_Z below #[Value.ref b] s) (F0 m 597 ls [])) ∧ (∀ (γ : Mem) (τ : Mem) (η : Mem) (σ : (Nat → Mem)) (ο : Mem) (ρ : Mem) (w3 : Int32) (H : Heap) (locs : List Loc) (ls : Array Slot), rg G LX x ξ H → rg G LG (x + 1) γ H → rg G LG (x + 23) τ H → rg G LH (x + 45) η H → HG G (x + 46) σ H → rg G LO (x + 135) ο H → rg G LM y ρ H → va_S (fun q => x ≤ q) s.heap H locs → lv_has ls 4 [(0, .ref b), (1, .ref x), (2, .ref y), (3, .int w3)] → vl_L_law L xs ξ n 15 γ τ η σ ο ρ w3 → W p l e room_1 s m #[Value.ref b] below meth c H locs 146 2475 (lw_Z below #[Value.ref b] s) (F0 m 630 ls [])) ∧ (∀ (γ : Mem) (τ : Mem) (η : Mem) (σ : (Nat → Mem)) (ο : Mem) (ρ : Mem) (w3 : Int32) (H : Heap) (locs : List Loc) (ls : Array Slot), rg G LX x ξ H → rg G LG (x + 1) γ H → rg G LG (x + 23) τ H → rg G LH (x + 45) η H → HG G (x + 46) σ H → rg G LO (x + 135) ο H → rg G LM y ρ H → va_S (fun q => x ≤ q) s.heap H locs → lv_has ls 4 [(0, .ref b), (1, .ref x), (2, .ref y), (3, .int w3)] → vl_L_law L xs ξ n 16 γ τ η σ ο ρ w3 → W p l e room_1 s m #[Value.ref b] below meth c H locs 146 2475 (lw_Z below #[Value.ref b] s) (F0 m 653 ls [])) ∧ (∀ (γ : Mem) (τ : Mem) (η : Mem) (σ : (Nat → Mem)) (ο : Mem) (ρ : Mem) (w3 : Int32) (H : Heap) (locs : List Loc) (ls : Array Slot), rg G LX x ξ H → rg G LG (x + 1) γ H → rg G LG (x + 23) τ H → rg G LH (x + 45) η H → HG G (x + 46) σ H → rg G LO (x + 135) ο H → rg G LM y ρ H → va_S (fun q => x ≤ q) s.heap H locs → lv_has ls 4 [(0, .ref b), (1, .ref x), (2, .ref y), (3, .int w3)] → vl_L_law L xs ξ n 17 γ τ η σ ο ρ w3 → W p l e room_1 s m #[Value.ref b] below meth c H locs 146 2475 (lw_Z below #[Value.ref b] s) (F0 m 696 ls [])) ∧ (∀ (γ : Mem) (τ : Mem) (η : Mem) (σ : (Nat → Mem)) (ο : Mem) (ρ : Mem) (w3 : Int32) (H : Heap) (locs : List Loc) (ls : Array Slot), rg G LX x ξ H → rg G LG (x + 1) γ H → rg G LG (x + 23) τ H → rg G LH (x + 45) η H → HG G (x + 46) σ H → rg G LO (x + 135) ο H → rg G LM y ρ H → va_S (fun q => x ≤ q) s.heap H locs → lv_has ls 4 [(0, .ref b), (1, .ref x), (2, .ref y), (3, .int w3)] → vl_L_law L xs ξ n 18 γ τ η σ ο ρ w3 → W p l e room_1 s m #[Value.ref b] below meth c H locs 146 2475 (lw_Z below #[Value.ref b] s) (F0 m 739 ls [])) ∧ (∀ (γ : Mem) (τ : Mem) (η : Mem) (σ : (Nat → Mem)) (ο : Mem) (ρ : Mem) (w3 : Int32) (H : Heap) (locs : List Loc) (ls : Array Slot), rg G LX x ξ H → rg G LG (x + 1) γ H → rg G LG (x + 23) τ H → rg G LH (x + 45) η H → HG G (x + 46) σ H → rg G LO (x + 135) ο H → rg G LM y ρ H → va_S (fun q => x ≤ q) s.heap H locs → lv_has ls 4 [(0, .ref b), (1, .ref x), (2, .ref y), (3, .int w3)] → vl_L_law L xs ξ n 19 γ τ η σ ο ρ w3 → W p l e room_1 s m #[Value.ref b] below meth c H locs 146 2475 (lw_Z below #[Value.ref b] s) (F0 m 782 ls [])) ∧ (∀ (γ : Mem) (τ : Mem) (η : Mem) (σ : (Nat → Mem)) (ο : Mem) (ρ : Mem) (w3 : Int32) (H : Heap) (locs : List Loc) (ls : Array Slot), rg G LX x ξ H → rg G LG (x + 1) γ H → rg G LG (x + 23) τ H → rg G LH (x + 45) η H → HG G (x + 46) σ H → rg G LO (x + 135) ο H → rg G LM y ρ H → va_S (fun q => x ≤ q) s.heap H locs → lv_has ls 4 [(0, .ref b), (1, .ref x), (2, .ref y), (3, .int w3)] → vl_L_law L xs ξ n 20 γ τ η σ ο ρ w3 → W p l e room_1 s m #[Value.ref b] below meth c H locs 146 2475 (lw_Z below #[Value.ref b] s) (F0 m 815 ls [])) ∧ (∀ (γ : Mem) (τ : Mem) (η : Mem) (σ : (Nat → Mem)) (ο : Mem) (ρ : Mem) (w3 : Int32) (H : Heap) (locs : List Loc) (ls : Array Slot), rg G LX x ξ H → rg G LG (x + 1) γ H → rg G LG (x + 23) τ H → rg G LH (x + 45) η H → HG G (x + 46) σ H → rg G LO (x + 135) ο H → rg G LM y ρ H → va_S (fun q => x ≤ q) s.heap H locs → lv_has ls 4 [(0, .ref b), (1, .ref x), (2, .ref y), (3, .int w3)] → vl_L_law L xs ξ n 21 γ τ η σ ο ρ w3 → W p l e room_1 s m #[Value.ref b] below meth c H locs 146 2475 (lw_Z below #[Value.ref b] s) (F0 m 838 ls [])) ∧ (∀ (γ : Mem) (τ : Mem) (η : Mem) (σ : (Nat → Mem)) (ο : Mem) (ρ : Mem) (w3 : Int32) (H : Heap) (locs : List Loc) (ls : Array Slot), rg G LX x ξ H → rg G LG (x + 1) γ H → rg G LG (x + 23) τ H → rg G LH (x + 45) η H → HG G (x + 46) σ H → rg G LO (x + 135) ο H → rg G LM y ρ H → va_S (fun q => x ≤ q) s.heap H locs → lv_has ls 4 [(0, .ref b), (1, .ref x), (2, .ref y), (3, .int w3)] → vl_L_law L xs ξ n 22 γ τ η σ ο ρ w3 → W p l e room_1 s m #[Value.ref b] below meth c H locs 146 2475 (lw_Z below #[Value.ref b] s) (F0 m 851 ls [])) ∧ (∀ (γ : Mem) (τ : Mem) (η : Mem) (σ : (Nat → Mem)) (ο : Mem) (ρ : Mem) (w3 : Int32) (H : Heap) (locs : List Loc) (ls : Array Slot), rg G LX x ξ H → rg G LG (x + 1) γ H → rg G LG (x + 23) τ H → rg G LH (x + 45) η H → HG G (x + 46) σ H → rg G LO (x + 135) ο H → rg G LM y ρ H → va_S (fun q => x ≤ q) s.heap H locs → lv_has ls 4 [(0, .ref b), (1, .ref x), (2, .ref y), (3, .int w3)] → vl_L_law L xs ξ n 23 γ τ η σ ο ρ w3 → W p l e room_1 s m #[Value.ref b] below meth c H locs 146 2475 (lw_Z below #[Value.ref b] s) (F0 m 874 ls [])) ∧ (∀ (γ : Mem) (τ : Mem) (η : Mem) (σ : (Nat → Mem)) (ο : Mem) (ρ : Mem) (w3 : Int32) (H : Heap) (locs : List Loc) (ls : Array Slot), rg G LX x ξ H → rg G LG (x + 1) γ H → rg G LG (x + 23) τ H → rg G LH (x + 45) η H → HG G (x + 46) σ H → rg G LO (x + 135) ο H → rg G LM y ρ H → va_S (fun q => x ≤ q) s.heap H locs → lv_has ls 4 [(0, .ref b), (1, .ref x), (2, .ref y), (3, .int w3)] → vl_L_law L xs ξ n 24 γ τ η σ ο ρ w3 → W p l e room_1 s m #[Value.ref b] below meth c H locs 146 2475 (lw_Z below #[Value.ref b] s) (F0 m 887 ls [])) ∧ (∀ (γ : Mem) (τ : Mem) (η : Mem) (σ : (Nat → Mem)) (ο : Mem) (ρ : Mem) (w3 : Int32) (H : Heap) (locs : List Loc) (ls : Array Slot), rg G LX x ξ H → rg G LG (x + 1) γ H → rg G LG (x + 23) τ H → rg G LH (x + 45) η H → HG G (x + 46) σ H → rg G LO (x + 135) ο H → rg G LM y ρ H → va_S (fun q => x ≤ q) s.heap H locs → lv_has ls 4 [(0, .ref b), (1, .ref x), (2, .ref y), (3, .int w3)] → vl_L_law L xs ξ n 25 γ τ η σ ο ρ w3 → W p l e room_1 s m #[Value.ref b] below meth c H locs 146 2475 (lw_Z below #[Value.ref b] s) (F0 m 910 ls [])) ∧ (∀ (γ : Mem) (τ : Mem) (η : Mem) (σ : (Nat → Mem)) (ο : Mem) (ρ : Mem) (w3 : Int32) (H : Heap) (locs : List Loc) (ls : Array Slot), rg G LX x ξ H → rg G LG (x + 1) γ H → rg G LG (x + 23) τ H → rg G LH (x + 45) η H → HG G (x + 46) σ H → rg G LO (x + 135) ο H → rg G LM y ρ H → va_S (fun q => x ≤ q) s.heap H locs → lv_has ls 4 [(0, .ref b), (1, .ref x), (2, .ref y), (3, .int w3)] → vl_L_law L xs ξ n 26 γ τ η σ ο ρ w3 → W p l e room_1 s m #[Value.ref b] below meth c H locs 146 2475 (lw_Z below #[Value.ref b] s) (F0 m 923 ls []))
set_option maxHeartbeats 8000000 in
set_option maxRecDepth 100000 in
theorem lawS_18 {p : Program} {l : Launch} {e : Env} {s : State} {m : MethodId} {below : List Frame} {meth : Method} {c : Code} {G : GG} {b L x y : Nat} {xs : Nat → Int32} (C : CX p m meth c s #[Value.ref b] code RL 4) (hr : meth.sig.returnType = ret) (hK : KK G s) (hXs : va_X b L xs s s.heap) (hbl : b < s.heap.size) (hx0 : s.heap.size = x) (hy0 : y = x + 138) (ξ : Mem) (n : Nat) (ih : lawK p l e s m below meth c G b L x y xs ξ n) : (∀ (γ : Mem) (τ : Mem) (η : Mem) (σ : (Nat → Mem)) (ο : Mem) (ρ : Mem) (w3 : Int32) (H : Heap) (locs : List Loc) (ls : Array Slot), rg G LX x ξ H → rg G LG (x + 1) γ H → rg G LG (x + 23) τ H → rg G LH (x + 45) η H → HG G (x + 46) σ H → rg G LO (x + 135) ο H → rg G LM y ρ H → va_S (fun q => x ≤ q) s.heap H locs → lv_has ls 4 [(0, .ref b), (1, .ref x), (2, .ref y), (3, .int w3)] → vb_L_law_18 L xs ξ (vl_L_law L xs ξ n) γ τ η σ ο ρ w3 → W p l e room_1 s m #[Value.ref b] below meth c H locs 146 2475 (lw_Z below #[Value.ref b] s) (F0 m 18 ls [])) := by
  intro γ τ η σ ο ρ w3 H locs ls hX hG hT hH hZ hO hM hS hl h
  obtain ⟨hx, hb, hml, hown, hts, hlocks⟩ := id C
  have hbA : ¬ (fun q : Nat => x ≤ q) b := by show ¬ x ≤ b; omega
  unfold lawK at ih
  unfold vb_L_law_18 at h
  refine lv_iload_n hx hb dL_law_18 rfl (lv_at hl 3 rfl) ?_
  refine lv_aload_n hx hb dL_law_19 rfl (lv_at hl 0 rfl) ?_
  refine va_slen hx hb hXs hbl hbA hS dL_law_20 ?_
  refine lv_iconst (v := 5) hx hb dL_law_21 (by decide) ?_
  refine lv_isub hx hb dL_law_22 ?_
  refine lv_icmp_gt (tgt := 929) hx hb dL_law_23 (by decide) (fun c1 => ?_) (fun c1 => ?_)
  · replace h := h.1 c1
    refine lv_iconst (v := 1) hx hb dL_law_929 (by decide) ?_
    refine va_forget (fun q hq => by have := hS.2.2 q hq; omega) ?_
    refine W.widen (k := 600000) (n := 7302250) (Nat.le_of_ble_eq_true rfl) (Nat.le_of_ble_eq_true rfl) ?_
    refine W.base ?_
    exact lw_ret (Drawn.sameBut.refl s.drawn lw_cs) hx hb hr hlocks dL_law_930
  · replace h := h.2 c1
    refine lv_aload_n hx hb dL_law_26 rfl (lv_at hl 0 rfl) ?_
    refine lv_iload_n hx hb dL_law_27 rfl (lv_at hl 3 rfl) ?_
    obtain ⟨b2, h⟩ := h
    refine va_sld hx hb hXs hbl hbA hS b2 dL_law_28 ?_
    refine lv_bipush (v := 31) hx hb dL_law_29 (by decide) ?_
    refine lv_iand hx hb dL_law_31 ?_
    refine lv_topi (fun v3 ev3 => ?_)
    specialize h v3 ev3
    by_cases c4 : v3 = 0
    · replace h := h.1 c4
      refine lv_tableIn (off := 116) (tgt := 148) hx hb dL_law_32 (by rw [c4]; decide) (by rw [c4]; decide) (by rw [c4]; rfl) (by decide) ?_
      exact (ih.2.1) γ τ η σ ο ρ w3 _ _ _ hX hG hT hH hZ hO hM hS (lv_sub hl [0, 1, 2, 3] rfl) h
    · replace h := h.2 c4
      by_cases c5 : v3 = 1
      · replace h := h.1 c5
        refine lv_tableIn (off := 129) (tgt := 161) hx hb dL_law_32 (by rw [c5]; decide) (by rw [c5]; decide) (by rw [c5]; rfl) (by decide) ?_
        exact (ih.2.2.1) γ τ η σ ο ρ w3 _ _ _ hX hG hT hH hZ hO hM hS (lv_sub hl [0, 1, 2, 3] rfl) h
      · replace h := h.2 c5
        by_cases c6 : v3 = 2
        · replace h := h.1 c6
          refine lv_tableIn (off := 172) (tgt := 204) hx hb dL_law_32 (by rw [c6]; decide) (by rw [c6]; decide) (by rw [c6]; rfl) (by decide) ?_
          exact (ih.2.2.2.1) γ τ η σ ο ρ w3 _ _ _ hX hG hT hH hZ hO hM hS (lv_sub hl [0, 1, 2, 3] rfl) h
        · replace h := h.2 c6
          by_cases c7 : v3 = 3
          · replace h := h.1 c7
            refine lv_tableIn (off := 225) (tgt := 257) hx hb dL_law_32 (by rw [c7]; decide) (by rw [c7]; decide) (by rw [c7]; rfl) (by decide) ?_
            exact (ih.2.2.2.2.1) γ τ η σ ο ρ w3 _ _ _ hX hG hT hH hZ hO hM hS (lv_sub hl [0, 1, 2, 3] rfl) h
          · replace h := h.2 c7
            by_cases c8 : v3 = 4
            · replace h := h.1 c8
              refine lv_tableIn (off := 258) (tgt := 290) hx hb dL_law_32 (by rw [c8]; decide) (by rw [c8]; decide) (by rw [c8]; rfl) (by decide) ?_
              exact (ih.2.2.2.2.2.1) γ τ η σ ο ρ w3 _ _ _ hX hG hT hH hZ hO hM hS (lv_sub hl [0, 1, 2, 3] rfl) h
            · replace h := h.2 c8
              by_cases c9 : v3 = 5
              · replace h := h.1 c9
                refine lv_tableIn (off := 301) (tgt := 333) hx hb dL_law_32 (by rw [c9]; decide) (by rw [c9]; decide) (by rw [c9]; rfl) (by decide) ?_
                exact (ih.2.2.2.2.2.2.1) γ τ η σ ο ρ w3 _ _ _ hX hG hT hH hZ hO hM hS (lv_sub hl [0, 1, 2, 3] rfl) h
              · replace h := h.2 c9
                by_cases c10 : v3 = 6
                · replace h := h.1 c10
                  refine lv_tableIn (off := 334) (tgt := 366) hx hb dL_law_32 (by rw [c10]; decide) (by rw [c10]; decide) (by rw [c10]; rfl) (by decide) ?_
                  exact (ih.2.2.2.2.2.2.2.1) γ τ η σ ο ρ w3 _ _ _ hX hG hT hH hZ hO hM hS (lv_sub hl [0, 1, 2, 3] rfl) h
                · replace h := h.2 c10
                  by_cases c11 : v3 = 7
                  · replace h := h.1 c11
                    refine lv_tableIn (off := 367) (tgt := 399) hx hb dL_law_32 (by rw [c11]; decide) (by rw [c11]; decide) (by rw [c11]; rfl) (by decide) ?_
                    exact (ih.2.2.2.2.2.2.2.2.1) γ τ η σ ο ρ w3 _ _ _ hX hG hT hH hZ hO hM hS (lv_sub hl [0, 1, 2, 3] rfl) h
                  · replace h := h.2 c11
                    by_cases c12 : v3 = 8
                    · replace h := h.1 c12
                      refine lv_tableIn (off := 400) (tgt := 432) hx hb dL_law_32 (by rw [c12]; decide) (by rw [c12]; decide) (by rw [c12]; rfl) (by decide) ?_
                      exact (ih.2.2.2.2.2.2.2.2.2.1) γ τ η σ ο ρ w3 _ _ _ hX hG hT hH hZ hO hM hS (lv_sub hl [0, 1, 2, 3] rfl) h
                    · replace h := h.2 c12
                      by_cases c13 : v3 = 9
                      · replace h := h.1 c13
                        refine lv_tableIn (off := 423) (tgt := 455) hx hb dL_law_32 (by rw [c13]; decide) (by rw [c13]; decide) (by rw [c13]; rfl) (by decide) ?_
                        exact (ih.2.2.2.2.2.2.2.2.2.2.1) γ τ η σ ο ρ w3 _ _ _ hX hG hT hH hZ hO hM hS (lv_sub hl [0, 1, 2, 3] rfl) h
                      · replace h := h.2 c13
                        by_cases c14 : v3 = 10
                        · replace h := h.1 c14
                          refine lv_tableIn (off := 456) (tgt := 488) hx hb dL_law_32 (by rw [c14]; decide) (by rw [c14]; decide) (by rw [c14]; rfl) (by decide) ?_
                          exact (ih.2.2.2.2.2.2.2.2.2.2.2.1) γ τ η σ ο ρ w3 _ _ _ hX hG hT hH hZ hO hM hS (lv_sub hl [0, 1, 2, 3] rfl) h
                        · replace h := h.2 c14
                          by_cases c15 : v3 = 11
                          · replace h := h.1 c15
                            refine lv_tableIn (off := 499) (tgt := 531) hx hb dL_law_32 (by rw [c15]; decide) (by rw [c15]; decide) (by rw [c15]; rfl) (by decide) ?_
                            exact (ih.2.2.2.2.2.2.2.2.2.2.2.2.1) γ τ η σ ο ρ w3 _ _ _ hX hG hT hH hZ hO hM hS (lv_sub hl [0, 1, 2, 3] rfl) h
                          · replace h := h.2 c15
                            by_cases c16 : v3 = 12
                            · replace h := h.1 c16
                              refine lv_tableIn (off := 532) (tgt := 564) hx hb dL_law_32 (by rw [c16]; decide) (by rw [c16]; decide) (by rw [c16]; rfl) (by decide) ?_
                              exact (ih.2.2.2.2.2.2.2.2.2.2.2.2.2.1) γ τ η σ ο ρ w3 _ _ _ hX hG hT hH hZ hO hM hS (lv_sub hl [0, 1, 2, 3] rfl) h
                            · replace h := h.2 c16
                              by_cases c17 : v3 = 13
                              · replace h := h.1 c17
                                refine lv_tableIn (off := 565) (tgt := 597) hx hb dL_law_32 (by rw [c17]; decide) (by rw [c17]; decide) (by rw [c17]; rfl) (by decide) ?_
                                exact (ih.2.2.2.2.2.2.2.2.2.2.2.2.2.2.1) γ τ η σ ο ρ w3 _ _ _ hX hG hT hH hZ hO hM hS (lv_sub hl [0, 1, 2, 3] rfl) h
                              · replace h := h.2 c17
                                by_cases c18 : v3 = 14
                                · replace h := h.1 c18
                                  refine lv_tableIn (off := 598) (tgt := 630) hx hb dL_law_32 (by rw [c18]; decide) (by rw [c18]; decide) (by rw [c18]; rfl) (by decide) ?_
                                  exact (ih.2.2.2.2.2.2.2.2.2.2.2.2.2.2.2.1) γ τ η σ ο ρ w3 _ _ _ hX hG hT hH hZ hO hM hS (lv_sub hl [0, 1, 2, 3] rfl) h
                                · replace h := h.2 c18
                                  by_cases c19 : v3 = 15
                                  · replace h := h.1 c19
                                    refine lv_tableIn (off := 621) (tgt := 653) hx hb dL_law_32 (by rw [c19]; decide) (by rw [c19]; decide) (by rw [c19]; rfl) (by decide) ?_
                                    exact (ih.2.2.2.2.2.2.2.2.2.2.2.2.2.2.2.2.1) γ τ η σ ο ρ w3 _ _ _ hX hG hT hH hZ hO hM hS (lv_sub hl [0, 1, 2, 3] rfl) h
                                  · replace h := h.2 c19
                                    by_cases c20 : v3 = 16
                                    · replace h := h.1 c20
                                      refine lv_tableIn (off := 664) (tgt := 696) hx hb dL_law_32 (by rw [c20]; decide) (by rw [c20]; decide) (by rw [c20]; rfl) (by decide) ?_
                                      exact (ih.2.2.2.2.2.2.2.2.2.2.2.2.2.2.2.2.2.1) γ τ η σ ο ρ w3 _ _ _ hX hG hT hH hZ hO hM hS (lv_sub hl [0, 1, 2, 3] rfl) h
                                    · replace h := h.2 c20
                                      by_cases c21 : v3 = 17
                                      · replace h := h.1 c21
                                        refine lv_tableIn (off := 707) (tgt := 739) hx hb dL_law_32 (by rw [c21]; decide) (by rw [c21]; decide) (by rw [c21]; rfl) (by decide) ?_
                                        exact (ih.2.2.2.2.2.2.2.2.2.2.2.2.2.2.2.2.2.2.1) γ τ η σ ο ρ w3 _ _ _ hX hG hT hH hZ hO hM hS (lv_sub hl [0, 1, 2, 3] rfl) h
                                      · replace h := h.2 c21
                                        by_cases c22 : v3 = 18
                                        · replace h := h.1 c22
                                          refine lv_tableIn (off := 750) (tgt := 782) hx hb dL_law_32 (by rw [c22]; decide) (by rw [c22]; decide) (by rw [c22]; rfl) (by decide) ?_
                                          exact (ih.2.2.2.2.2.2.2.2.2.2.2.2.2.2.2.2.2.2.2.1) γ τ η σ ο ρ w3 _ _ _ hX hG hT hH hZ hO hM hS (lv_sub hl [0, 1, 2, 3] rfl) h
                                        · replace h := h.2 c22
                                          by_cases c23 : v3 = 19
                                          · replace h := h.1 c23
                                            refine lv_tableIn (off := 783) (tgt := 815) hx hb dL_law_32 (by rw [c23]; decide) (by rw [c23]; decide) (by rw [c23]; rfl) (by decide) ?_
                                            exact (ih.2.2.2.2.2.2.2.2.2.2.2.2.2.2.2.2.2.2.2.2.1) γ τ η σ ο ρ w3 _ _ _ hX hG hT hH hZ hO hM hS (lv_sub hl [0, 1, 2, 3] rfl) h
                                          · replace h := h.2 c23
                                            by_cases c24 : v3 = 20
                                            · replace h := h.1 c24
                                              refine lv_tableIn (off := 806) (tgt := 838) hx hb dL_law_32 (by rw [c24]; decide) (by rw [c24]; decide) (by rw [c24]; rfl) (by decide) ?_
                                              exact (ih.2.2.2.2.2.2.2.2.2.2.2.2.2.2.2.2.2.2.2.2.2.1) γ τ η σ ο ρ w3 _ _ _ hX hG hT hH hZ hO hM hS (lv_sub hl [0, 1, 2, 3] rfl) h
                                            · replace h := h.2 c24
                                              by_cases c25 : v3 = 21
                                              · replace h := h.1 c25
                                                refine lv_tableIn (off := 819) (tgt := 851) hx hb dL_law_32 (by rw [c25]; decide) (by rw [c25]; decide) (by rw [c25]; rfl) (by decide) ?_
                                                exact (ih.2.2.2.2.2.2.2.2.2.2.2.2.2.2.2.2.2.2.2.2.2.2.1) γ τ η σ ο ρ w3 _ _ _ hX hG hT hH hZ hO hM hS (lv_sub hl [0, 1, 2, 3] rfl) h
                                              · replace h := h.2 c25
                                                by_cases c26 : v3 = 22
                                                · replace h := h.1 c26
                                                  refine lv_tableIn (off := 842) (tgt := 874) hx hb dL_law_32 (by rw [c26]; decide) (by rw [c26]; decide) (by rw [c26]; rfl) (by decide) ?_
                                                  exact (ih.2.2.2.2.2.2.2.2.2.2.2.2.2.2.2.2.2.2.2.2.2.2.2.1) γ τ η σ ο ρ w3 _ _ _ hX hG hT hH hZ hO hM hS (lv_sub hl [0, 1, 2, 3] rfl) h
                                                · replace h := h.2 c26
                                                  by_cases c27 : v3 = 23
                                                  · replace h := h.1 c27
                                                    refine lv_tableIn (off := 855) (tgt := 887) hx hb dL_law_32 (by rw [c27]; decide) (by rw [c27]; decide) (by rw [c27]; rfl) (by decide) ?_
                                                    exact (ih.2.2.2.2.2.2.2.2.2.2.2.2.2.2.2.2.2.2.2.2.2.2.2.2.1) γ τ η σ ο ρ w3 _ _ _ hX hG hT hH hZ hO hM hS (lv_sub hl [0, 1, 2, 3] rfl) h
                                                  · replace h := h.2 c27
                                                    by_cases c28 : v3 = 24
                                                    · replace h := h.1 c28
                                                      refine lv_tableIn (off := 878) (tgt := 910) hx hb dL_law_32 (by rw [c28]; decide) (by rw [c28]; decide) (by rw [c28]; rfl) (by decide) ?_
                                                      exact (ih.2.2.2.2.2.2.2.2.2.2.2.2.2.2.2.2.2.2.2.2.2.2.2.2.2.1) γ τ η σ ο ρ w3 _ _ _ hX hG hT hH hZ hO hM hS (lv_sub hl [0, 1, 2, 3] rfl) h
                                                    · replace h := h.2 c28
                                                      have hne := And.intro trivial (And.intro trivial trivial)
                                                      have c4i := lv_neT c4 (by rfl : (0 : Int32).toInt = 0)
                                                      have c5i := lv_neT c5 (by rfl : (1 : Int32).toInt = 1)
                                                      have c6i := lv_neT c6 (by rfl : (2 : Int32).toInt = 2)
                                                      have c7i := lv_neT c7 (by rfl : (3 : Int32).toInt = 3)
                                                      have c8i := lv_neT c8 (by rfl : (4 : Int32).toInt = 4)
                                                      have c9i := lv_neT c9 (by rfl : (5 : Int32).toInt = 5)
                                                      have c10i := lv_neT c10 (by rfl : (6 : Int32).toInt = 6)
                                                      have c11i := lv_neT c11 (by rfl : (7 : Int32).toInt = 7)
                                                      have c12i := lv_neT c12 (by rfl : (8 : Int32).toInt = 8)
                                                      have c13i := lv_neT c13 (by rfl : (9 : Int32).toInt = 9)
                                                      have c14i := lv_neT c14 (by rfl : (10 : Int32).toInt = 10)
                                                      have c15i := lv_neT c15 (by rfl : (11 : Int32).toInt = 11)
                                                      have c16i := lv_neT c16 (by rfl : (12 : Int32).toInt = 12)
                                                      have c17i := lv_neT c17 (by rfl : (13 : Int32).toInt = 13)
                                                      have c18i := lv_neT c18 (by rfl : (14 : Int32).toInt = 14)
                                                      have c19i := lv_neT c19 (by rfl : (15 : Int32).toInt = 15)
                                                      have c20i := lv_neT c20 (by rfl : (16 : Int32).toInt = 16)
                                                      have c21i := lv_neT c21 (by rfl : (17 : Int32).toInt = 17)
                                                      have c22i := lv_neT c22 (by rfl : (18 : Int32).toInt = 18)
                                                      have c23i := lv_neT c23 (by rfl : (19 : Int32).toInt = 19)
                                                      have c24i := lv_neT c24 (by rfl : (20 : Int32).toInt = 20)
                                                      have c25i := lv_neT c25 (by rfl : (21 : Int32).toInt = 21)
                                                      have c26i := lv_neT c26 (by rfl : (22 : Int32).toInt = 22)
                                                      have c27i := lv_neT c27 (by rfl : (23 : Int32).toInt = 23)
                                                      have c28i := lv_neT c28 (by rfl : (24 : Int32).toInt = 24)
                                                      refine lv_tableOut (tgt := 923) hx hb dL_law_32 (by omega) (by decide) ?_
                                                      exact (ih.2.2.2.2.2.2.2.2.2.2.2.2.2.2.2.2.2.2.2.2.2.2.2.2.2.2) γ τ η σ ο ρ w3 _ _ _ hX hG hT hH hZ hO hM hS (lv_sub hl [0, 1, 2, 3] rfl) h
set_option maxHeartbeats 8000000 in
set_option maxRecDepth 100000 in
theorem lawS_148 {p : Program} {l : Launch} {e : Env} {s : State} {m : MethodId} {below : List Frame} {meth : Method} {c : Code} {G : GG} {b L x y : Nat} {xs : Nat → Int32} (C : CX p m meth c s #[Value.ref b] code RL 4) (hr : meth.sig.returnType = ret) (hK : KK G s) (hXs : va_X b L xs s s.heap) (hbl : b < s.heap.size) (hx0 : s.heap.size = x) (hy0 : y = x + 138) (ξ : Mem) (n : Nat) (ih : lawK p l e s m below meth c G b L x y xs ξ n) : (∀ (γ : Mem) (τ : Mem) (η : Mem) (σ : (Nat → Mem)) (ο : Mem) (ρ : Mem) (w3 : Int32) (H : Heap) (locs : List Loc) (ls : Array Slot), rg G LX x ξ H → rg G LG (x + 1) γ H → rg G LG (x + 23) τ H → rg G LH (x + 45) η H → HG G (x + 46) σ H → rg G LO (x + 135) ο H → rg G LM y ρ H → va_S (fun q => x ≤ q) s.heap H locs → lv_has ls 4 [(0, .ref b), (1, .ref x), (2, .ref y), (3, .int w3)] → vb_L_law_148 L xs ξ (vl_L_law L xs ξ n) γ τ η σ ο ρ w3 → W p l e room_1 s m #[Value.ref b] below meth c H locs 146 2475 (lw_Z below #[Value.ref b] s) (F0 m 148 ls [])) := by
  intro γ τ η σ ο ρ w3 H locs ls hX hG hT hH hZ hO hM hS hl h
  obtain ⟨hx, hb, hml, hown, hts, hlocks⟩ := id C
  have hbA : ¬ (fun q : Nat => x ≤ q) b := by show ¬ x ≤ b; omega
  unfold lawK at ih
  unfold vb_L_law_148 at h
  refine lv_aload_n hx hb dL_law_148 rfl (lv_at hl 1 rfl) ?_
  refine g_vI C hK hl.1 (m_X7_player l G x ξ γ τ η σ ο _ h) mw_X7_player mi_X7_player ml_L_13 rfl ⟨rfl, rfl, Nat.le_of_ble_eq_true rfl, Nat.le_of_ble_eq_true rfl⟩ ⟨Nat.le_of_ble_eq_true rfl, Nat.le_of_ble_eq_true rfl⟩ (g_recv (a := x) (k := 0) hK hX rfl rfl) ⟨hX, hG, hT, hH, hZ, hO⟩ hS (fun q h => by simp only [RA] at h; omega) rfl (Nat.le_of_ble_eq_true rfl) dL_law_149 (fun r29 u H locs h hu _ hq hS => ?_)
  obtain ⟨γ30, τ31, η32, σ33⟩ := u
  dsimp only at h hu
  obtain ⟨hG, hT, hH, hZ⟩ := hu
  have hX := hX.past hq (fun j hj h => by have hj : j < 1 := hj; simp only [RA] at h; omega)
  have hO := hO.past hq (fun j hj h => by have hj : j < 3 := hj; simp only [RA] at h; omega)
  have hM := hM.past hq (fun j hj h => by have hj : j < 8 := hj; simp only [RA] at h; omega)
  refine lv_aload_n hx hb dL_law_152 rfl (lv_at hl 2 rfl) ?_
  refine g_vI C hK hl.1 (m_X8_player l G y ρ _ h) mw_X8_player mi_X8_player ml_L_17 rfl ⟨rfl, rfl, Nat.le_of_ble_eq_true rfl, Nat.le_of_ble_eq_true rfl⟩ ⟨Nat.le_of_ble_eq_true rfl, Nat.le_of_ble_eq_true rfl⟩ (g_recv (a := y) (k := 0) hK hM rfl rfl) hM hS (fun q h => by simp only [RA] at h; omega) rfl (Nat.le_of_ble_eq_true rfl) dL_law_153 (fun r34 u H locs h hu _ hq hS => ?_)
  obtain ⟨ρ35, rfl⟩ : ∃ z, z = u := ⟨_, rfl⟩
  have hM := hu
  have hX := hX.past hq (fun j hj h => by have hj : j < 1 := hj; simp only [RA] at h; omega)
  have hG := hG.past hq (fun j hj h => by have hj : j < 22 := hj; simp only [RA] at h; omega)
  have hT := hT.past hq (fun j hj h => by have hj : j < 22 := hj; simp only [RA] at h; omega)
  have hH := hH.past hq (fun j hj h => by have hj : j < 1 := hj; simp only [RA] at h; omega)
  have hZ := hZ.past hq (fun j hj h => by have hj : j < 89 := hj; simp only [RA] at h; omega)
  have hO := hO.past hq (fun j hj h => by have hj : j < 3 := hj; simp only [RA] at h; omega)
  refine lv_icmp_eq (tgt := 923) hx hb dL_law_156 (by decide) (fun c36 => ?_) (fun c36 => ?_)
  · replace h := h.1 c36
    exact (ih.2.2.2.2.2.2.2.2.2.2.2.2.2.2.2.2.2.2.2.2.2.2.2.2.2.2) γ30 τ31 η32 σ33 ο ρ35 w3 _ _ _ hX hG hT hH hZ hO hM hS (lv_sub hl [0, 1, 2, 3] rfl) h
  · replace h := h.2 c36
    refine lv_iconst (v := 0) hx hb dL_law_159 (by decide) ?_
    exact h.elim
set_option maxHeartbeats 8000000 in
set_option maxRecDepth 100000 in
theorem lawS_161 {p : Program} {l : Launch} {e : Env} {s : State} {m : MethodId} {below : List Frame} {meth : Method} {c : Code} {G : GG} {b L x y : Nat} {xs : Nat → Int32} (C : CX p m meth c s #[Value.ref b] code RL 4) (hr : meth.sig.returnType = ret) (hK : KK G s) (hXs : va_X b L xs s s.heap) (hbl : b < s.heap.size) (hx0 : s.heap.size = x) (hy0 : y = x + 138) (ξ : Mem) (n : Nat) (ih : lawK p l e s m below meth c G b L x y xs ξ n) : (∀ (γ : Mem) (τ : Mem) (η : Mem) (σ : (Nat → Mem)) (ο : Mem) (ρ : Mem) (w3 : Int32) (H : Heap) (locs : List Loc) (ls : Array Slot), rg G LX x ξ H → rg G LG (x + 1) γ H → rg G LG (x + 23) τ H → rg G LH (x + 45) η H → HG G (x + 46) σ H → rg G LO (x + 135) ο H → rg G LM y ρ H → va_S (fun q => x ≤ q) s.heap H locs → lv_has ls 4 [(0, .ref b), (1, .ref x), (2, .ref y), (3, .int w3)] → vb_L_law_161 L xs ξ (vl_L_law L xs ξ n) γ τ η σ ο ρ w3 → W p l e room_1 s m #[Value.ref b] below meth c H locs 146 2475 (lw_Z below #[Value.ref b] s) (F0 m 161 ls [])) := by
  intro γ τ η σ ο ρ w3 H locs ls hX hG hT hH hZ hO hM hS hl h
  obtain ⟨hx, hb, hml, hown, hts, hlocks⟩ := id C
  have hbA : ¬ (fun q : Nat => x ≤ q) b := by show ¬ x ≤ b; omega
  unfold lawK at ih
  unfold vb_L_law_161 at h
  refine lv_aload_n hx hb dL_law_161 rfl (lv_at hl 1 rfl) ?_
  refine lv_aload_n hx hb dL_law_162 rfl (lv_at hl 0 rfl) ?_
  refine lv_iload_n hx hb dL_law_163 rfl (lv_at hl 3 rfl) ?_
  refine lv_iconst (v := 1) hx hb dL_law_164 (by decide) ?_
  refine lv_iadd hx hb dL_law_165 ?_
  obtain ⟨b37, h⟩ := h
  refine va_sld hx hb hXs hbl hbA hS b37 dL_law_166 ?_
  refine lv_aload_n hx hb dL_law_167 rfl (lv_at hl 0 rfl) ?_
  refine lv_iload_n hx hb dL_law_168 rfl (lv_at hl 3 rfl) ?_
  refine lv_iconst (v := 2) hx hb dL_law_169 (by decide) ?_
  refine lv_iadd hx hb dL_law_170 ?_
  obtain ⟨b38, h⟩ := h
  refine va_sld hx hb hXs hbl hbA hS b38 dL_law_171 ?_
  refine lv_aload_n hx hb dL_law_172 rfl (lv_at hl 0 rfl) ?_
  refine lv_iload_n hx hb dL_law_173 rfl (lv_at hl 3 rfl) ?_
  refine lv_iconst (v := 3) hx hb dL_law_174 (by decide) ?_
  refine lv_iadd hx hb dL_law_175 ?_
  obtain ⟨b39, h⟩ := h
  refine va_sld hx hb hXs hbl hbA hS b39 dL_law_176 ?_
  refine g_vI C hK hl.1 (m_X7_size l G x ξ γ τ η σ ο (xs (w3 + 1).toNatClampNeg) (xs (w3 + 2).toNatClampNeg) (xs (w3 + 3).toNatClampNeg) _ h) mw_X7_size mi_X7_size ml_L_18 rfl ⟨rfl, rfl, Nat.le_of_ble_eq_true rfl, Nat.le_of_ble_eq_true rfl⟩ ⟨Nat.le_of_ble_eq_true rfl, Nat.le_of_ble_eq_true rfl⟩ (g_recv (a := x) (k := 0) hK hX rfl rfl) ⟨hX, hG, hT, hH, hZ, hO⟩ hS (fun q h => by simp only [RA] at h; omega) rfl (Nat.le_of_ble_eq_true rfl) dL_law_177 (fun r40 u H locs h hu _ hq hS => ?_)
  obtain ⟨γ41, τ42, η43, σ44⟩ := u
  dsimp only at h hu
  obtain ⟨hG, hT, hH, hZ⟩ := hu
  have hX := hX.past hq (fun j hj h => by have hj : j < 1 := hj; simp only [RA] at h; omega)
  have hO := hO.past hq (fun j hj h => by have hj : j < 3 := hj; simp only [RA] at h; omega)
  have hM := hM.past hq (fun j hj h => by have hj : j < 8 := hj; simp only [RA] at h; omega)
  refine lv_aload_n hx hb dL_law_180 rfl (lv_at hl 2 rfl) ?_
  refine lv_aload_n hx hb dL_law_181 rfl (lv_at hl 0 rfl) ?_
  refine lv_iload_n hx hb dL_law_182 rfl (lv_at hl 3 rfl) ?_
  refine lv_iconst (v := 1) hx hb dL_law_183 (by decide) ?_
  refine lv_iadd hx hb dL_law_184 ?_
  refine va_sld hx hb hXs hbl hbA hS b37 dL_law_185 ?_
  refine lv_aload_n hx hb dL_law_186 rfl (lv_at hl 0 rfl) ?_
  refine lv_iload_n hx hb dL_law_187 rfl (lv_at hl 3 rfl) ?_
  refine lv_iconst (v := 2) hx hb dL_law_188 (by decide) ?_
  refine lv_iadd hx hb dL_law_189 ?_
  refine va_sld hx hb hXs hbl hbA hS b38 dL_law_190 ?_
  refine lv_aload_n hx hb dL_law_191 rfl (lv_at hl 0 rfl) ?_
  refine lv_iload_n hx hb dL_law_192 rfl (lv_at hl 3 rfl) ?_
  refine lv_iconst (v := 3) hx hb dL_law_193 (by decide) ?_
  refine lv_iadd hx hb dL_law_194 ?_
  refine va_sld hx hb hXs hbl hbA hS b39 dL_law_195 ?_
  refine g_vI C hK hl.1 (m_X8_size l G y ρ (xs (w3 + 1).toNatClampNeg) (xs (w3 + 2).toNatClampNeg) (xs (w3 + 3).toNatClampNeg) _ h) mw_X8_size mi_X8_size ml_L_22 rfl ⟨rfl, rfl, Nat.le_of_ble_eq_true rfl, Nat.le_of_ble_eq_true rfl⟩ ⟨Nat.le_of_ble_eq_true rfl, Nat.le_of_ble_eq_true rfl⟩ (g_recv (a := y) (k := 0) hK hM rfl rfl) hM hS (fun q h => by simp only [RA] at h; omega) rfl (Nat.le_of_ble_eq_true rfl) dL_law_196 (fun r45 u H locs h hu _ hq hS => ?_)
  obtain ⟨ρ46, rfl⟩ : ∃ z, z = u := ⟨_, rfl⟩
  have hM := hu
  have hX := hX.past hq (fun j hj h => by have hj : j < 1 := hj; simp only [RA] at h; omega)
  have hG := hG.past hq (fun j hj h => by have hj : j < 22 := hj; simp only [RA] at h; omega)
  have hT := hT.past hq (fun j hj h => by have hj : j < 22 := hj; simp only [RA] at h; omega)
  have hH := hH.past hq (fun j hj h => by have hj : j < 1 := hj; simp only [RA] at h; omega)
  have hZ := hZ.past hq (fun j hj h => by have hj : j < 89 := hj; simp only [RA] at h; omega)
  have hO := hO.past hq (fun j hj h => by have hj : j < 3 := hj; simp only [RA] at h; omega)
  refine lv_icmp_eq (tgt := 923) hx hb dL_law_199 (by decide) (fun c47 => ?_) (fun c47 => ?_)
  · replace h := h.1 c47
    exact (ih.2.2.2.2.2.2.2.2.2.2.2.2.2.2.2.2.2.2.2.2.2.2.2.2.2.2) γ41 τ42 η43 σ44 ο ρ46 w3 _ _ _ hX hG hT hH hZ hO hM hS (lv_sub hl [0, 1, 2, 3] rfl) h
  · replace h := h.2 c47
    refine lv_iconst (v := 0) hx hb dL_law_202 (by decide) ?_
    exact h.elim
set_option maxHeartbeats 8000000 in
set_option maxRecDepth 100000 in
theorem lawS_204 {p : Program} {l : Launch} {e : Env} {s : State} {m : MethodId} {below : List Frame} {meth : Method} {c : Code} {G : GG} {b L x y : Nat} {xs : Nat → Int32} (C : CX p m meth c s #[Value.ref b] code RL 4) (hr : meth.sig.returnType = ret) (hK : KK G s) (hXs : va_X b L xs s s.heap) (hbl : b < s.heap.size) (hx0 : s.heap.size = x) (hy0 : y = x + 138) (ξ : Mem) (n : Nat) (ih : lawK p l e s m below meth c G b L x y xs ξ n) : (∀ (γ : Mem) (τ : Mem) (η : Mem) (σ : (Nat → Mem)) (ο : Mem) (ρ : Mem) (w3 : Int32) (H : Heap) (locs : List Loc) (ls : Array Slot), rg G LX x ξ H → rg G LG (x + 1) γ H → rg G LG (x + 23) τ H → rg G LH (x + 45) η H → HG G (x + 46) σ H → rg G LO (x + 135) ο H → rg G LM y ρ H → va_S (fun q => x ≤ q) s.heap H locs → lv_has ls 4 [(0, .ref b), (1, .ref x), (2, .ref y), (3, .int w3)] → vb_L_law_204 L xs ξ (vl_L_law L xs ξ n) γ τ η σ ο ρ w3 → W p l e room_1 s m #[Value.ref b] below meth c H locs 146 2475 (lw_Z below #[Value.ref b] s) (F0 m 204 ls [])) := by
  intro γ τ η σ ο ρ w3 H locs ls hX hG hT hH hZ hO hM hS hl h
  obtain ⟨hx, hb, hml, hown, hts, hlocks⟩ := id C
  have hbA : ¬ (fun q : Nat => x ≤ q) b := by show ¬ x ≤ b; omega
  unfold lawK at ih
  unfold vb_L_law_204 at h
  refine lv_aload_n hx hb dL_law_204 rfl (lv_at hl 1 rfl) ?_
  refine lv_aload_n hx hb dL_law_205 rfl (lv_at hl 0 rfl) ?_
  refine lv_iload_n hx hb dL_law_206 rfl (lv_at hl 3 rfl) ?_
  refine lv_iconst (v := 1) hx hb dL_law_207 (by decide) ?_
  refine lv_iadd hx hb dL_law_208 ?_
  obtain ⟨b48, h⟩ := h
  refine va_sld hx hb hXs hbl hbA hS b48 dL_law_209 ?_
  refine lv_aload_n hx hb dL_law_210 rfl (lv_at hl 0 rfl) ?_
  refine lv_iload_n hx hb dL_law_211 rfl (lv_at hl 3 rfl) ?_
  refine lv_iconst (v := 2) hx hb dL_law_212 (by decide) ?_
  refine lv_iadd hx hb dL_law_213 ?_
  obtain ⟨b49, h⟩ := h
  refine va_sld hx hb hXs hbl hbA hS b49 dL_law_214 ?_
  refine lv_aload_n hx hb dL_law_215 rfl (lv_at hl 0 rfl) ?_
  refine lv_iload_n hx hb dL_law_216 rfl (lv_at hl 3 rfl) ?_
  refine lv_iconst (v := 3) hx hb dL_law_217 (by decide) ?_
  refine lv_iadd hx hb dL_law_218 ?_
  obtain ⟨b50, h⟩ := h
  refine va_sld hx hb hXs hbl hbA hS b50 dL_law_219 ?_
  refine lv_aload_n hx hb dL_law_220 rfl (lv_at hl 0 rfl) ?_
  refine lv_iload_n hx hb dL_law_221 rfl (lv_at hl 3 rfl) ?_
  refine lv_iconst (v := 4) hx hb dL_law_222 (by decide) ?_
  refine lv_iadd hx hb dL_law_223 ?_
  obtain ⟨b51, h⟩ := h
  refine va_sld hx hb hXs hbl hbA hS b51 dL_law_224 ?_
  refine g_vI C hK hl.1 (m_X7_task l G x ξ γ τ η σ ο (xs (w3 + 1).toNatClampNeg) (xs (w3 + 2).toNatClampNeg) (xs (w3 + 3).toNatClampNeg) (xs (w3 + 4).toNatClampNeg) _ h) mw_X7_task mi_X7_task ml_L_23 rfl ⟨rfl, rfl, Nat.le_of_ble_eq_true rfl, Nat.le_of_ble_eq_true rfl⟩ ⟨Nat.le_of_ble_eq_true rfl, Nat.le_of_ble_eq_true rfl⟩ (g_recv (a := x) (k := 0) hK hX rfl rfl) ⟨hX, hG, hT, hH, hZ, hO⟩ hS (fun q h => by simp only [RA] at h; omega) rfl (Nat.le_of_ble_eq_true rfl) dL_law_225 (fun r52 u H locs h hu _ hq hS => ?_)
  obtain ⟨γ53, τ54, η55, σ56⟩ := u
  dsimp only at h hu
  obtain ⟨hG, hT, hH, hZ⟩ := hu
  have hX := hX.past hq (fun j hj h => by have hj : j < 1 := hj; simp only [RA] at h; omega)
  have hO := hO.past hq (fun j hj h => by have hj : j < 3 := hj; simp only [RA] at h; omega)
  have hM := hM.past hq (fun j hj h => by have hj : j < 8 := hj; simp only [RA] at h; omega)
  refine lv_aload_n hx hb dL_law_228 rfl (lv_at hl 2 rfl) ?_
  refine lv_aload_n hx hb dL_law_229 rfl (lv_at hl 0 rfl) ?_
  refine lv_iload_n hx hb dL_law_230 rfl (lv_at hl 3 rfl) ?_
  refine lv_iconst (v := 1) hx hb dL_law_231 (by decide) ?_
  refine lv_iadd hx hb dL_law_232 ?_
  refine va_sld hx hb hXs hbl hbA hS b48 dL_law_233 ?_
  refine lv_aload_n hx hb dL_law_234 rfl (lv_at hl 0 rfl) ?_
  refine lv_iload_n hx hb dL_law_235 rfl (lv_at hl 3 rfl) ?_
  refine lv_iconst (v := 2) hx hb dL_law_236 (by decide) ?_
  refine lv_iadd hx hb dL_law_237 ?_
  refine va_sld hx hb hXs hbl hbA hS b49 dL_law_238 ?_
  refine lv_aload_n hx hb dL_law_239 rfl (lv_at hl 0 rfl) ?_
  refine lv_iload_n hx hb dL_law_240 rfl (lv_at hl 3 rfl) ?_
  refine lv_iconst (v := 3) hx hb dL_law_241 (by decide) ?_
  refine lv_iadd hx hb dL_law_242 ?_
  refine va_sld hx hb hXs hbl hbA hS b50 dL_law_243 ?_
  refine lv_aload_n hx hb dL_law_244 rfl (lv_at hl 0 rfl) ?_
  refine lv_iload_n hx hb dL_law_245 rfl (lv_at hl 3 rfl) ?_
  refine lv_iconst (v := 4) hx hb dL_law_246 (by decide) ?_
  refine lv_iadd hx hb dL_law_247 ?_
  refine va_sld hx hb hXs hbl hbA hS b51 dL_law_248 ?_
  refine g_vI C hK hl.1 (m_X8_task l G y ρ (xs (w3 + 1).toNatClampNeg) (xs (w3 + 2).toNatClampNeg) (xs (w3 + 3).toNatClampNeg) (xs (w3 + 4).toNatClampNeg) _ h) mw_X8_task mi_X8_task ml_L_27 rfl ⟨rfl, rfl, Nat.le_of_ble_eq_true rfl, Nat.le_of_ble_eq_true rfl⟩ ⟨Nat.le_of_ble_eq_true rfl, Nat.le_of_ble_eq_true rfl⟩ (g_recv (a := y) (k := 0) hK hM rfl rfl) hM hS (fun q h => by simp only [RA] at h; omega) rfl (Nat.le_of_ble_eq_true rfl) dL_law_249 (fun r57 u H locs h hu _ hq hS => ?_)
  obtain ⟨ρ58, rfl⟩ : ∃ z, z = u := ⟨_, rfl⟩
  have hM := hu
  have hX := hX.past hq (fun j hj h => by have hj : j < 1 := hj; simp only [RA] at h; omega)
  have hG := hG.past hq (fun j hj h => by have hj : j < 22 := hj; simp only [RA] at h; omega)
  have hT := hT.past hq (fun j hj h => by have hj : j < 22 := hj; simp only [RA] at h; omega)
  have hH := hH.past hq (fun j hj h => by have hj : j < 1 := hj; simp only [RA] at h; omega)
  have hZ := hZ.past hq (fun j hj h => by have hj : j < 89 := hj; simp only [RA] at h; omega)
  have hO := hO.past hq (fun j hj h => by have hj : j < 3 := hj; simp only [RA] at h; omega)
  refine lv_icmp_eq (tgt := 923) hx hb dL_law_252 (by decide) (fun c59 => ?_) (fun c59 => ?_)
  · replace h := h.1 c59
    exact (ih.2.2.2.2.2.2.2.2.2.2.2.2.2.2.2.2.2.2.2.2.2.2.2.2.2.2) γ53 τ54 η55 σ56 ο ρ58 w3 _ _ _ hX hG hT hH hZ hO hM hS (lv_sub hl [0, 1, 2, 3] rfl) h
  · replace h := h.2 c59
    refine lv_iconst (v := 0) hx hb dL_law_255 (by decide) ?_
    exact h.elim
set_option maxHeartbeats 8000000 in
set_option maxRecDepth 100000 in
theorem lawS_257 {p : Program} {l : Launch} {e : Env} {s : State} {m : MethodId} {below : List Frame} {meth : Method} {c : Code} {G : GG} {b L x y : Nat} {xs : Nat → Int32} (C : CX p m meth c s #[Value.ref b] code RL 4) (hr : meth.sig.returnType = ret) (hK : KK G s) (hXs : va_X b L xs s s.heap) (hbl : b < s.heap.size) (hx0 : s.heap.size = x) (hy0 : y = x + 138) (ξ : Mem) (n : Nat) (ih : lawK p l e s m below meth c G b L x y xs ξ n) : (∀ (γ : Mem) (τ : Mem) (η : Mem) (σ : (Nat → Mem)) (ο : Mem) (ρ : Mem) (w3 : Int32) (H : Heap) (locs : List Loc) (ls : Array Slot), rg G LX x ξ H → rg G LG (x + 1) γ H → rg G LG (x + 23) τ H → rg G LH (x + 45) η H → HG G (x + 46) σ H → rg G LO (x + 135) ο H → rg G LM y ρ H → va_S (fun q => x ≤ q) s.heap H locs → lv_has ls 4 [(0, .ref b), (1, .ref x), (2, .ref y), (3, .int w3)] → vb_L_law_257 L xs ξ (vl_L_law L xs ξ n) γ τ η σ ο ρ w3 → W p l e room_1 s m #[Value.ref b] below meth c H locs 146 2475 (lw_Z below #[Value.ref b] s) (F0 m 257 ls [])) := by
  intro γ τ η σ ο ρ w3 H locs ls hX hG hT hH hZ hO hM hS hl h
  obtain ⟨hx, hb, hml, hown, hts, hlocks⟩ := id C
  have hbA : ¬ (fun q : Nat => x ≤ q) b := by show ¬ x ≤ b; omega
  unfold lawK at ih
  unfold vb_L_law_257 at h
  refine lv_aload_n hx hb dL_law_257 rfl (lv_at hl 1 rfl) ?_
  refine lv_aload_n hx hb dL_law_258 rfl (lv_at hl 0 rfl) ?_
  refine lv_iload_n hx hb dL_law_259 rfl (lv_at hl 3 rfl) ?_
  refine lv_iconst (v := 1) hx hb dL_law_260 (by decide) ?_
  refine lv_iadd hx hb dL_law_261 ?_
  obtain ⟨b60, h⟩ := h
  refine va_sld hx hb hXs hbl hbA hS b60 dL_law_262 ?_
  refine lv_aload_n hx hb dL_law_263 rfl (lv_at hl 0 rfl) ?_
  refine lv_iload_n hx hb dL_law_264 rfl (lv_at hl 3 rfl) ?_
  refine lv_iconst (v := 2) hx hb dL_law_265 (by decide) ?_
  refine lv_iadd hx hb dL_law_266 ?_
  obtain ⟨b61, h⟩ := h
  refine va_sld hx hb hXs hbl hbA hS b61 dL_law_267 ?_
  refine g_vI C hK hl.1 (m_X7_contract l G x ξ γ τ η σ ο (xs (w3 + 1).toNatClampNeg) (xs (w3 + 2).toNatClampNeg) _ h) mw_X7_contract mi_X7_contract ml_L_28 rfl ⟨rfl, rfl, Nat.le_of_ble_eq_true rfl, Nat.le_of_ble_eq_true rfl⟩ ⟨Nat.le_of_ble_eq_true rfl, Nat.le_of_ble_eq_true rfl⟩ (g_recv (a := x) (k := 0) hK hX rfl rfl) ⟨hX, hG, hT, hH, hZ, hO⟩ hS (fun q h => by simp only [RA] at h; omega) rfl (Nat.le_of_ble_eq_true rfl) dL_law_268 (fun r62 u H locs h hu _ hq hS => ?_)
  obtain ⟨γ63, τ64, η65, σ66⟩ := u
  dsimp only at h hu
  obtain ⟨hG, hT, hH, hZ⟩ := hu
  have hX := hX.past hq (fun j hj h => by have hj : j < 1 := hj; simp only [RA] at h; omega)
  have hO := hO.past hq (fun j hj h => by have hj : j < 3 := hj; simp only [RA] at h; omega)
  have hM := hM.past hq (fun j hj h => by have hj : j < 8 := hj; simp only [RA] at h; omega)
  refine lv_aload_n hx hb dL_law_271 rfl (lv_at hl 2 rfl) ?_
  refine lv_aload_n hx hb dL_law_272 rfl (lv_at hl 0 rfl) ?_
  refine lv_iload_n hx hb dL_law_273 rfl (lv_at hl 3 rfl) ?_
  refine lv_iconst (v := 1) hx hb dL_law_274 (by decide) ?_
  refine lv_iadd hx hb dL_law_275 ?_
  refine va_sld hx hb hXs hbl hbA hS b60 dL_law_276 ?_
  refine lv_aload_n hx hb dL_law_277 rfl (lv_at hl 0 rfl) ?_
  refine lv_iload_n hx hb dL_law_278 rfl (lv_at hl 3 rfl) ?_
  refine lv_iconst (v := 2) hx hb dL_law_279 (by decide) ?_
  refine lv_iadd hx hb dL_law_280 ?_
  refine va_sld hx hb hXs hbl hbA hS b61 dL_law_281 ?_
  refine g_vI C hK hl.1 (m_X8_contract l G y ρ (xs (w3 + 1).toNatClampNeg) (xs (w3 + 2).toNatClampNeg) _ h) mw_X8_contract mi_X8_contract ml_L_32 rfl ⟨rfl, rfl, Nat.le_of_ble_eq_true rfl, Nat.le_of_ble_eq_true rfl⟩ ⟨Nat.le_of_ble_eq_true rfl, Nat.le_of_ble_eq_true rfl⟩ (g_recv (a := y) (k := 0) hK hM rfl rfl) hM hS (fun q h => by simp only [RA] at h; omega) rfl (Nat.le_of_ble_eq_true rfl) dL_law_282 (fun r67 u H locs h hu _ hq hS => ?_)
  obtain ⟨ρ68, rfl⟩ : ∃ z, z = u := ⟨_, rfl⟩
  have hM := hu
  have hX := hX.past hq (fun j hj h => by have hj : j < 1 := hj; simp only [RA] at h; omega)
  have hG := hG.past hq (fun j hj h => by have hj : j < 22 := hj; simp only [RA] at h; omega)
  have hT := hT.past hq (fun j hj h => by have hj : j < 22 := hj; simp only [RA] at h; omega)
  have hH := hH.past hq (fun j hj h => by have hj : j < 1 := hj; simp only [RA] at h; omega)
  have hZ := hZ.past hq (fun j hj h => by have hj : j < 89 := hj; simp only [RA] at h; omega)
  have hO := hO.past hq (fun j hj h => by have hj : j < 3 := hj; simp only [RA] at h; omega)
  refine lv_icmp_eq (tgt := 923) hx hb dL_law_285 (by decide) (fun c69 => ?_) (fun c69 => ?_)
  · replace h := h.1 c69
    exact (ih.2.2.2.2.2.2.2.2.2.2.2.2.2.2.2.2.2.2.2.2.2.2.2.2.2.2) γ63 τ64 η65 σ66 ο ρ68 w3 _ _ _ hX hG hT hH hZ hO hM hS (lv_sub hl [0, 1, 2, 3] rfl) h
  · replace h := h.2 c69
    refine lv_iconst (v := 0) hx hb dL_law_288 (by decide) ?_
    exact h.elim
set_option maxHeartbeats 8000000 in
set_option maxRecDepth 100000 in
theorem lawS_290 {p : Program} {l : Launch} {e : Env} {s : State} {m : MethodId} {below : List Frame} {meth : Method} {c : Code} {G : GG} {b L x y : Nat} {xs : Nat → Int32} (C : CX p m meth c s #[Value.ref b] code RL 4) (hr : meth.sig.returnType = ret) (hK : KK G s) (hXs : va_X b L xs s s.heap) (hbl : b < s.heap.size) (hx0 : s.heap.size = x) (hy0 : y = x + 138) (ξ : Mem) (n : Nat) (ih : lawK p l e s m below meth c G b L x y xs ξ n) : (∀ (γ : Mem) (τ : Mem) (η : Mem) (σ : (Nat → Mem)) (ο : Mem) (ρ : Mem) (w3 : Int32) (H : Heap) (locs : List Loc) (ls : Array Slot), rg G LX x ξ H → rg G LG (x + 1) γ H → rg G LG (x + 23) τ H → rg G LH (x + 45) η H → HG G (x + 46) σ H → rg G LO (x + 135) ο H → rg G LM y ρ H → va_S (fun q => x ≤ q) s.heap H locs → lv_has ls 4 [(0, .ref b), (1, .ref x), (2, .ref y), (3, .int w3)] → vb_L_law_290 L xs ξ (vl_L_law L xs ξ n) γ τ η σ ο ρ w3 → W p l e room_1 s m #[Value.ref b] below meth c H locs 146 2475 (lw_Z below #[Value.ref b] s) (F0 m 290 ls [])) := by
  intro γ τ η σ ο ρ w3 H locs ls hX hG hT hH hZ hO hM hS hl h
  obtain ⟨hx, hb, hml, hown, hts, hlocks⟩ := id C
  have hbA : ¬ (fun q : Nat => x ≤ q) b := by show ¬ x ≤ b; omega
  unfold lawK at ih
  unfold vb_L_law_290 at h
  refine lv_aload_n hx hb dL_law_290 rfl (lv_at hl 1 rfl) ?_
  refine lv_aload_n hx hb dL_law_291 rfl (lv_at hl 0 rfl) ?_
  refine lv_iload_n hx hb dL_law_292 rfl (lv_at hl 3 rfl) ?_
  refine lv_iconst (v := 1) hx hb dL_law_293 (by decide) ?_
  refine lv_iadd hx hb dL_law_294 ?_
  obtain ⟨b70, h⟩ := h
  refine va_sld hx hb hXs hbl hbA hS b70 dL_law_295 ?_
  refine lv_aload_n hx hb dL_law_296 rfl (lv_at hl 0 rfl) ?_
  refine lv_iload_n hx hb dL_law_297 rfl (lv_at hl 3 rfl) ?_
  refine lv_iconst (v := 2) hx hb dL_law_298 (by decide) ?_
  refine lv_iadd hx hb dL_law_299 ?_
  obtain ⟨b71, h⟩ := h
  refine va_sld hx hb hXs hbl hbA hS b71 dL_law_300 ?_
  refine lv_aload_n hx hb dL_law_301 rfl (lv_at hl 0 rfl) ?_
  refine lv_iload_n hx hb dL_law_302 rfl (lv_at hl 3 rfl) ?_
  refine lv_iconst (v := 3) hx hb dL_law_303 (by decide) ?_
  refine lv_iadd hx hb dL_law_304 ?_
  obtain ⟨b72, h⟩ := h
  refine va_sld hx hb hXs hbl hbA hS b72 dL_law_305 ?_
  refine g_vI C hK hl.1 (m_X7_put l G x ξ γ τ η σ ο (xs (w3 + 1).toNatClampNeg) (xs (w3 + 2).toNatClampNeg) (xs (w3 + 3).toNatClampNeg) _ h) mw_X7_put mi_X7_put ml_L_33 rfl ⟨rfl, rfl, Nat.le_of_ble_eq_true rfl, Nat.le_of_ble_eq_true rfl⟩ ⟨Nat.le_of_ble_eq_true rfl, Nat.le_of_ble_eq_true rfl⟩ (g_recv (a := x) (k := 0) hK hX rfl rfl) ⟨hX, hG, hT, hH, hZ, hO⟩ hS (fun q h => by simp only [RA] at h; omega) rfl (Nat.le_of_ble_eq_true rfl) dL_law_306 (fun r73 u H locs h hu _ hq hS => ?_)
  obtain ⟨γ74, τ75, η76, σ77⟩ := u
  dsimp only at h hu
  obtain ⟨hG, hT, hH, hZ⟩ := hu
  have hX := hX.past hq (fun j hj h => by have hj : j < 1 := hj; simp only [RA] at h; omega)
  have hO := hO.past hq (fun j hj h => by have hj : j < 3 := hj; simp only [RA] at h; omega)
  have hM := hM.past hq (fun j hj h => by have hj : j < 8 := hj; simp only [RA] at h; omega)
  refine lv_aload_n hx hb dL_law_309 rfl (lv_at hl 2 rfl) ?_
  refine lv_aload_n hx hb dL_law_310 rfl (lv_at hl 0 rfl) ?_
  refine lv_iload_n hx hb dL_law_311 rfl (lv_at hl 3 rfl) ?_
  refine lv_iconst (v := 1) hx hb dL_law_312 (by decide) ?_
  refine lv_iadd hx hb dL_law_313 ?_
  refine va_sld hx hb hXs hbl hbA hS b70 dL_law_314 ?_
  refine lv_aload_n hx hb dL_law_315 rfl (lv_at hl 0 rfl) ?_
  refine lv_iload_n hx hb dL_law_316 rfl (lv_at hl 3 rfl) ?_
  refine lv_iconst (v := 2) hx hb dL_law_317 (by decide) ?_
  refine lv_iadd hx hb dL_law_318 ?_
  refine va_sld hx hb hXs hbl hbA hS b71 dL_law_319 ?_
  refine lv_aload_n hx hb dL_law_320 rfl (lv_at hl 0 rfl) ?_
  refine lv_iload_n hx hb dL_law_321 rfl (lv_at hl 3 rfl) ?_
  refine lv_iconst (v := 3) hx hb dL_law_322 (by decide) ?_
  refine lv_iadd hx hb dL_law_323 ?_
  refine va_sld hx hb hXs hbl hbA hS b72 dL_law_324 ?_
  refine g_vI C hK hl.1 (m_X8_put l G y ρ (xs (w3 + 1).toNatClampNeg) (xs (w3 + 2).toNatClampNeg) (xs (w3 + 3).toNatClampNeg) _ h) mw_X8_put mi_X8_put ml_L_36 rfl ⟨rfl, rfl, Nat.le_of_ble_eq_true rfl, Nat.le_of_ble_eq_true rfl⟩ ⟨Nat.le_of_ble_eq_true rfl, Nat.le_of_ble_eq_true rfl⟩ (g_recv (a := y) (k := 0) hK hM rfl rfl) hM hS (fun q h => by simp only [RA] at h; omega) rfl (Nat.le_of_ble_eq_true rfl) dL_law_325 (fun r78 u H locs h hu _ hq hS => ?_)
  obtain ⟨ρ79, rfl⟩ : ∃ z, z = u := ⟨_, rfl⟩
  have hM := hu
  have hX := hX.past hq (fun j hj h => by have hj : j < 1 := hj; simp only [RA] at h; omega)
  have hG := hG.past hq (fun j hj h => by have hj : j < 22 := hj; simp only [RA] at h; omega)
  have hT := hT.past hq (fun j hj h => by have hj : j < 22 := hj; simp only [RA] at h; omega)
  have hH := hH.past hq (fun j hj h => by have hj : j < 1 := hj; simp only [RA] at h; omega)
  have hZ := hZ.past hq (fun j hj h => by have hj : j < 89 := hj; simp only [RA] at h; omega)
  have hO := hO.past hq (fun j hj h => by have hj : j < 3 := hj; simp only [RA] at h; omega)
  refine lv_icmp_eq (tgt := 923) hx hb dL_law_328 (by decide) (fun c80 => ?_) (fun c80 => ?_)
  · replace h := h.1 c80
    exact (ih.2.2.2.2.2.2.2.2.2.2.2.2.2.2.2.2.2.2.2.2.2.2.2.2.2.2) γ74 τ75 η76 σ77 ο ρ79 w3 _ _ _ hX hG hT hH hZ hO hM hS (lv_sub hl [0, 1, 2, 3] rfl) h
  · replace h := h.2 c80
    refine lv_iconst (v := 0) hx hb dL_law_331 (by decide) ?_
    exact h.elim
set_option maxHeartbeats 8000000 in
set_option maxRecDepth 100000 in
theorem lawS_333 {p : Program} {l : Launch} {e : Env} {s : State} {m : MethodId} {below : List Frame} {meth : Method} {c : Code} {G : GG} {b L x y : Nat} {xs : Nat → Int32} (C : CX p m meth c s #[Value.ref b] code RL 4) (hr : meth.sig.returnType = ret) (hK : KK G s) (hXs : va_X b L xs s s.heap) (hbl : b < s.heap.size) (hx0 : s.heap.size = x) (hy0 : y = x + 138) (ξ : Mem) (n : Nat) (ih : lawK p l e s m below meth c G b L x y xs ξ n) : (∀ (γ : Mem) (τ : Mem) (η : Mem) (σ : (Nat → Mem)) (ο : Mem) (ρ : Mem) (w3 : Int32) (H : Heap) (locs : List Loc) (ls : Array Slot), rg G LX x ξ H → rg G LG (x + 1) γ H → rg G LG (x + 23) τ H → rg G LH (x + 45) η H → HG G (x + 46) σ H → rg G LO (x + 135) ο H → rg G LM y ρ H → va_S (fun q => x ≤ q) s.heap H locs → lv_has ls 4 [(0, .ref b), (1, .ref x), (2, .ref y), (3, .int w3)] → vb_L_law_333 L xs ξ (vl_L_law L xs ξ n) γ τ η σ ο ρ w3 → W p l e room_1 s m #[Value.ref b] below meth c H locs 146 2475 (lw_Z below #[Value.ref b] s) (F0 m 333 ls [])) := by
  intro γ τ η σ ο ρ w3 H locs ls hX hG hT hH hZ hO hM hS hl h
  obtain ⟨hx, hb, hml, hown, hts, hlocks⟩ := id C
  have hbA : ¬ (fun q : Nat => x ≤ q) b := by show ¬ x ≤ b; omega
  unfold lawK at ih
  unfold vb_L_law_333 at h
  refine lv_aload_n hx hb dL_law_333 rfl (lv_at hl 1 rfl) ?_
  refine lv_aload_n hx hb dL_law_334 rfl (lv_at hl 0 rfl) ?_
  refine lv_iload_n hx hb dL_law_335 rfl (lv_at hl 3 rfl) ?_
  refine lv_iconst (v := 1) hx hb dL_law_336 (by decide) ?_
  refine lv_iadd hx hb dL_law_337 ?_
  obtain ⟨b81, h⟩ := h
  refine va_sld hx hb hXs hbl hbA hS b81 dL_law_338 ?_
  refine lv_aload_n hx hb dL_law_339 rfl (lv_at hl 0 rfl) ?_
  refine lv_iload_n hx hb dL_law_340 rfl (lv_at hl 3 rfl) ?_
  refine lv_iconst (v := 2) hx hb dL_law_341 (by decide) ?_
  refine lv_iadd hx hb dL_law_342 ?_
  obtain ⟨b82, h⟩ := h
  refine va_sld hx hb hXs hbl hbA hS b82 dL_law_343 ?_
  refine g_vI C hK hl.1 (m_X7_home l G x ξ γ τ η σ ο (xs (w3 + 1).toNatClampNeg) (xs (w3 + 2).toNatClampNeg) _ h) mw_X7_home mi_X7_home ml_L_37 rfl ⟨rfl, rfl, Nat.le_of_ble_eq_true rfl, Nat.le_of_ble_eq_true rfl⟩ ⟨Nat.le_of_ble_eq_true rfl, Nat.le_of_ble_eq_true rfl⟩ (g_recv (a := x) (k := 0) hK hX rfl rfl) ⟨hX, hG, hT, hH, hZ, hO⟩ hS (fun q h => by simp only [RA] at h; omega) rfl (Nat.le_of_ble_eq_true rfl) dL_law_344 (fun r83 u H locs h hu _ hq hS => ?_)
  obtain ⟨γ84, τ85, η86, σ87⟩ := u
  dsimp only at h hu
  obtain ⟨hG, hT, hH, hZ⟩ := hu
  have hX := hX.past hq (fun j hj h => by have hj : j < 1 := hj; simp only [RA] at h; omega)
  have hO := hO.past hq (fun j hj h => by have hj : j < 3 := hj; simp only [RA] at h; omega)
  have hM := hM.past hq (fun j hj h => by have hj : j < 8 := hj; simp only [RA] at h; omega)
  refine lv_aload_n hx hb dL_law_347 rfl (lv_at hl 2 rfl) ?_
  refine lv_aload_n hx hb dL_law_348 rfl (lv_at hl 0 rfl) ?_
  refine lv_iload_n hx hb dL_law_349 rfl (lv_at hl 3 rfl) ?_
  refine lv_iconst (v := 1) hx hb dL_law_350 (by decide) ?_
  refine lv_iadd hx hb dL_law_351 ?_
  refine va_sld hx hb hXs hbl hbA hS b81 dL_law_352 ?_
  refine lv_aload_n hx hb dL_law_353 rfl (lv_at hl 0 rfl) ?_
  refine lv_iload_n hx hb dL_law_354 rfl (lv_at hl 3 rfl) ?_
  refine lv_iconst (v := 2) hx hb dL_law_355 (by decide) ?_
  refine lv_iadd hx hb dL_law_356 ?_
  refine va_sld hx hb hXs hbl hbA hS b82 dL_law_357 ?_
  refine g_vI C hK hl.1 (m_X8_home l G y ρ (xs (w3 + 1).toNatClampNeg) (xs (w3 + 2).toNatClampNeg) _ h) mw_X8_home mi_X8_home ml_L_40 rfl ⟨rfl, rfl, Nat.le_of_ble_eq_true rfl, Nat.le_of_ble_eq_true rfl⟩ ⟨Nat.le_of_ble_eq_true rfl, Nat.le_of_ble_eq_true rfl⟩ (g_recv (a := y) (k := 0) hK hM rfl rfl) hM hS (fun q h => by simp only [RA] at h; omega) rfl (Nat.le_of_ble_eq_true rfl) dL_law_358 (fun r88 u H locs h hu _ hq hS => ?_)
  obtain ⟨ρ89, rfl⟩ : ∃ z, z = u := ⟨_, rfl⟩
  have hM := hu
  have hX := hX.past hq (fun j hj h => by have hj : j < 1 := hj; simp only [RA] at h; omega)
  have hG := hG.past hq (fun j hj h => by have hj : j < 22 := hj; simp only [RA] at h; omega)
  have hT := hT.past hq (fun j hj h => by have hj : j < 22 := hj; simp only [RA] at h; omega)
  have hH := hH.past hq (fun j hj h => by have hj : j < 1 := hj; simp only [RA] at h; omega)
  have hZ := hZ.past hq (fun j hj h => by have hj : j < 89 := hj; simp only [RA] at h; omega)
  have hO := hO.past hq (fun j hj h => by have hj : j < 3 := hj; simp only [RA] at h; omega)
  refine lv_icmp_eq (tgt := 923) hx hb dL_law_361 (by decide) (fun c90 => ?_) (fun c90 => ?_)
  · replace h := h.1 c90
    exact (ih.2.2.2.2.2.2.2.2.2.2.2.2.2.2.2.2.2.2.2.2.2.2.2.2.2.2) γ84 τ85 η86 σ87 ο ρ89 w3 _ _ _ hX hG hT hH hZ hO hM hS (lv_sub hl [0, 1, 2, 3] rfl) h
  · replace h := h.2 c90
    refine lv_iconst (v := 0) hx hb dL_law_364 (by decide) ?_
    exact h.elim
set_option maxHeartbeats 8000000 in
set_option maxRecDepth 100000 in
theorem lawS_366 {p : Program} {l : Launch} {e : Env} {s : State} {m : MethodId} {below : List Frame} {meth : Method} {c : Code} {G : GG} {b L x y : Nat} {xs : Nat → Int32} (C : CX p m meth c s #[Value.ref b] code RL 4) (hr : meth.sig.returnType = ret) (hK : KK G s) (hXs : va_X b L xs s s.heap) (hbl : b < s.heap.size) (hx0 : s.heap.size = x) (hy0 : y = x + 138) (ξ : Mem) (n : Nat) (ih : lawK p l e s m below meth c G b L x y xs ξ n) : (∀ (γ : Mem) (τ : Mem) (η : Mem) (σ : (Nat → Mem)) (ο : Mem) (ρ : Mem) (w3 : Int32) (H : Heap) (locs : List Loc) (ls : Array Slot), rg G LX x ξ H → rg G LG (x + 1) γ H → rg G LG (x + 23) τ H → rg G LH (x + 45) η H → HG G (x + 46) σ H → rg G LO (x + 135) ο H → rg G LM y ρ H → va_S (fun q => x ≤ q) s.heap H locs → lv_has ls 4 [(0, .ref b), (1, .ref x), (2, .ref y), (3, .int w3)] → vb_L_law_366 L xs ξ (vl_L_law L xs ξ n) γ τ η σ ο ρ w3 → W p l e room_1 s m #[Value.ref b] below meth c H locs 146 2475 (lw_Z below #[Value.ref b] s) (F0 m 366 ls [])) := by
  intro γ τ η σ ο ρ w3 H locs ls hX hG hT hH hZ hO hM hS hl h
  obtain ⟨hx, hb, hml, hown, hts, hlocks⟩ := id C
  have hbA : ¬ (fun q : Nat => x ≤ q) b := by show ¬ x ≤ b; omega
  unfold lawK at ih
  unfold vb_L_law_366 at h
  refine lv_aload_n hx hb dL_law_366 rfl (lv_at hl 1 rfl) ?_
  refine lv_aload_n hx hb dL_law_367 rfl (lv_at hl 0 rfl) ?_
  refine lv_iload_n hx hb dL_law_368 rfl (lv_at hl 3 rfl) ?_
  refine lv_iconst (v := 1) hx hb dL_law_369 (by decide) ?_
  refine lv_iadd hx hb dL_law_370 ?_
  obtain ⟨b91, h⟩ := h
  refine va_sld hx hb hXs hbl hbA hS b91 dL_law_371 ?_
  refine lv_aload_n hx hb dL_law_372 rfl (lv_at hl 0 rfl) ?_
  refine lv_iload_n hx hb dL_law_373 rfl (lv_at hl 3 rfl) ?_
  refine lv_iconst (v := 2) hx hb dL_law_374 (by decide) ?_
  refine lv_iadd hx hb dL_law_375 ?_
  obtain ⟨b92, h⟩ := h
  refine va_sld hx hb hXs hbl hbA hS b92 dL_law_376 ?_
  refine g_vI C hK hl.1 (m_X7_flip l G x ξ γ τ η σ ο (xs (w3 + 1).toNatClampNeg) (xs (w3 + 2).toNatClampNeg) _ h) mw_X7_flip mi_X7_flip ml_L_41 rfl ⟨rfl, rfl, Nat.le_of_ble_eq_true rfl, Nat.le_of_ble_eq_true rfl⟩ ⟨Nat.le_of_ble_eq_true rfl, Nat.le_of_ble_eq_true rfl⟩ (g_recv (a := x) (k := 0) hK hX rfl rfl) ⟨hX, hG, hT, hH, hZ, hO⟩ hS (fun q h => by simp only [RA] at h; omega) rfl (Nat.le_of_ble_eq_true rfl) dL_law_377 (fun r93 u H locs h hu _ hq hS => ?_)
  obtain ⟨γ94, τ95, η96, σ97⟩ := u
  dsimp only at h hu
  obtain ⟨hG, hT, hH, hZ⟩ := hu
  have hX := hX.past hq (fun j hj h => by have hj : j < 1 := hj; simp only [RA] at h; omega)
  have hO := hO.past hq (fun j hj h => by have hj : j < 3 := hj; simp only [RA] at h; omega)
  have hM := hM.past hq (fun j hj h => by have hj : j < 8 := hj; simp only [RA] at h; omega)
  refine lv_aload_n hx hb dL_law_380 rfl (lv_at hl 2 rfl) ?_
  refine lv_aload_n hx hb dL_law_381 rfl (lv_at hl 0 rfl) ?_
  refine lv_iload_n hx hb dL_law_382 rfl (lv_at hl 3 rfl) ?_
  refine lv_iconst (v := 1) hx hb dL_law_383 (by decide) ?_
  refine lv_iadd hx hb dL_law_384 ?_
  refine va_sld hx hb hXs hbl hbA hS b91 dL_law_385 ?_
  refine lv_aload_n hx hb dL_law_386 rfl (lv_at hl 0 rfl) ?_
  refine lv_iload_n hx hb dL_law_387 rfl (lv_at hl 3 rfl) ?_
  refine lv_iconst (v := 2) hx hb dL_law_388 (by decide) ?_
  refine lv_iadd hx hb dL_law_389 ?_
  refine va_sld hx hb hXs hbl hbA hS b92 dL_law_390 ?_
  refine g_vI C hK hl.1 (m_X8_flip l G y ρ (xs (w3 + 1).toNatClampNeg) (xs (w3 + 2).toNatClampNeg) _ h) mw_X8_flip mi_X8_flip ml_L_44 rfl ⟨rfl, rfl, Nat.le_of_ble_eq_true rfl, Nat.le_of_ble_eq_true rfl⟩ ⟨Nat.le_of_ble_eq_true rfl, Nat.le_of_ble_eq_true rfl⟩ (g_recv (a := y) (k := 0) hK hM rfl rfl) hM hS (fun q h => by simp only [RA] at h; omega) rfl (Nat.le_of_ble_eq_true rfl) dL_law_391 (fun r98 u H locs h hu _ hq hS => ?_)
  obtain ⟨ρ99, rfl⟩ : ∃ z, z = u := ⟨_, rfl⟩
  have hM := hu
  have hX := hX.past hq (fun j hj h => by have hj : j < 1 := hj; simp only [RA] at h; omega)
  have hG := hG.past hq (fun j hj h => by have hj : j < 22 := hj; simp only [RA] at h; omega)
  have hT := hT.past hq (fun j hj h => by have hj : j < 22 := hj; simp only [RA] at h; omega)
  have hH := hH.past hq (fun j hj h => by have hj : j < 1 := hj; simp only [RA] at h; omega)
  have hZ := hZ.past hq (fun j hj h => by have hj : j < 89 := hj; simp only [RA] at h; omega)
  have hO := hO.past hq (fun j hj h => by have hj : j < 3 := hj; simp only [RA] at h; omega)
  refine lv_icmp_eq (tgt := 923) hx hb dL_law_394 (by decide) (fun c100 => ?_) (fun c100 => ?_)
  · replace h := h.1 c100
    exact (ih.2.2.2.2.2.2.2.2.2.2.2.2.2.2.2.2.2.2.2.2.2.2.2.2.2.2) γ94 τ95 η96 σ97 ο ρ99 w3 _ _ _ hX hG hT hH hZ hO hM hS (lv_sub hl [0, 1, 2, 3] rfl) h
  · replace h := h.2 c100
    refine lv_iconst (v := 0) hx hb dL_law_397 (by decide) ?_
    exact h.elim
set_option maxHeartbeats 8000000 in
set_option maxRecDepth 100000 in
theorem lawS_399 {p : Program} {l : Launch} {e : Env} {s : State} {m : MethodId} {below : List Frame} {meth : Method} {c : Code} {G : GG} {b L x y : Nat} {xs : Nat → Int32} (C : CX p m meth c s #[Value.ref b] code RL 4) (hr : meth.sig.returnType = ret) (hK : KK G s) (hXs : va_X b L xs s s.heap) (hbl : b < s.heap.size) (hx0 : s.heap.size = x) (hy0 : y = x + 138) (ξ : Mem) (n : Nat) (ih : lawK p l e s m below meth c G b L x y xs ξ n) : (∀ (γ : Mem) (τ : Mem) (η : Mem) (σ : (Nat → Mem)) (ο : Mem) (ρ : Mem) (w3 : Int32) (H : Heap) (locs : List Loc) (ls : Array Slot), rg G LX x ξ H → rg G LG (x + 1) γ H → rg G LG (x + 23) τ H → rg G LH (x + 45) η H → HG G (x + 46) σ H → rg G LO (x + 135) ο H → rg G LM y ρ H → va_S (fun q => x ≤ q) s.heap H locs → lv_has ls 4 [(0, .ref b), (1, .ref x), (2, .ref y), (3, .int w3)] → vb_L_law_399 L xs ξ (vl_L_law L xs ξ n) γ τ η σ ο ρ w3 → W p l e room_1 s m #[Value.ref b] below meth c H locs 146 2475 (lw_Z below #[Value.ref b] s) (F0 m 399 ls [])) := by
  intro γ τ η σ ο ρ w3 H locs ls hX hG hT hH hZ hO hM hS hl h
  obtain ⟨hx, hb, hml, hown, hts, hlocks⟩ := id C
  have hbA : ¬ (fun q : Nat => x ≤ q) b := by show ¬ x ≤ b; omega
  unfold lawK at ih
  unfold vb_L_law_399 at h
  refine lv_aload_n hx hb dL_law_399 rfl (lv_at hl 1 rfl) ?_
  refine lv_aload_n hx hb dL_law_400 rfl (lv_at hl 0 rfl) ?_
  refine lv_iload_n hx hb dL_law_401 rfl (lv_at hl 3 rfl) ?_
  refine lv_iconst (v := 1) hx hb dL_law_402 (by decide) ?_
  refine lv_iadd hx hb dL_law_403 ?_
  obtain ⟨b101, h⟩ := h
  refine va_sld hx hb hXs hbl hbA hS b101 dL_law_404 ?_
  refine lv_aload_n hx hb dL_law_405 rfl (lv_at hl 0 rfl) ?_
  refine lv_iload_n hx hb dL_law_406 rfl (lv_at hl 3 rfl) ?_
  refine lv_iconst (v := 2) hx hb dL_law_407 (by decide) ?_
  refine lv_iadd hx hb dL_law_408 ?_
  obtain ⟨b102, h⟩ := h
  refine va_sld hx hb hXs hbl hbA hS b102 dL_law_409 ?_
  refine g_vI C hK hl.1 (m_X7_buy l G x ξ γ τ η σ ο (xs (w3 + 1).toNatClampNeg) (xs (w3 + 2).toNatClampNeg) _ h) mw_X7_buy mi_X7_buy ml_L_45 rfl ⟨rfl, rfl, Nat.le_of_ble_eq_true rfl, Nat.le_of_ble_eq_true rfl⟩ ⟨Nat.le_of_ble_eq_true rfl, Nat.le_of_ble_eq_true rfl⟩ (g_recv (a := x) (k := 0) hK hX rfl rfl) ⟨hX, hG, hT, hH, hZ, hO⟩ hS (fun q h => by simp only [RA] at h; omega) rfl (Nat.le_of_ble_eq_true rfl) dL_law_410 (fun r103 u H locs h hu _ hq hS => ?_)
  obtain ⟨γ104, τ105, η106, σ107⟩ := u
  dsimp only at h hu
  obtain ⟨hG, hT, hH, hZ⟩ := hu
  have hX := hX.past hq (fun j hj h => by have hj : j < 1 := hj; simp only [RA] at h; omega)
  have hO := hO.past hq (fun j hj h => by have hj : j < 3 := hj; simp only [RA] at h; omega)
  have hM := hM.past hq (fun j hj h => by have hj : j < 8 := hj; simp only [RA] at h; omega)
  refine lv_aload_n hx hb dL_law_413 rfl (lv_at hl 2 rfl) ?_
  refine lv_aload_n hx hb dL_law_414 rfl (lv_at hl 0 rfl) ?_
  refine lv_iload_n hx hb dL_law_415 rfl (lv_at hl 3 rfl) ?_
  refine lv_iconst (v := 1) hx hb dL_law_416 (by decide) ?_
  refine lv_iadd hx hb dL_law_417 ?_
  refine va_sld hx hb hXs hbl hbA hS b101 dL_law_418 ?_
  refine lv_aload_n hx hb dL_law_419 rfl (lv_at hl 0 rfl) ?_
  refine lv_iload_n hx hb dL_law_420 rfl (lv_at hl 3 rfl) ?_
  refine lv_iconst (v := 2) hx hb dL_law_421 (by decide) ?_
  refine lv_iadd hx hb dL_law_422 ?_
  refine va_sld hx hb hXs hbl hbA hS b102 dL_law_423 ?_
  refine g_vI C hK hl.1 (m_X8_buy l G y ρ (xs (w3 + 1).toNatClampNeg) (xs (w3 + 2).toNatClampNeg) _ h) mw_X8_buy mi_X8_buy ml_L_48 rfl ⟨rfl, rfl, Nat.le_of_ble_eq_true rfl, Nat.le_of_ble_eq_true rfl⟩ ⟨Nat.le_of_ble_eq_true rfl, Nat.le_of_ble_eq_true rfl⟩ (g_recv (a := y) (k := 0) hK hM rfl rfl) hM hS (fun q h => by simp only [RA] at h; omega) rfl (Nat.le_of_ble_eq_true rfl) dL_law_424 (fun r108 u H locs h hu _ hq hS => ?_)
  obtain ⟨ρ109, rfl⟩ : ∃ z, z = u := ⟨_, rfl⟩
  have hM := hu
  have hX := hX.past hq (fun j hj h => by have hj : j < 1 := hj; simp only [RA] at h; omega)
  have hG := hG.past hq (fun j hj h => by have hj : j < 22 := hj; simp only [RA] at h; omega)
  have hT := hT.past hq (fun j hj h => by have hj : j < 22 := hj; simp only [RA] at h; omega)
  have hH := hH.past hq (fun j hj h => by have hj : j < 1 := hj; simp only [RA] at h; omega)
  have hZ := hZ.past hq (fun j hj h => by have hj : j < 89 := hj; simp only [RA] at h; omega)
  have hO := hO.past hq (fun j hj h => by have hj : j < 3 := hj; simp only [RA] at h; omega)
  refine lv_icmp_eq (tgt := 923) hx hb dL_law_427 (by decide) (fun c110 => ?_) (fun c110 => ?_)
  · replace h := h.1 c110
    exact (ih.2.2.2.2.2.2.2.2.2.2.2.2.2.2.2.2.2.2.2.2.2.2.2.2.2.2) γ104 τ105 η106 σ107 ο ρ109 w3 _ _ _ hX hG hT hH hZ hO hM hS (lv_sub hl [0, 1, 2, 3] rfl) h
  · replace h := h.2 c110
    refine lv_iconst (v := 0) hx hb dL_law_430 (by decide) ?_
    exact h.elim
set_option maxHeartbeats 8000000 in
set_option maxRecDepth 100000 in
theorem lawS_432 {p : Program} {l : Launch} {e : Env} {s : State} {m : MethodId} {below : List Frame} {meth : Method} {c : Code} {G : GG} {b L x y : Nat} {xs : Nat → Int32} (C : CX p m meth c s #[Value.ref b] code RL 4) (hr : meth.sig.returnType = ret) (hK : KK G s) (hXs : va_X b L xs s s.heap) (hbl : b < s.heap.size) (hx0 : s.heap.size = x) (hy0 : y = x + 138) (ξ : Mem) (n : Nat) (ih : lawK p l e s m below meth c G b L x y xs ξ n) : (∀ (γ : Mem) (τ : Mem) (η : Mem) (σ : (Nat → Mem)) (ο : Mem) (ρ : Mem) (w3 : Int32) (H : Heap) (locs : List Loc) (ls : Array Slot), rg G LX x ξ H → rg G LG (x + 1) γ H → rg G LG (x + 23) τ H → rg G LH (x + 45) η H → HG G (x + 46) σ H → rg G LO (x + 135) ο H → rg G LM y ρ H → va_S (fun q => x ≤ q) s.heap H locs → lv_has ls 4 [(0, .ref b), (1, .ref x), (2, .ref y), (3, .int w3)] → vb_L_law_432 L xs ξ (vl_L_law L xs ξ n) γ τ η σ ο ρ w3 → W p l e room_1 s m #[Value.ref b] below meth c H locs 146 2475 (lw_Z below #[Value.ref b] s) (F0 m 432 ls [])) := by
  intro γ τ η σ ο ρ w3 H locs ls hX hG hT hH hZ hO hM hS hl h
  obtain ⟨hx, hb, hml, hown, hts, hlocks⟩ := id C
  have hbA : ¬ (fun q : Nat => x ≤ q) b := by show ¬ x ≤ b; omega
  unfold lawK at ih
  unfold vb_L_law_432 at h
  refine lv_aload_n hx hb dL_law_432 rfl (lv_at hl 1 rfl) ?_
  refine lv_aload_n hx hb dL_law_433 rfl (lv_at hl 0 rfl) ?_
  refine lv_iload_n hx hb dL_law_434 rfl (lv_at hl 3 rfl) ?_
  refine lv_iconst (v := 1) hx hb dL_law_435 (by decide) ?_
  refine lv_iadd hx hb dL_law_436 ?_
  obtain ⟨b111, h⟩ := h
  refine va_sld hx hb hXs hbl hbA hS b111 dL_law_437 ?_
  refine g_vI C hK hl.1 (m_X7_pass l G x ξ γ τ η σ ο (xs (w3 + 1).toNatClampNeg) _ h) mw_X7_pass mi_X7_pass ml_L_49 rfl ⟨rfl, rfl, Nat.le_of_ble_eq_true rfl, Nat.le_of_ble_eq_true rfl⟩ ⟨Nat.le_of_ble_eq_true rfl, Nat.le_of_ble_eq_true rfl⟩ (g_recv (a := x) (k := 0) hK hX rfl rfl) ⟨hX, hG, hT, hH, hZ, hO⟩ hS (fun q h => by simp only [RA] at h; omega) rfl (Nat.le_of_ble_eq_true rfl) dL_law_438 (fun r112 u H locs h hu _ hq hS => ?_)
  obtain ⟨γ113, τ114, η115, σ116⟩ := u
  dsimp only at h hu
  obtain ⟨hG, hT, hH, hZ⟩ := hu
  have hX := hX.past hq (fun j hj h => by have hj : j < 1 := hj; simp only [RA] at h; omega)
  have hO := hO.past hq (fun j hj h => by have hj : j < 3 := hj; simp only [RA] at h; omega)
  have hM := hM.past hq (fun j hj h => by have hj : j < 8 := hj; simp only [RA] at h; omega)
  refine lv_aload_n hx hb dL_law_441 rfl (lv_at hl 2 rfl) ?_
  refine lv_aload_n hx hb dL_law_442 rfl (lv_at hl 0 rfl) ?_
  refine lv_iload_n hx hb dL_law_443 rfl (lv_at hl 3 rfl) ?_
  refine lv_iconst (v := 1) hx hb dL_law_444 (by decide) ?_
  refine lv_iadd hx hb dL_law_445 ?_
  refine va_sld hx hb hXs hbl hbA hS b111 dL_law_446 ?_
  refine g_vI C hK hl.1 (m_X8_pass l G y ρ (xs (w3 + 1).toNatClampNeg) _ h) mw_X8_pass mi_X8_pass ml_L_53 rfl ⟨rfl, rfl, Nat.le_of_ble_eq_true rfl, Nat.le_of_ble_eq_true rfl⟩ ⟨Nat.le_of_ble_eq_true rfl, Nat.le_of_ble_eq_true rfl⟩ (g_recv (a := y) (k := 0) hK hM rfl rfl) hM hS (fun q h => by simp only [RA] at h; omega) rfl (Nat.le_of_ble_eq_true rfl) dL_law_447 (fun r117 u H locs h hu _ hq hS => ?_)
  obtain ⟨ρ118, rfl⟩ : ∃ z, z = u := ⟨_, rfl⟩
  have hM := hu
  have hX := hX.past hq (fun j hj h => by have hj : j < 1 := hj; simp only [RA] at h; omega)
  have hG := hG.past hq (fun j hj h => by have hj : j < 22 := hj; simp only [RA] at h; omega)
  have hT := hT.past hq (fun j hj h => by have hj : j < 22 := hj; simp only [RA] at h; omega)
  have hH := hH.past hq (fun j hj h => by have hj : j < 1 := hj; simp only [RA] at h; omega)
  have hZ := hZ.past hq (fun j hj h => by have hj : j < 89 := hj; simp only [RA] at h; omega)
  have hO := hO.past hq (fun j hj h => by have hj : j < 3 := hj; simp only [RA] at h; omega)
  refine lv_icmp_eq (tgt := 923) hx hb dL_law_450 (by decide) (fun c119 => ?_) (fun c119 => ?_)
  · replace h := h.1 c119
    exact (ih.2.2.2.2.2.2.2.2.2.2.2.2.2.2.2.2.2.2.2.2.2.2.2.2.2.2) γ113 τ114 η115 σ116 ο ρ118 w3 _ _ _ hX hG hT hH hZ hO hM hS (lv_sub hl [0, 1, 2, 3] rfl) h
  · replace h := h.2 c119
    refine lv_iconst (v := 0) hx hb dL_law_453 (by decide) ?_
    exact h.elim
set_option maxHeartbeats 8000000 in
set_option maxRecDepth 100000 in
theorem lawS_455 {p : Program} {l : Launch} {e : Env} {s : State} {m : MethodId} {below : List Frame} {meth : Method} {c : Code} {G : GG} {b L x y : Nat} {xs : Nat → Int32} (C : CX p m meth c s #[Value.ref b] code RL 4) (hr : meth.sig.returnType = ret) (hK : KK G s) (hXs : va_X b L xs s s.heap) (hbl : b < s.heap.size) (hx0 : s.heap.size = x) (hy0 : y = x + 138) (ξ : Mem) (n : Nat) (ih : lawK p l e s m below meth c G b L x y xs ξ n) : (∀ (γ : Mem) (τ : Mem) (η : Mem) (σ : (Nat → Mem)) (ο : Mem) (ρ : Mem) (w3 : Int32) (H : Heap) (locs : List Loc) (ls : Array Slot), rg G LX x ξ H → rg G LG (x + 1) γ H → rg G LG (x + 23) τ H → rg G LH (x + 45) η H → HG G (x + 46) σ H → rg G LO (x + 135) ο H → rg G LM y ρ H → va_S (fun q => x ≤ q) s.heap H locs → lv_has ls 4 [(0, .ref b), (1, .ref x), (2, .ref y), (3, .int w3)] → vb_L_law_455 L xs ξ (vl_L_law L xs ξ n) γ τ η σ ο ρ w3 → W p l e room_1 s m #[Value.ref b] below meth c H locs 146 2475 (lw_Z below #[Value.ref b] s) (F0 m 455 ls [])) := by
  intro γ τ η σ ο ρ w3 H locs ls hX hG hT hH hZ hO hM hS hl h
  obtain ⟨hx, hb, hml, hown, hts, hlocks⟩ := id C
  have hbA : ¬ (fun q : Nat => x ≤ q) b := by show ¬ x ≤ b; omega
  unfold lawK at ih
  unfold vb_L_law_455 at h
  refine lv_aload_n hx hb dL_law_455 rfl (lv_at hl 1 rfl) ?_
  refine lv_aload_n hx hb dL_law_456 rfl (lv_at hl 0 rfl) ?_
  refine lv_iload_n hx hb dL_law_457 rfl (lv_at hl 3 rfl) ?_
  refine lv_iconst (v := 1) hx hb dL_law_458 (by decide) ?_
  refine lv_iadd hx hb dL_law_459 ?_
  obtain ⟨b120, h⟩ := h
  refine va_sld hx hb hXs hbl hbA hS b120 dL_law_460 ?_
  refine lv_aload_n hx hb dL_law_461 rfl (lv_at hl 0 rfl) ?_
  refine lv_iload_n hx hb dL_law_462 rfl (lv_at hl 3 rfl) ?_
  refine lv_iconst (v := 2) hx hb dL_law_463 (by decide) ?_
  refine lv_iadd hx hb dL_law_464 ?_
  obtain ⟨b121, h⟩ := h
  refine va_sld hx hb hXs hbl hbA hS b121 dL_law_465 ?_
  refine g_vI C hK hl.1 (m_X7_playerOf l G x ξ γ τ η σ ο (xs (w3 + 1).toNatClampNeg) (xs (w3 + 2).toNatClampNeg) _ h) mw_X7_playerOf mi_X7_playerOf ml_L_54 rfl ⟨rfl, rfl, Nat.le_of_ble_eq_true rfl, Nat.le_of_ble_eq_true rfl⟩ ⟨Nat.le_of_ble_eq_true rfl, Nat.le_of_ble_eq_true rfl⟩ (g_recv (a := x) (k := 0) hK hX rfl rfl) ⟨hX, hG, hT, hH, hZ, hO⟩ hS (fun q h => by simp only [RA] at h; omega) rfl (Nat.le_of_ble_eq_true rfl) dL_law_466 (fun r122 u H locs h hu _ hq hS => ?_)
  obtain ⟨τ123, rfl⟩ : ∃ z, z = u := ⟨_, rfl⟩
  have hT := hu
  have hX := hX.past hq (fun j hj h => by have hj : j < 1 := hj; simp only [RA] at h; omega)
  have hG := hG.past hq (fun j hj h => by have hj : j < 22 := hj; simp only [RA] at h; omega)
  have hH := hH.past hq (fun j hj h => by have hj : j < 1 := hj; simp only [RA] at h; omega)
  have hZ := hZ.past hq (fun j hj h => by have hj : j < 89 := hj; simp only [RA] at h; omega)
  have hO := hO.past hq (fun j hj h => by have hj : j < 3 := hj; simp only [RA] at h; omega)
  have hM := hM.past hq (fun j hj h => by have hj : j < 8 := hj; simp only [RA] at h; omega)
  refine lv_aload_n hx hb dL_law_469 rfl (lv_at hl 2 rfl) ?_
  refine lv_aload_n hx hb dL_law_470 rfl (lv_at hl 0 rfl) ?_
  refine lv_iload_n hx hb dL_law_471 rfl (lv_at hl 3 rfl) ?_
  refine lv_iconst (v := 1) hx hb dL_law_472 (by decide) ?_
  refine lv_iadd hx hb dL_law_473 ?_
  refine va_sld hx hb hXs hbl hbA hS b120 dL_law_474 ?_
  refine lv_aload_n hx hb dL_law_475 rfl (lv_at hl 0 rfl) ?_
  refine lv_iload_n hx hb dL_law_476 rfl (lv_at hl 3 rfl) ?_
  refine lv_iconst (v := 2) hx hb dL_law_477 (by decide) ?_
  refine lv_iadd hx hb dL_law_478 ?_
  refine va_sld hx hb hXs hbl hbA hS b121 dL_law_479 ?_
  refine g_vI C hK hl.1 (m_X8_playerOf l G y ρ (xs (w3 + 1).toNatClampNeg) (xs (w3 + 2).toNatClampNeg) _ h) mw_X8_playerOf mi_X8_playerOf ml_L_57 rfl ⟨rfl, rfl, Nat.le_of_ble_eq_true rfl, Nat.le_of_ble_eq_true rfl⟩ ⟨Nat.le_of_ble_eq_true rfl, Nat.le_of_ble_eq_true rfl⟩ (g_recv (a := y) (k := 0) hK hM rfl rfl) hM hS (fun q h => by simp only [RA] at h; omega) rfl (Nat.le_of_ble_eq_true rfl) dL_law_480 (fun r124 u H locs h hu _ hq hS => ?_)
  obtain ⟨ρ125, rfl⟩ : ∃ z, z = u := ⟨_, rfl⟩
  have hM := hu
  have hX := hX.past hq (fun j hj h => by have hj : j < 1 := hj; simp only [RA] at h; omega)
  have hG := hG.past hq (fun j hj h => by have hj : j < 22 := hj; simp only [RA] at h; omega)
  have hT := hT.past hq (fun j hj h => by have hj : j < 22 := hj; simp only [RA] at h; omega)
  have hH := hH.past hq (fun j hj h => by have hj : j < 1 := hj; simp only [RA] at h; omega)
  have hZ := hZ.past hq (fun j hj h => by have hj : j < 89 := hj; simp only [RA] at h; omega)
  have hO := hO.past hq (fun j hj h => by have hj : j < 3 := hj; simp only [RA] at h; omega)
  refine lv_icmp_eq (tgt := 923) hx hb dL_law_483 (by decide) (fun c126 => ?_) (fun c126 => ?_)
  · replace h := h.1 c126
    exact (ih.2.2.2.2.2.2.2.2.2.2.2.2.2.2.2.2.2.2.2.2.2.2.2.2.2.2) γ τ123 η σ ο ρ125 w3 _ _ _ hX hG hT hH hZ hO hM hS (lv_sub hl [0, 1, 2, 3] rfl) h
  · replace h := h.2 c126
    refine lv_iconst (v := 0) hx hb dL_law_486 (by decide) ?_
    exact h.elim
set_option maxHeartbeats 8000000 in
set_option maxRecDepth 100000 in
theorem lawS_488 {p : Program} {l : Launch} {e : Env} {s : State} {m : MethodId} {below : List Frame} {meth : Method} {c : Code} {G : GG} {b L x y : Nat} {xs : Nat → Int32} (C : CX p m meth c s #[Value.ref b] code RL 4) (hr : meth.sig.returnType = ret) (hK : KK G s) (hXs : va_X b L xs s s.heap) (hbl : b < s.heap.size) (hx0 : s.heap.size = x) (hy0 : y = x + 138) (ξ : Mem) (n : Nat) (ih : lawK p l e s m below meth c G b L x y xs ξ n) : (∀ (γ : Mem) (τ : Mem) (η : Mem) (σ : (Nat → Mem)) (ο : Mem) (ρ : Mem) (w3 : Int32) (H : Heap) (locs : List Loc) (ls : Array Slot), rg G LX x ξ H → rg G LG (x + 1) γ H → rg G LG (x + 23) τ H → rg G LH (x + 45) η H → HG G (x + 46) σ H → rg G LO (x + 135) ο H → rg G LM y ρ H → va_S (fun q => x ≤ q) s.heap H locs → lv_has ls 4 [(0, .ref b), (1, .ref x), (2, .ref y), (3, .int w3)] → vb_L_law_488 L xs ξ (vl_L_law L xs ξ n) γ τ η σ ο ρ w3 → W p l e room_1 s m #[Value.ref b] below meth c H locs 146 2475 (lw_Z below #[Value.ref b] s) (F0 m 488 ls [])) := by
  intro γ τ η σ ο ρ w3 H locs ls hX hG hT hH hZ hO hM hS hl h
  obtain ⟨hx, hb, hml, hown, hts, hlocks⟩ := id C
  have hbA : ¬ (fun q : Nat => x ≤ q) b := by show ¬ x ≤ b; omega
  unfold lawK at ih
  unfold vb_L_law_488 at h
  refine lv_aload_n hx hb dL_law_488 rfl (lv_at hl 1 rfl) ?_
  refine lv_aload_n hx hb dL_law_489 rfl (lv_at hl 0 rfl) ?_
  refine lv_iload_n hx hb dL_law_490 rfl (lv_at hl 3 rfl) ?_
  refine lv_iconst (v := 1) hx hb dL_law_491 (by decide) ?_
  refine lv_iadd hx hb dL_law_492 ?_
  obtain ⟨b127, h⟩ := h
  refine va_sld hx hb hXs hbl hbA hS b127 dL_law_493 ?_
  refine lv_aload_n hx hb dL_law_494 rfl (lv_at hl 0 rfl) ?_
  refine lv_iload_n hx hb dL_law_495 rfl (lv_at hl 3 rfl) ?_
  refine lv_iconst (v := 2) hx hb dL_law_496 (by decide) ?_
  refine lv_iadd hx hb dL_law_497 ?_
  obtain ⟨b128, h⟩ := h
  refine va_sld hx hb hXs hbl hbA hS b128 dL_law_498 ?_
  refine lv_aload_n hx hb dL_law_499 rfl (lv_at hl 0 rfl) ?_
  refine lv_iload_n hx hb dL_law_500 rfl (lv_at hl 3 rfl) ?_
  refine lv_iconst (v := 3) hx hb dL_law_501 (by decide) ?_
  refine lv_iadd hx hb dL_law_502 ?_
  obtain ⟨b129, h⟩ := h
  refine va_sld hx hb hXs hbl hbA hS b129 dL_law_503 ?_
  refine g_vI C hK hl.1 (m_X7_workerOf l G x ξ γ τ η σ ο (xs (w3 + 1).toNatClampNeg) (xs (w3 + 2).toNatClampNeg) (xs (w3 + 3).toNatClampNeg) _ h) mw_X7_workerOf mi_X7_workerOf ml_L_58 rfl ⟨rfl, rfl, Nat.le_of_ble_eq_true rfl, Nat.le_of_ble_eq_true rfl⟩ ⟨Nat.le_of_ble_eq_true rfl, Nat.le_of_ble_eq_true rfl⟩ (g_recv (a := x) (k := 0) hK hX rfl rfl) ⟨hX, hG, hT, hH, hZ, hO⟩ hS (fun _ h => h.elim) rfl (Nat.le_of_ble_eq_true rfl) dL_law_504 (fun r130 u H locs h hu _ hq hS => ?_)
  have hX := hX.past hq (fun _ _ h => h)
  have hG := hG.past hq (fun _ _ h => h)
  have hT := hT.past hq (fun _ _ h => h)
  have hH := hH.past hq (fun _ _ h => h)
  have hZ := hZ.past hq (fun _ _ h => h)
  have hO := hO.past hq (fun _ _ h => h)
  have hM := hM.past hq (fun _ _ h => h)
  refine lv_aload_n hx hb dL_law_507 rfl (lv_at hl 2 rfl) ?_
  refine lv_aload_n hx hb dL_law_508 rfl (lv_at hl 0 rfl) ?_
  refine lv_iload_n hx hb dL_law_509 rfl (lv_at hl 3 rfl) ?_
  refine lv_iconst (v := 1) hx hb dL_law_510 (by decide) ?_
  refine lv_iadd hx hb dL_law_511 ?_
  refine va_sld hx hb hXs hbl hbA hS b127 dL_law_512 ?_
  refine lv_aload_n hx hb dL_law_513 rfl (lv_at hl 0 rfl) ?_
  refine lv_iload_n hx hb dL_law_514 rfl (lv_at hl 3 rfl) ?_
  refine lv_iconst (v := 2) hx hb dL_law_515 (by decide) ?_
  refine lv_iadd hx hb dL_law_516 ?_
  refine va_sld hx hb hXs hbl hbA hS b128 dL_law_517 ?_
  refine lv_aload_n hx hb dL_law_518 rfl (lv_at hl 0 rfl) ?_
  refine lv_iload_n hx hb dL_law_519 rfl (lv_at hl 3 rfl) ?_
  refine lv_iconst (v := 3) hx hb dL_law_520 (by decide) ?_
  refine lv_iadd hx hb dL_law_521 ?_
  refine va_sld hx hb hXs hbl hbA hS b129 dL_law_522 ?_
  refine g_vI C hK hl.1 (m_X8_workerOf l G y ρ (xs (w3 + 1).toNatClampNeg) (xs (w3 + 2).toNatClampNeg) (xs (w3 + 3).toNatClampNeg) _ h) mw_X8_workerOf mi_X8_workerOf ml_L_61 rfl ⟨rfl, rfl, Nat.le_of_ble_eq_true rfl, Nat.le_of_ble_eq_true rfl⟩ ⟨Nat.le_of_ble_eq_true rfl, Nat.le_of_ble_eq_true rfl⟩ (g_recv (a := y) (k := 0) hK hM rfl rfl) hM hS (fun _ h => h.elim) rfl (Nat.le_of_ble_eq_true rfl) dL_law_523 (fun r131 u H locs h hu _ hq hS => ?_)
  have hX := hX.past hq (fun _ _ h => h)
  have hG := hG.past hq (fun _ _ h => h)
  have hT := hT.past hq (fun _ _ h => h)
  have hH := hH.past hq (fun _ _ h => h)
  have hZ := hZ.past hq (fun _ _ h => h)
  have hO := hO.past hq (fun _ _ h => h)
  have hM := hM.past hq (fun _ _ h => h)
  refine lv_icmp_eq (tgt := 923) hx hb dL_law_526 (by decide) (fun c132 => ?_) (fun c132 => ?_)
  · replace h := h.1 c132
    exact (ih.2.2.2.2.2.2.2.2.2.2.2.2.2.2.2.2.2.2.2.2.2.2.2.2.2.2) γ τ η σ ο ρ w3 _ _ _ hX hG hT hH hZ hO hM hS (lv_sub hl [0, 1, 2, 3] rfl) h
  · replace h := h.2 c132
    refine lv_iconst (v := 0) hx hb dL_law_529 (by decide) ?_
    exact h.elim
set_option maxHeartbeats 8000000 in
set_option maxRecDepth 100000 in
theorem lawS_531 {p : Program} {l : Launch} {e : Env} {s : State} {m : MethodId} {below : List Frame} {meth : Method} {c : Code} {G : GG} {b L x y : Nat} {xs : Nat → Int32} (C : CX p m meth c s #[Value.ref b] code RL 4) (hr : meth.sig.returnType = ret) (hK : KK G s) (hXs : va_X b L xs s s.heap) (hbl : b < s.heap.size) (hx0 : s.heap.size = x) (hy0 : y = x + 138) (ξ : Mem) (n : Nat) (ih : lawK p l e s m below meth c G b L x y xs ξ n) : (∀ (γ : Mem) (τ : Mem) (η : Mem) (σ : (Nat → Mem)) (ο : Mem) (ρ : Mem) (w3 : Int32) (H : Heap) (locs : List Loc) (ls : Array Slot), rg G LX x ξ H → rg G LG (x + 1) γ H → rg G LG (x + 23) τ H → rg G LH (x + 45) η H → HG G (x + 46) σ H → rg G LO (x + 135) ο H → rg G LM y ρ H → va_S (fun q => x ≤ q) s.heap H locs → lv_has ls 4 [(0, .ref b), (1, .ref x), (2, .ref y), (3, .int w3)] → vb_L_law_531 L xs ξ (vl_L_law L xs ξ n) γ τ η σ ο ρ w3 → W p l e room_1 s m #[Value.ref b] below meth c H locs 146 2475 (lw_Z below #[Value.ref b] s) (F0 m 531 ls [])) := by
  intro γ τ η σ ο ρ w3 H locs ls hX hG hT hH hZ hO hM hS hl h
  obtain ⟨hx, hb, hml, hown, hts, hlocks⟩ := id C
  have hbA : ¬ (fun q : Nat => x ≤ q) b := by show ¬ x ≤ b; omega
  unfold lawK at ih
  unfold vb_L_law_531 at h
  refine lv_aload_n hx hb dL_law_531 rfl (lv_at hl 1 rfl) ?_
  refine lv_aload_n hx hb dL_law_532 rfl (lv_at hl 0 rfl) ?_
  refine lv_iload_n hx hb dL_law_533 rfl (lv_at hl 3 rfl) ?_
  refine lv_iconst (v := 1) hx hb dL_law_534 (by decide) ?_
  refine lv_iadd hx hb dL_law_535 ?_
  obtain ⟨b133, h⟩ := h
  refine va_sld hx hb hXs hbl hbA hS b133 dL_law_536 ?_
  refine lv_aload_n hx hb dL_law_537 rfl (lv_at hl 0 rfl) ?_
  refine lv_iload_n hx hb dL_law_538 rfl (lv_at hl 3 rfl) ?_
  refine lv_iconst (v := 2) hx hb dL_law_539 (by decide) ?_
  refine lv_iadd hx hb dL_law_540 ?_
  obtain ⟨b134, h⟩ := h
  refine va_sld hx hb hXs hbl hbA hS b134 dL_law_541 ?_
  refine g_vI C hK hl.1 (m_X7_taskOf l G x ξ γ τ η σ ο (xs (w3 + 1).toNatClampNeg) (xs (w3 + 2).toNatClampNeg) _ h) mw_X7_taskOf mi_X7_taskOf ml_L_62 rfl ⟨rfl, rfl, Nat.le_of_ble_eq_true rfl, Nat.le_of_ble_eq_true rfl⟩ ⟨Nat.le_of_ble_eq_true rfl, Nat.le_of_ble_eq_true rfl⟩ (g_recv (a := x) (k := 0) hK hX rfl rfl) ⟨hX, hG, hT, hH, hZ, hO⟩ hS (fun _ h => h.elim) rfl (Nat.le_of_ble_eq_true rfl) dL_law_542 (fun r135 u H locs h hu _ hq hS => ?_)
  have hX := hX.past hq (fun _ _ h => h)
  have hG := hG.past hq (fun _ _ h => h)
  have hT := hT.past hq (fun _ _ h => h)
  have hH := hH.past hq (fun _ _ h => h)
  have hZ := hZ.past hq (fun _ _ h => h)
  have hO := hO.past hq (fun _ _ h => h)
  have hM := hM.past hq (fun _ _ h => h)
  refine lv_aload_n hx hb dL_law_545 rfl (lv_at hl 2 rfl) ?_
  refine lv_aload_n hx hb dL_law_546 rfl (lv_at hl 0 rfl) ?_
  refine lv_iload_n hx hb dL_law_547 rfl (lv_at hl 3 rfl) ?_
  refine lv_iconst (v := 1) hx hb dL_law_548 (by decide) ?_
  refine lv_iadd hx hb dL_law_549 ?_
  refine va_sld hx hb hXs hbl hbA hS b133 dL_law_550 ?_
  refine lv_aload_n hx hb dL_law_551 rfl (lv_at hl 0 rfl) ?_
  refine lv_iload_n hx hb dL_law_552 rfl (lv_at hl 3 rfl) ?_
  refine lv_iconst (v := 2) hx hb dL_law_553 (by decide) ?_
  refine lv_iadd hx hb dL_law_554 ?_
  refine va_sld hx hb hXs hbl hbA hS b134 dL_law_555 ?_
  refine g_vI C hK hl.1 (m_X8_taskOf l G y ρ (xs (w3 + 1).toNatClampNeg) (xs (w3 + 2).toNatClampNeg) _ h) mw_X8_taskOf mi_X8_taskOf ml_L_65 rfl ⟨rfl, rfl, Nat.le_of_ble_eq_true rfl, Nat.le_of_ble_eq_true rfl⟩ ⟨Nat.le_of_ble_eq_true rfl, Nat.le_of_ble_eq_true rfl⟩ (g_recv (a := y) (k := 0) hK hM rfl rfl) hM hS (fun _ h => h.elim) rfl (Nat.le_of_ble_eq_true rfl) dL_law_556 (fun r136 u H locs h hu _ hq hS => ?_)
  have hX := hX.past hq (fun _ _ h => h)
  have hG := hG.past hq (fun _ _ h => h)
  have hT := hT.past hq (fun _ _ h => h)
  have hH := hH.past hq (fun _ _ h => h)
  have hZ := hZ.past hq (fun _ _ h => h)
  have hO := hO.past hq (fun _ _ h => h)
  have hM := hM.past hq (fun _ _ h => h)
  refine lv_icmp_eq (tgt := 923) hx hb dL_law_559 (by decide) (fun c137 => ?_) (fun c137 => ?_)
  · replace h := h.1 c137
    exact (ih.2.2.2.2.2.2.2.2.2.2.2.2.2.2.2.2.2.2.2.2.2.2.2.2.2.2) γ τ η σ ο ρ w3 _ _ _ hX hG hT hH hZ hO hM hS (lv_sub hl [0, 1, 2, 3] rfl) h
  · replace h := h.2 c137
    refine lv_iconst (v := 0) hx hb dL_law_562 (by decide) ?_
    exact h.elim
set_option maxHeartbeats 8000000 in
set_option maxRecDepth 100000 in
theorem lawS_564 {p : Program} {l : Launch} {e : Env} {s : State} {m : MethodId} {below : List Frame} {meth : Method} {c : Code} {G : GG} {b L x y : Nat} {xs : Nat → Int32} (C : CX p m meth c s #[Value.ref b] code RL 4) (hr : meth.sig.returnType = ret) (hK : KK G s) (hXs : va_X b L xs s s.heap) (hbl : b < s.heap.size) (hx0 : s.heap.size = x) (hy0 : y = x + 138) (ξ : Mem) (n : Nat) (ih : lawK p l e s m below meth c G b L x y xs ξ n) : (∀ (γ : Mem) (τ : Mem) (η : Mem) (σ : (Nat → Mem)) (ο : Mem) (ρ : Mem) (w3 : Int32) (H : Heap) (locs : List Loc) (ls : Array Slot), rg G LX x ξ H → rg G LG (x + 1) γ H → rg G LG (x + 23) τ H → rg G LH (x + 45) η H → HG G (x + 46) σ H → rg G LO (x + 135) ο H → rg G LM y ρ H → va_S (fun q => x ≤ q) s.heap H locs → lv_has ls 4 [(0, .ref b), (1, .ref x), (2, .ref y), (3, .int w3)] → vb_L_law_564 L xs ξ (vl_L_law L xs ξ n) γ τ η σ ο ρ w3 → W p l e room_1 s m #[Value.ref b] below meth c H locs 146 2475 (lw_Z below #[Value.ref b] s) (F0 m 564 ls [])) := by
  intro γ τ η σ ο ρ w3 H locs ls hX hG hT hH hZ hO hM hS hl h
  obtain ⟨hx, hb, hml, hown, hts, hlocks⟩ := id C
  have hbA : ¬ (fun q : Nat => x ≤ q) b := by show ¬ x ≤ b; omega
  unfold lawK at ih
  unfold vb_L_law_564 at h
  refine lv_aload_n hx hb dL_law_564 rfl (lv_at hl 1 rfl) ?_
  refine lv_aload_n hx hb dL_law_565 rfl (lv_at hl 0 rfl) ?_
  refine lv_iload_n hx hb dL_law_566 rfl (lv_at hl 3 rfl) ?_
  refine lv_iconst (v := 1) hx hb dL_law_567 (by decide) ?_
  refine lv_iadd hx hb dL_law_568 ?_
  obtain ⟨b138, h⟩ := h
  refine va_sld hx hb hXs hbl hbA hS b138 dL_law_569 ?_
  refine lv_aload_n hx hb dL_law_570 rfl (lv_at hl 0 rfl) ?_
  refine lv_iload_n hx hb dL_law_571 rfl (lv_at hl 3 rfl) ?_
  refine lv_iconst (v := 2) hx hb dL_law_572 (by decide) ?_
  refine lv_iadd hx hb dL_law_573 ?_
  obtain ⟨b139, h⟩ := h
  refine va_sld hx hb hXs hbl hbA hS b139 dL_law_574 ?_
  refine g_vI C hK hl.1 (m_X7_on l G x ξ γ τ η σ ο (xs (w3 + 1).toNatClampNeg) (xs (w3 + 2).toNatClampNeg) _ h) mw_X7_on mi_X7_on ml_L_66 rfl ⟨rfl, rfl, Nat.le_of_ble_eq_true rfl, Nat.le_of_ble_eq_true rfl⟩ ⟨Nat.le_of_ble_eq_true rfl, Nat.le_of_ble_eq_true rfl⟩ (g_recv (a := x) (k := 0) hK hX rfl rfl) ⟨hX, hG, hT, hH, hZ, hO⟩ hS (fun _ h => h.elim) rfl (Nat.le_of_ble_eq_true rfl) dL_law_575 (fun r140 u H locs h hu _ hq hS => ?_)
  have hX := hX.past hq (fun _ _ h => h)
  have hG := hG.past hq (fun _ _ h => h)
  have hT := hT.past hq (fun _ _ h => h)
  have hH := hH.past hq (fun _ _ h => h)
  have hZ := hZ.past hq (fun _ _ h => h)
  have hO := hO.past hq (fun _ _ h => h)
  have hM := hM.past hq (fun _ _ h => h)
  refine lv_aload_n hx hb dL_law_578 rfl (lv_at hl 2 rfl) ?_
  refine lv_aload_n hx hb dL_law_579 rfl (lv_at hl 0 rfl) ?_
  refine lv_iload_n hx hb dL_law_580 rfl (lv_at hl 3 rfl) ?_
  refine lv_iconst (v := 1) hx hb dL_law_581 (by decide) ?_
  refine lv_iadd hx hb dL_law_582 ?_
  refine va_sld hx hb hXs hbl hbA hS b138 dL_law_583 ?_
  refine lv_aload_n hx hb dL_law_584 rfl (lv_at hl 0 rfl) ?_
  refine lv_iload_n hx hb dL_law_585 rfl (lv_at hl 3 rfl) ?_
  refine lv_iconst (v := 2) hx hb dL_law_586 (by decide) ?_
  refine lv_iadd hx hb dL_law_587 ?_
  refine va_sld hx hb hXs hbl hbA hS b139 dL_law_588 ?_
  refine g_vI C hK hl.1 (m_X8_on l G y ρ (xs (w3 + 1).toNatClampNeg) (xs (w3 + 2).toNatClampNeg) _ h) mw_X8_on mi_X8_on ml_L_69 rfl ⟨rfl, rfl, Nat.le_of_ble_eq_true rfl, Nat.le_of_ble_eq_true rfl⟩ ⟨Nat.le_of_ble_eq_true rfl, Nat.le_of_ble_eq_true rfl⟩ (g_recv (a := y) (k := 0) hK hM rfl rfl) hM hS (fun _ h => h.elim) rfl (Nat.le_of_ble_eq_true rfl) dL_law_589 (fun r141 u H locs h hu _ hq hS => ?_)
  have hX := hX.past hq (fun _ _ h => h)
  have hG := hG.past hq (fun _ _ h => h)
  have hT := hT.past hq (fun _ _ h => h)
  have hH := hH.past hq (fun _ _ h => h)
  have hZ := hZ.past hq (fun _ _ h => h)
  have hO := hO.past hq (fun _ _ h => h)
  have hM := hM.past hq (fun _ _ h => h)
  refine lv_icmp_eq (tgt := 923) hx hb dL_law_592 (by decide) (fun c142 => ?_) (fun c142 => ?_)
  · replace h := h.1 c142
    exact (ih.2.2.2.2.2.2.2.2.2.2.2.2.2.2.2.2.2.2.2.2.2.2.2.2.2.2) γ τ η σ ο ρ w3 _ _ _ hX hG hT hH hZ hO hM hS (lv_sub hl [0, 1, 2, 3] rfl) h
  · replace h := h.2 c142
    refine lv_iconst (v := 0) hx hb dL_law_595 (by decide) ?_
    exact h.elim
set_option maxHeartbeats 8000000 in
set_option maxRecDepth 100000 in
theorem lawS_597 {p : Program} {l : Launch} {e : Env} {s : State} {m : MethodId} {below : List Frame} {meth : Method} {c : Code} {G : GG} {b L x y : Nat} {xs : Nat → Int32} (C : CX p m meth c s #[Value.ref b] code RL 4) (hr : meth.sig.returnType = ret) (hK : KK G s) (hXs : va_X b L xs s s.heap) (hbl : b < s.heap.size) (hx0 : s.heap.size = x) (hy0 : y = x + 138) (ξ : Mem) (n : Nat) (ih : lawK p l e s m below meth c G b L x y xs ξ n) : (∀ (γ : Mem) (τ : Mem) (η : Mem) (σ : (Nat → Mem)) (ο : Mem) (ρ : Mem) (w3 : Int32) (H : Heap) (locs : List Loc) (ls : Array Slot), rg G LX x ξ H → rg G LG (x + 1) γ H → rg G LG (x + 23) τ H → rg G LH (x + 45) η H → HG G (x + 46) σ H → rg G LO (x + 135) ο H → rg G LM y ρ H → va_S (fun q => x ≤ q) s.heap H locs → lv_has ls 4 [(0, .ref b), (1, .ref x), (2, .ref y), (3, .int w3)] → vb_L_law_597 L xs ξ (vl_L_law L xs ξ n) γ τ η σ ο ρ w3 → W p l e room_1 s m #[Value.ref b] below meth c H locs 146 2475 (lw_Z below #[Value.ref b] s) (F0 m 597 ls [])) := by
  intro γ τ η σ ο ρ w3 H locs ls hX hG hT hH hZ hO hM hS hl h
  obtain ⟨hx, hb, hml, hown, hts, hlocks⟩ := id C
  have hbA : ¬ (fun q : Nat => x ≤ q) b := by show ¬ x ≤ b; omega
  unfold lawK at ih
  unfold vb_L_law_597 at h
  refine lv_aload_n hx hb dL_law_597 rfl (lv_at hl 1 rfl) ?_
  refine lv_aload_n hx hb dL_law_598 rfl (lv_at hl 0 rfl) ?_
  refine lv_iload_n hx hb dL_law_599 rfl (lv_at hl 3 rfl) ?_
  refine lv_iconst (v := 1) hx hb dL_law_600 (by decide) ?_
  refine lv_iadd hx hb dL_law_601 ?_
  obtain ⟨b143, h⟩ := h
  refine va_sld hx hb hXs hbl hbA hS b143 dL_law_602 ?_
  refine lv_aload_n hx hb dL_law_603 rfl (lv_at hl 0 rfl) ?_
  refine lv_iload_n hx hb dL_law_604 rfl (lv_at hl 3 rfl) ?_
  refine lv_iconst (v := 2) hx hb dL_law_605 (by decide) ?_
  refine lv_iadd hx hb dL_law_606 ?_
  obtain ⟨b144, h⟩ := h
  refine va_sld hx hb hXs hbl hbA hS b144 dL_law_607 ?_
  refine g_vI C hK hl.1 (m_X7_contractOf l G x ξ γ τ η σ ο (xs (w3 + 1).toNatClampNeg) (xs (w3 + 2).toNatClampNeg) _ h) mw_X7_contractOf mi_X7_contractOf ml_L_70 rfl ⟨rfl, rfl, Nat.le_of_ble_eq_true rfl, Nat.le_of_ble_eq_true rfl⟩ ⟨Nat.le_of_ble_eq_true rfl, Nat.le_of_ble_eq_true rfl⟩ (g_recv (a := x) (k := 0) hK hX rfl rfl) ⟨hX, hG, hT, hH, hZ, hO⟩ hS (fun _ h => h.elim) rfl (Nat.le_of_ble_eq_true rfl) dL_law_608 (fun r145 u H locs h hu _ hq hS => ?_)
  have hX := hX.past hq (fun _ _ h => h)
  have hG := hG.past hq (fun _ _ h => h)
  have hT := hT.past hq (fun _ _ h => h)
  have hH := hH.past hq (fun _ _ h => h)
  have hZ := hZ.past hq (fun _ _ h => h)
  have hO := hO.past hq (fun _ _ h => h)
  have hM := hM.past hq (fun _ _ h => h)
  refine lv_aload_n hx hb dL_law_611 rfl (lv_at hl 2 rfl) ?_
  refine lv_aload_n hx hb dL_law_612 rfl (lv_at hl 0 rfl) ?_
  refine lv_iload_n hx hb dL_law_613 rfl (lv_at hl 3 rfl) ?_
  refine lv_iconst (v := 1) hx hb dL_law_614 (by decide) ?_
  refine lv_iadd hx hb dL_law_615 ?_
  refine va_sld hx hb hXs hbl hbA hS b143 dL_law_616 ?_
  refine lv_aload_n hx hb dL_law_617 rfl (lv_at hl 0 rfl) ?_
  refine lv_iload_n hx hb dL_law_618 rfl (lv_at hl 3 rfl) ?_
  refine lv_iconst (v := 2) hx hb dL_law_619 (by decide) ?_
  refine lv_iadd hx hb dL_law_620 ?_
  refine va_sld hx hb hXs hbl hbA hS b144 dL_law_621 ?_
  refine g_vI C hK hl.1 (m_X8_contractOf l G y ρ (xs (w3 + 1).toNatClampNeg) (xs (w3 + 2).toNatClampNeg) _ h) mw_X8_contractOf mi_X8_contractOf ml_L_73 rfl ⟨rfl, rfl, Nat.le_of_ble_eq_true rfl, Nat.le_of_ble_eq_true rfl⟩ ⟨Nat.le_of_ble_eq_true rfl, Nat.le_of_ble_eq_true rfl⟩ (g_recv (a := y) (k := 0) hK hM rfl rfl) hM hS (fun _ h => h.elim) rfl (Nat.le_of_ble_eq_true rfl) dL_law_622 (fun r146 u H locs h hu _ hq hS => ?_)
  have hX := hX.past hq (fun _ _ h => h)
  have hG := hG.past hq (fun _ _ h => h)
  have hT := hT.past hq (fun _ _ h => h)
  have hH := hH.past hq (fun _ _ h => h)
  have hZ := hZ.past hq (fun _ _ h => h)
  have hO := hO.past hq (fun _ _ h => h)
  have hM := hM.past hq (fun _ _ h => h)
  refine lv_icmp_eq (tgt := 923) hx hb dL_law_625 (by decide) (fun c147 => ?_) (fun c147 => ?_)
  · replace h := h.1 c147
    exact (ih.2.2.2.2.2.2.2.2.2.2.2.2.2.2.2.2.2.2.2.2.2.2.2.2.2.2) γ τ η σ ο ρ w3 _ _ _ hX hG hT hH hZ hO hM hS (lv_sub hl [0, 1, 2, 3] rfl) h
  · replace h := h.2 c147
    refine lv_iconst (v := 0) hx hb dL_law_628 (by decide) ?_
    exact h.elim
set_option maxHeartbeats 8000000 in
set_option maxRecDepth 100000 in
theorem lawS_630 {p : Program} {l : Launch} {e : Env} {s : State} {m : MethodId} {below : List Frame} {meth : Method} {c : Code} {G : GG} {b L x y : Nat} {xs : Nat → Int32} (C : CX p m meth c s #[Value.ref b] code RL 4) (hr : meth.sig.returnType = ret) (hK : KK G s) (hXs : va_X b L xs s s.heap) (hbl : b < s.heap.size) (hx0 : s.heap.size = x) (hy0 : y = x + 138) (ξ : Mem) (n : Nat) (ih : lawK p l e s m below meth c G b L x y xs ξ n) : (∀ (γ : Mem) (τ : Mem) (η : Mem) (σ : (Nat → Mem)) (ο : Mem) (ρ : Mem) (w3 : Int32) (H : Heap) (locs : List Loc) (ls : Array Slot), rg G LX x ξ H → rg G LG (x + 1) γ H → rg G LG (x + 23) τ H → rg G LH (x + 45) η H → HG G (x + 46) σ H → rg G LO (x + 135) ο H → rg G LM y ρ H → va_S (fun q => x ≤ q) s.heap H locs → lv_has ls 4 [(0, .ref b), (1, .ref x), (2, .ref y), (3, .int w3)] → vb_L_law_630 L xs ξ (vl_L_law L xs ξ n) γ τ η σ ο ρ w3 → W p l e room_1 s m #[Value.ref b] below meth c H locs 146 2475 (lw_Z below #[Value.ref b] s) (F0 m 630 ls [])) := by
  intro γ τ η σ ο ρ w3 H locs ls hX hG hT hH hZ hO hM hS hl h
  obtain ⟨hx, hb, hml, hown, hts, hlocks⟩ := id C
  have hbA : ¬ (fun q : Nat => x ≤ q) b := by show ¬ x ≤ b; omega
  unfold lawK at ih
  unfold vb_L_law_630 at h
  refine lv_aload_n hx hb dL_law_630 rfl (lv_at hl 1 rfl) ?_
  refine lv_aload_n hx hb dL_law_631 rfl (lv_at hl 0 rfl) ?_
  refine lv_iload_n hx hb dL_law_632 rfl (lv_at hl 3 rfl) ?_
  refine lv_iconst (v := 1) hx hb dL_law_633 (by decide) ?_
  refine lv_iadd hx hb dL_law_634 ?_
  obtain ⟨b148, h⟩ := h
  refine va_sld hx hb hXs hbl hbA hS b148 dL_law_635 ?_
  refine g_vI C hK hl.1 (m_X7_next l G x ξ γ τ η σ ο (xs (w3 + 1).toNatClampNeg) _ h) mw_X7_next mi_X7_next ml_L_74 rfl ⟨rfl, rfl, Nat.le_of_ble_eq_true rfl, Nat.le_of_ble_eq_true rfl⟩ ⟨Nat.le_of_ble_eq_true rfl, Nat.le_of_ble_eq_true rfl⟩ (g_recv (a := x) (k := 0) hK hX rfl rfl) ⟨hX, hG, hT, hH, hZ, hO⟩ hS (fun _ h => h.elim) rfl (Nat.le_of_ble_eq_true rfl) dL_law_636 (fun r149 u H locs h hu _ hq hS => ?_)
  have hX := hX.past hq (fun _ _ h => h)
  have hG := hG.past hq (fun _ _ h => h)
  have hT := hT.past hq (fun _ _ h => h)
  have hH := hH.past hq (fun _ _ h => h)
  have hZ := hZ.past hq (fun _ _ h => h)
  have hO := hO.past hq (fun _ _ h => h)
  have hM := hM.past hq (fun _ _ h => h)
  refine lv_aload_n hx hb dL_law_639 rfl (lv_at hl 2 rfl) ?_
  refine lv_aload_n hx hb dL_law_640 rfl (lv_at hl 0 rfl) ?_
  refine lv_iload_n hx hb dL_law_641 rfl (lv_at hl 3 rfl) ?_
  refine lv_iconst (v := 1) hx hb dL_law_642 (by decide) ?_
  refine lv_iadd hx hb dL_law_643 ?_
  refine va_sld hx hb hXs hbl hbA hS b148 dL_law_644 ?_
  refine g_vI C hK hl.1 (m_X8_next l G y ρ (xs (w3 + 1).toNatClampNeg) _ h) mw_X8_next mi_X8_next ml_L_77 rfl ⟨rfl, rfl, Nat.le_of_ble_eq_true rfl, Nat.le_of_ble_eq_true rfl⟩ ⟨Nat.le_of_ble_eq_true rfl, Nat.le_of_ble_eq_true rfl⟩ (g_recv (a := y) (k := 0) hK hM rfl rfl) hM hS (fun q h => by simp only [RA] at h; omega) rfl (Nat.le_of_ble_eq_true rfl) dL_law_645 (fun r150 u H locs h hu _ hq hS => ?_)
  obtain ⟨ρ151, rfl⟩ : ∃ z, z = u := ⟨_, rfl⟩
  have hM := hu
  have hX := hX.past hq (fun j hj h => by have hj : j < 1 := hj; simp only [RA] at h; omega)
  have hG := hG.past hq (fun j hj h => by have hj : j < 22 := hj; simp only [RA] at h; omega)
  have hT := hT.past hq (fun j hj h => by have hj : j < 22 := hj; simp only [RA] at h; omega)
  have hH := hH.past hq (fun j hj h => by have hj : j < 1 := hj; simp only [RA] at h; omega)
  have hZ := hZ.past hq (fun j hj h => by have hj : j < 89 := hj; simp only [RA] at h; omega)
  have hO := hO.past hq (fun j hj h => by have hj : j < 3 := hj; simp only [RA] at h; omega)
  refine lv_icmp_eq (tgt := 923) hx hb dL_law_648 (by decide) (fun c152 => ?_) (fun c152 => ?_)
  · replace h := h.1 c152
    exact (ih.2.2.2.2.2.2.2.2.2.2.2.2.2.2.2.2.2.2.2.2.2.2.2.2.2.2) γ τ η σ ο ρ151 w3 _ _ _ hX hG hT hH hZ hO hM hS (lv_sub hl [0, 1, 2, 3] rfl) h
  · replace h := h.2 c152
    refine lv_iconst (v := 0) hx hb dL_law_651 (by decide) ?_
    exact h.elim
set_option maxHeartbeats 8000000 in
set_option maxRecDepth 100000 in
theorem lawS_653 {p : Program} {l : Launch} {e : Env} {s : State} {m : MethodId} {below : List Frame} {meth : Method} {c : Code} {G : GG} {b L x y : Nat} {xs : Nat → Int32} (C : CX p m meth c s #[Value.ref b] code RL 4) (hr : meth.sig.returnType = ret) (hK : KK G s) (hXs : va_X b L xs s s.heap) (hbl : b < s.heap.size) (hx0 : s.heap.size = x) (hy0 : y = x + 138) (ξ : Mem) (n : Nat) (ih : lawK p l e s m below meth c G b L x y xs ξ n) : (∀ (γ : Mem) (τ : Mem) (η : Mem) (σ : (Nat → Mem)) (ο : Mem) (ρ : Mem) (w3 : Int32) (H : Heap) (locs : List Loc) (ls : Array Slot), rg G LX x ξ H → rg G LG (x + 1) γ H → rg G LG (x + 23) τ H → rg G LH (x + 45) η H → HG G (x + 46) σ H → rg G LO (x + 135) ο H → rg G LM y ρ H → va_S (fun q => x ≤ q) s.heap H locs → lv_has ls 4 [(0, .ref b), (1, .ref x), (2, .ref y), (3, .int w3)] → vb_L_law_653 L xs ξ (vl_L_law L xs ξ n) γ τ η σ ο ρ w3 → W p l e room_1 s m #[Value.ref b] below meth c H locs 146 2475 (lw_Z below #[Value.ref b] s) (F0 m 653 ls [])) := by
  intro γ τ η σ ο ρ w3 H locs ls hX hG hT hH hZ hO hM hS hl h
  obtain ⟨hx, hb, hml, hown, hts, hlocks⟩ := id C
  have hbA : ¬ (fun q : Nat => x ≤ q) b := by show ¬ x ≤ b; omega
  unfold lawK at ih
  unfold vb_L_law_653 at h
  refine lv_aload_n hx hb dL_law_653 rfl (lv_at hl 1 rfl) ?_
  refine lv_aload_n hx hb dL_law_654 rfl (lv_at hl 0 rfl) ?_
  refine lv_iload_n hx hb dL_law_655 rfl (lv_at hl 3 rfl) ?_
  refine lv_iconst (v := 1) hx hb dL_law_656 (by decide) ?_
  refine lv_iadd hx hb dL_law_657 ?_
  obtain ⟨b153, h⟩ := h
  refine va_sld hx hb hXs hbl hbA hS b153 dL_law_658 ?_
  refine lv_aload_n hx hb dL_law_659 rfl (lv_at hl 0 rfl) ?_
  refine lv_iload_n hx hb dL_law_660 rfl (lv_at hl 3 rfl) ?_
  refine lv_iconst (v := 2) hx hb dL_law_661 (by decide) ?_
  refine lv_iadd hx hb dL_law_662 ?_
  obtain ⟨b154, h⟩ := h
  refine va_sld hx hb hXs hbl hbA hS b154 dL_law_663 ?_
  refine lv_aload_n hx hb dL_law_664 rfl (lv_at hl 0 rfl) ?_
  refine lv_iload_n hx hb dL_law_665 rfl (lv_at hl 3 rfl) ?_
  refine lv_iconst (v := 3) hx hb dL_law_666 (by decide) ?_
  refine lv_iadd hx hb dL_law_667 ?_
  obtain ⟨b155, h⟩ := h
  refine va_sld hx hb hXs hbl hbA hS b155 dL_law_668 ?_
  refine g_vI C hK hl.1 (m_X7_would l G x ξ γ τ η σ ο (xs (w3 + 1).toNatClampNeg) (xs (w3 + 2).toNatClampNeg) (xs (w3 + 3).toNatClampNeg) _ h) mw_X7_would mi_X7_would ml_L_78 rfl ⟨rfl, rfl, Nat.le_of_ble_eq_true rfl, Nat.le_of_ble_eq_true rfl⟩ ⟨Nat.le_of_ble_eq_true rfl, Nat.le_of_ble_eq_true rfl⟩ (g_recv (a := x) (k := 0) hK hX rfl rfl) ⟨hX, hG, hT, hH, hZ, hO⟩ hS (fun q h => by simp only [RA] at h; omega) rfl (Nat.le_of_ble_eq_true rfl) dL_law_669 (fun r156 u H locs h hu _ hq hS => ?_)
  obtain ⟨τ157, rfl⟩ : ∃ z, z = u := ⟨_, rfl⟩
  have hT := hu
  have hX := hX.past hq (fun j hj h => by have hj : j < 1 := hj; simp only [RA] at h; omega)
  have hG := hG.past hq (fun j hj h => by have hj : j < 22 := hj; simp only [RA] at h; omega)
  have hH := hH.past hq (fun j hj h => by have hj : j < 1 := hj; simp only [RA] at h; omega)
  have hZ := hZ.past hq (fun j hj h => by have hj : j < 89 := hj; simp only [RA] at h; omega)
  have hO := hO.past hq (fun j hj h => by have hj : j < 3 := hj; simp only [RA] at h; omega)
  have hM := hM.past hq (fun j hj h => by have hj : j < 8 := hj; simp only [RA] at h; omega)
  refine lv_aload_n hx hb dL_law_672 rfl (lv_at hl 2 rfl) ?_
  refine lv_aload_n hx hb dL_law_673 rfl (lv_at hl 0 rfl) ?_
  refine lv_iload_n hx hb dL_law_674 rfl (lv_at hl 3 rfl) ?_
  refine lv_iconst (v := 1) hx hb dL_law_675 (by decide) ?_
  refine lv_iadd hx hb dL_law_676 ?_
  refine va_sld hx hb hXs hbl hbA hS b153 dL_law_677 ?_
  refine lv_aload_n hx hb dL_law_678 rfl (lv_at hl 0 rfl) ?_
  refine lv_iload_n hx hb dL_law_679 rfl (lv_at hl 3 rfl) ?_
  refine lv_iconst (v := 2) hx hb dL_law_680 (by decide) ?_
  refine lv_iadd hx hb dL_law_681 ?_
  refine va_sld hx hb hXs hbl hbA hS b154 dL_law_682 ?_
  refine lv_aload_n hx hb dL_law_683 rfl (lv_at hl 0 rfl) ?_
  refine lv_iload_n hx hb dL_law_684 rfl (lv_at hl 3 rfl) ?_
  refine lv_iconst (v := 3) hx hb dL_law_685 (by decide) ?_
  refine lv_iadd hx hb dL_law_686 ?_
  refine va_sld hx hb hXs hbl hbA hS b155 dL_law_687 ?_
  refine g_vI C hK hl.1 (m_X8_would l G y ρ (xs (w3 + 1).toNatClampNeg) (xs (w3 + 2).toNatClampNeg) (xs (w3 + 3).toNatClampNeg) _ h) mw_X8_would mi_X8_would ml_L_81 rfl ⟨rfl, rfl, Nat.le_of_ble_eq_true rfl, Nat.le_of_ble_eq_true rfl⟩ ⟨Nat.le_of_ble_eq_true rfl, Nat.le_of_ble_eq_true rfl⟩ (g_recv (a := y) (k := 0) hK hM rfl rfl) hM hS (fun q h => by simp only [RA] at h; omega) rfl (Nat.le_of_ble_eq_true rfl) dL_law_688 (fun r158 u H locs h hu _ hq hS => ?_)
  obtain ⟨ρ159, rfl⟩ : ∃ z, z = u := ⟨_, rfl⟩
  have hM := hu
  have hX := hX.past hq (fun j hj h => by have hj : j < 1 := hj; simp only [RA] at h; omega)
  have hG := hG.past hq (fun j hj h => by have hj : j < 22 := hj; simp only [RA] at h; omega)
  have hT := hT.past hq (fun j hj h => by have hj : j < 22 := hj; simp only [RA] at h; omega)
  have hH := hH.past hq (fun j hj h => by have hj : j < 1 := hj; simp only [RA] at h; omega)
  have hZ := hZ.past hq (fun j hj h => by have hj : j < 89 := hj; simp only [RA] at h; omega)
  have hO := hO.past hq (fun j hj h => by have hj : j < 3 := hj; simp only [RA] at h; omega)
  refine lv_icmp_eq (tgt := 923) hx hb dL_law_691 (by decide) (fun c160 => ?_) (fun c160 => ?_)
  · replace h := h.1 c160
    exact (ih.2.2.2.2.2.2.2.2.2.2.2.2.2.2.2.2.2.2.2.2.2.2.2.2.2.2) γ τ157 η σ ο ρ159 w3 _ _ _ hX hG hT hH hZ hO hM hS (lv_sub hl [0, 1, 2, 3] rfl) h
  · replace h := h.2 c160
    refine lv_iconst (v := 0) hx hb dL_law_694 (by decide) ?_
    exact h.elim
set_option maxHeartbeats 8000000 in
set_option maxRecDepth 100000 in
theorem lawS_696 {p : Program} {l : Launch} {e : Env} {s : State} {m : MethodId} {below : List Frame} {meth : Method} {c : Code} {G : GG} {b L x y : Nat} {xs : Nat → Int32} (C : CX p m meth c s #[Value.ref b] code RL 4) (hr : meth.sig.returnType = ret) (hK : KK G s) (hXs : va_X b L xs s s.heap) (hbl : b < s.heap.size) (hx0 : s.heap.size = x) (hy0 : y = x + 138) (ξ : Mem) (n : Nat) (ih : lawK p l e s m below meth c G b L x y xs ξ n) : (∀ (γ : Mem) (τ : Mem) (η : Mem) (σ : (Nat → Mem)) (ο : Mem) (ρ : Mem) (w3 : Int32) (H : Heap) (locs : List Loc) (ls : Array Slot), rg G LX x ξ H → rg G LG (x + 1) γ H → rg G LG (x + 23) τ H → rg G LH (x + 45) η H → HG G (x + 46) σ H → rg G LO (x + 135) ο H → rg G LM y ρ H → va_S (fun q => x ≤ q) s.heap H locs → lv_has ls 4 [(0, .ref b), (1, .ref x), (2, .ref y), (3, .int w3)] → vb_L_law_696 L xs ξ (vl_L_law L xs ξ n) γ τ η σ ο ρ w3 → W p l e room_1 s m #[Value.ref b] below meth c H locs 146 2475 (lw_Z below #[Value.ref b] s) (F0 m 696 ls [])) := by
  intro γ τ η σ ο ρ w3 H locs ls hX hG hT hH hZ hO hM hS hl h
  obtain ⟨hx, hb, hml, hown, hts, hlocks⟩ := id C
  have hbA : ¬ (fun q : Nat => x ≤ q) b := by show ¬ x ≤ b; omega
  unfold lawK at ih
  unfold vb_L_law_696 at h
  refine lv_aload_n hx hb dL_law_696 rfl (lv_at hl 1 rfl) ?_
  refine lv_aload_n hx hb dL_law_697 rfl (lv_at hl 0 rfl) ?_
  refine lv_iload_n hx hb dL_law_698 rfl (lv_at hl 3 rfl) ?_
  refine lv_iconst (v := 1) hx hb dL_law_699 (by decide) ?_
  refine lv_iadd hx hb dL_law_700 ?_
  obtain ⟨b161, h⟩ := h
  refine va_sld hx hb hXs hbl hbA hS b161 dL_law_701 ?_
  refine lv_aload_n hx hb dL_law_702 rfl (lv_at hl 0 rfl) ?_
  refine lv_iload_n hx hb dL_law_703 rfl (lv_at hl 3 rfl) ?_
  refine lv_iconst (v := 2) hx hb dL_law_704 (by decide) ?_
  refine lv_iadd hx hb dL_law_705 ?_
  obtain ⟨b162, h⟩ := h
  refine va_sld hx hb hXs hbl hbA hS b162 dL_law_706 ?_
  refine lv_aload_n hx hb dL_law_707 rfl (lv_at hl 0 rfl) ?_
  refine lv_iload_n hx hb dL_law_708 rfl (lv_at hl 3 rfl) ?_
  refine lv_iconst (v := 3) hx hb dL_law_709 (by decide) ?_
  refine lv_iadd hx hb dL_law_710 ?_
  obtain ⟨b163, h⟩ := h
  refine va_sld hx hb hXs hbl hbA hS b163 dL_law_711 ?_
  refine g_vI C hK hl.1 (m_X7_best l G x ξ γ τ η σ ο (xs (w3 + 1).toNatClampNeg) (xs (w3 + 2).toNatClampNeg) (xs (w3 + 3).toNatClampNeg) _ h) mw_X7_best mi_X7_best ml_L_82 rfl ⟨rfl, rfl, Nat.le_of_ble_eq_true rfl, Nat.le_of_ble_eq_true rfl⟩ ⟨Nat.le_of_ble_eq_true rfl, Nat.le_of_ble_eq_true rfl⟩ (g_recv (a := x) (k := 0) hK hX rfl rfl) ⟨hX, hG, hT, hH, hZ, hO⟩ hS (fun _ h => h.elim) rfl (Nat.le_of_ble_eq_true rfl) dL_law_712 (fun r164 u H locs h hu _ hq hS => ?_)
  have hX := hX.past hq (fun _ _ h => h)
  have hG := hG.past hq (fun _ _ h => h)
  have hT := hT.past hq (fun _ _ h => h)
  have hH := hH.past hq (fun _ _ h => h)
  have hZ := hZ.past hq (fun _ _ h => h)
  have hO := hO.past hq (fun _ _ h => h)
  have hM := hM.past hq (fun _ _ h => h)
  refine lv_aload_n hx hb dL_law_715 rfl (lv_at hl 2 rfl) ?_
  refine lv_aload_n hx hb dL_law_716 rfl (lv_at hl 0 rfl) ?_
  refine lv_iload_n hx hb dL_law_717 rfl (lv_at hl 3 rfl) ?_
  refine lv_iconst (v := 1) hx hb dL_law_718 (by decide) ?_
  refine lv_iadd hx hb dL_law_719 ?_
  refine va_sld hx hb hXs hbl hbA hS b161 dL_law_720 ?_
  refine lv_aload_n hx hb dL_law_721 rfl (lv_at hl 0 rfl) ?_
  refine lv_iload_n hx hb dL_law_722 rfl (lv_at hl 3 rfl) ?_
  refine lv_iconst (v := 2) hx hb dL_law_723 (by decide) ?_
  refine lv_iadd hx hb dL_law_724 ?_
  refine va_sld hx hb hXs hbl hbA hS b162 dL_law_725 ?_
  refine lv_aload_n hx hb dL_law_726 rfl (lv_at hl 0 rfl) ?_
  refine lv_iload_n hx hb dL_law_727 rfl (lv_at hl 3 rfl) ?_
  refine lv_iconst (v := 3) hx hb dL_law_728 (by decide) ?_
  refine lv_iadd hx hb dL_law_729 ?_
  refine va_sld hx hb hXs hbl hbA hS b163 dL_law_730 ?_
  refine g_vI C hK hl.1 (m_X8_best l G y ρ (xs (w3 + 1).toNatClampNeg) (xs (w3 + 2).toNatClampNeg) (xs (w3 + 3).toNatClampNeg) _ h) mw_X8_best mi_X8_best ml_L_85 rfl ⟨rfl, rfl, Nat.le_of_ble_eq_true rfl, Nat.le_of_ble_eq_true rfl⟩ ⟨Nat.le_of_ble_eq_true rfl, Nat.le_of_ble_eq_true rfl⟩ (g_recv (a := y) (k := 0) hK hM rfl rfl) hM hS (fun _ h => h.elim) rfl (Nat.le_of_ble_eq_true rfl) dL_law_731 (fun r165 u H locs h hu _ hq hS => ?_)
  have hX := hX.past hq (fun _ _ h => h)
  have hG := hG.past hq (fun _ _ h => h)
  have hT := hT.past hq (fun _ _ h => h)
  have hH := hH.past hq (fun _ _ h => h)
  have hZ := hZ.past hq (fun _ _ h => h)
  have hO := hO.past hq (fun _ _ h => h)
  have hM := hM.past hq (fun _ _ h => h)
  refine lv_icmp_eq (tgt := 923) hx hb dL_law_734 (by decide) (fun c166 => ?_) (fun c166 => ?_)
  · replace h := h.1 c166
    exact (ih.2.2.2.2.2.2.2.2.2.2.2.2.2.2.2.2.2.2.2.2.2.2.2.2.2.2) γ τ η σ ο ρ w3 _ _ _ hX hG hT hH hZ hO hM hS (lv_sub hl [0, 1, 2, 3] rfl) h
  · replace h := h.2 c166
    refine lv_iconst (v := 0) hx hb dL_law_737 (by decide) ?_
    exact h.elim
set_option maxHeartbeats 8000000 in
set_option maxRecDepth 100000 in
theorem lawS_739 {p : Program} {l : Launch} {e : Env} {s : State} {m : MethodId} {below : List Frame} {meth : Method} {c : Code} {G : GG} {b L x y : Nat} {xs : Nat → Int32} (C : CX p m meth c s #[Value.ref b] code RL 4) (hr : meth.sig.returnType = ret) (hK : KK G s) (hXs : va_X b L xs s s.heap) (hbl : b < s.heap.size) (hx0 : s.heap.size = x) (hy0 : y = x + 138) (ξ : Mem) (n : Nat) (ih : lawK p l e s m below meth c G b L x y xs ξ n) : (∀ (γ : Mem) (τ : Mem) (η : Mem) (σ : (Nat → Mem)) (ο : Mem) (ρ : Mem) (w3 : Int32) (H : Heap) (locs : List Loc) (ls : Array Slot), rg G LX x ξ H → rg G LG (x + 1) γ H → rg G LG (x + 23) τ H → rg G LH (x + 45) η H → HG G (x + 46) σ H → rg G LO (x + 135) ο H → rg G LM y ρ H → va_S (fun q => x ≤ q) s.heap H locs → lv_has ls 4 [(0, .ref b), (1, .ref x), (2, .ref y), (3, .int w3)] → vb_L_law_739 L xs ξ (vl_L_law L xs ξ n) γ τ η σ ο ρ w3 → W p l e room_1 s m #[Value.ref b] below meth c H locs 146 2475 (lw_Z below #[Value.ref b] s) (F0 m 739 ls [])) := by
  intro γ τ η σ ο ρ w3 H locs ls hX hG hT hH hZ hO hM hS hl h
  obtain ⟨hx, hb, hml, hown, hts, hlocks⟩ := id C
  have hbA : ¬ (fun q : Nat => x ≤ q) b := by show ¬ x ≤ b; omega
  unfold lawK at ih
  unfold vb_L_law_739 at h
  refine lv_aload_n hx hb dL_law_739 rfl (lv_at hl 1 rfl) ?_
  refine lv_aload_n hx hb dL_law_740 rfl (lv_at hl 0 rfl) ?_
  refine lv_iload_n hx hb dL_law_741 rfl (lv_at hl 3 rfl) ?_
  refine lv_iconst (v := 1) hx hb dL_law_742 (by decide) ?_
  refine lv_iadd hx hb dL_law_743 ?_
  obtain ⟨b167, h⟩ := h
  refine va_sld hx hb hXs hbl hbA hS b167 dL_law_744 ?_
  refine lv_aload_n hx hb dL_law_745 rfl (lv_at hl 0 rfl) ?_
  refine lv_iload_n hx hb dL_law_746 rfl (lv_at hl 3 rfl) ?_
  refine lv_iconst (v := 2) hx hb dL_law_747 (by decide) ?_
  refine lv_iadd hx hb dL_law_748 ?_
  obtain ⟨b168, h⟩ := h
  refine va_sld hx hb hXs hbl hbA hS b168 dL_law_749 ?_
  refine lv_aload_n hx hb dL_law_750 rfl (lv_at hl 0 rfl) ?_
  refine lv_iload_n hx hb dL_law_751 rfl (lv_at hl 3 rfl) ?_
  refine lv_iconst (v := 3) hx hb dL_law_752 (by decide) ?_
  refine lv_iadd hx hb dL_law_753 ?_
  obtain ⟨b169, h⟩ := h
  refine va_sld hx hb hXs hbl hbA hS b169 dL_law_754 ?_
  refine g_vI C hK hl.1 (m_X7_earns l G x ξ γ τ η σ ο (xs (w3 + 1).toNatClampNeg) (xs (w3 + 2).toNatClampNeg) (xs (w3 + 3).toNatClampNeg) _ h) mw_X7_earns mi_X7_earns ml_L_86 rfl ⟨rfl, rfl, Nat.le_of_ble_eq_true rfl, Nat.le_of_ble_eq_true rfl⟩ ⟨Nat.le_of_ble_eq_true rfl, Nat.le_of_ble_eq_true rfl⟩ (g_recv (a := x) (k := 0) hK hX rfl rfl) ⟨hX, hG, hT, hH, hZ, hO⟩ hS (fun q h => by simp only [RA] at h; omega) rfl (Nat.le_of_ble_eq_true rfl) dL_law_755 (fun r170 u H locs h hu _ hq hS => ?_)
  obtain ⟨τ171, rfl⟩ : ∃ z, z = u := ⟨_, rfl⟩
  have hT := hu
  have hX := hX.past hq (fun j hj h => by have hj : j < 1 := hj; simp only [RA] at h; omega)
  have hG := hG.past hq (fun j hj h => by have hj : j < 22 := hj; simp only [RA] at h; omega)
  have hH := hH.past hq (fun j hj h => by have hj : j < 1 := hj; simp only [RA] at h; omega)
  have hZ := hZ.past hq (fun j hj h => by have hj : j < 89 := hj; simp only [RA] at h; omega)
  have hO := hO.past hq (fun j hj h => by have hj : j < 3 := hj; simp only [RA] at h; omega)
  have hM := hM.past hq (fun j hj h => by have hj : j < 8 := hj; simp only [RA] at h; omega)
  refine lv_aload_n hx hb dL_law_758 rfl (lv_at hl 2 rfl) ?_
  refine lv_aload_n hx hb dL_law_759 rfl (lv_at hl 0 rfl) ?_
  refine lv_iload_n hx hb dL_law_760 rfl (lv_at hl 3 rfl) ?_
  refine lv_iconst (v := 1) hx hb dL_law_761 (by decide) ?_
  refine lv_iadd hx hb dL_law_762 ?_
  refine va_sld hx hb hXs hbl hbA hS b167 dL_law_763 ?_
  refine lv_aload_n hx hb dL_law_764 rfl (lv_at hl 0 rfl) ?_
  refine lv_iload_n hx hb dL_law_765 rfl (lv_at hl 3 rfl) ?_
  refine lv_iconst (v := 2) hx hb dL_law_766 (by decide) ?_
  refine lv_iadd hx hb dL_law_767 ?_
  refine va_sld hx hb hXs hbl hbA hS b168 dL_law_768 ?_
  refine lv_aload_n hx hb dL_law_769 rfl (lv_at hl 0 rfl) ?_
  refine lv_iload_n hx hb dL_law_770 rfl (lv_at hl 3 rfl) ?_
  refine lv_iconst (v := 3) hx hb dL_law_771 (by decide) ?_
  refine lv_iadd hx hb dL_law_772 ?_
  refine va_sld hx hb hXs hbl hbA hS b169 dL_law_773 ?_
  refine g_vI C hK hl.1 (m_X8_earns l G y ρ (xs (w3 + 1).toNatClampNeg) (xs (w3 + 2).toNatClampNeg) (xs (w3 + 3).toNatClampNeg) _ h) mw_X8_earns mi_X8_earns ml_L_89 rfl ⟨rfl, rfl, Nat.le_of_ble_eq_true rfl, Nat.le_of_ble_eq_true rfl⟩ ⟨Nat.le_of_ble_eq_true rfl, Nat.le_of_ble_eq_true rfl⟩ (g_recv (a := y) (k := 0) hK hM rfl rfl) hM hS (fun q h => by simp only [RA] at h; omega) rfl (Nat.le_of_ble_eq_true rfl) dL_law_774 (fun r172 u H locs h hu _ hq hS => ?_)
  obtain ⟨ρ173, rfl⟩ : ∃ z, z = u := ⟨_, rfl⟩
  have hM := hu
  have hX := hX.past hq (fun j hj h => by have hj : j < 1 := hj; simp only [RA] at h; omega)
  have hG := hG.past hq (fun j hj h => by have hj : j < 22 := hj; simp only [RA] at h; omega)
  have hT := hT.past hq (fun j hj h => by have hj : j < 22 := hj; simp only [RA] at h; omega)
  have hH := hH.past hq (fun j hj h => by have hj : j < 1 := hj; simp only [RA] at h; omega)
  have hZ := hZ.past hq (fun j hj h => by have hj : j < 89 := hj; simp only [RA] at h; omega)
  have hO := hO.past hq (fun j hj h => by have hj : j < 3 := hj; simp only [RA] at h; omega)
  refine lv_icmp_eq (tgt := 923) hx hb dL_law_777 (by decide) (fun c174 => ?_) (fun c174 => ?_)
  · replace h := h.1 c174
    exact (ih.2.2.2.2.2.2.2.2.2.2.2.2.2.2.2.2.2.2.2.2.2.2.2.2.2.2) γ τ171 η σ ο ρ173 w3 _ _ _ hX hG hT hH hZ hO hM hS (lv_sub hl [0, 1, 2, 3] rfl) h
  · replace h := h.2 c174
    refine lv_iconst (v := 0) hx hb dL_law_780 (by decide) ?_
    exact h.elim
set_option maxHeartbeats 8000000 in
set_option maxRecDepth 100000 in
theorem lawS_782 {p : Program} {l : Launch} {e : Env} {s : State} {m : MethodId} {below : List Frame} {meth : Method} {c : Code} {G : GG} {b L x y : Nat} {xs : Nat → Int32} (C : CX p m meth c s #[Value.ref b] code RL 4) (hr : meth.sig.returnType = ret) (hK : KK G s) (hXs : va_X b L xs s s.heap) (hbl : b < s.heap.size) (hx0 : s.heap.size = x) (hy0 : y = x + 138) (ξ : Mem) (n : Nat) (ih : lawK p l e s m below meth c G b L x y xs ξ n) : (∀ (γ : Mem) (τ : Mem) (η : Mem) (σ : (Nat → Mem)) (ο : Mem) (ρ : Mem) (w3 : Int32) (H : Heap) (locs : List Loc) (ls : Array Slot), rg G LX x ξ H → rg G LG (x + 1) γ H → rg G LG (x + 23) τ H → rg G LH (x + 45) η H → HG G (x + 46) σ H → rg G LO (x + 135) ο H → rg G LM y ρ H → va_S (fun q => x ≤ q) s.heap H locs → lv_has ls 4 [(0, .ref b), (1, .ref x), (2, .ref y), (3, .int w3)] → vb_L_law_782 L xs ξ (vl_L_law L xs ξ n) γ τ η σ ο ρ w3 → W p l e room_1 s m #[Value.ref b] below meth c H locs 146 2475 (lw_Z below #[Value.ref b] s) (F0 m 782 ls [])) := by
  intro γ τ η σ ο ρ w3 H locs ls hX hG hT hH hZ hO hM hS hl h
  obtain ⟨hx, hb, hml, hown, hts, hlocks⟩ := id C
  have hbA : ¬ (fun q : Nat => x ≤ q) b := by show ¬ x ≤ b; omega
  unfold lawK at ih
  unfold vb_L_law_782 at h
  refine lv_aload_n hx hb dL_law_782 rfl (lv_at hl 1 rfl) ?_
  refine lv_aload_n hx hb dL_law_783 rfl (lv_at hl 0 rfl) ?_
  refine lv_iload_n hx hb dL_law_784 rfl (lv_at hl 3 rfl) ?_
  refine lv_iconst (v := 1) hx hb dL_law_785 (by decide) ?_
  refine lv_iadd hx hb dL_law_786 ?_
  obtain ⟨b175, h⟩ := h
  refine va_sld hx hb hXs hbl hbA hS b175 dL_law_787 ?_
  refine lv_aload_n hx hb dL_law_788 rfl (lv_at hl 0 rfl) ?_
  refine lv_iload_n hx hb dL_law_789 rfl (lv_at hl 3 rfl) ?_
  refine lv_iconst (v := 2) hx hb dL_law_790 (by decide) ?_
  refine lv_iadd hx hb dL_law_791 ?_
  obtain ⟨b176, h⟩ := h
  refine va_sld hx hb hXs hbl hbA hS b176 dL_law_792 ?_
  refine g_vI C hK hl.1 (m_X7_busy l G x ξ γ τ η σ ο (xs (w3 + 1).toNatClampNeg) (xs (w3 + 2).toNatClampNeg) _ h) mw_X7_busy mi_X7_busy ml_L_90 rfl ⟨rfl, rfl, Nat.le_of_ble_eq_true rfl, Nat.le_of_ble_eq_true rfl⟩ ⟨Nat.le_of_ble_eq_true rfl, Nat.le_of_ble_eq_true rfl⟩ (g_recv (a := x) (k := 0) hK hX rfl rfl) ⟨hX, hG, hT, hH, hZ, hO⟩ hS (fun _ h => h.elim) rfl (Nat.le_of_ble_eq_true rfl) dL_law_793 (fun r177 u H locs h hu _ hq hS => ?_)
  have hX := hX.past hq (fun _ _ h => h)
  have hG := hG.past hq (fun _ _ h => h)
  have hT := hT.past hq (fun _ _ h => h)
  have hH := hH.past hq (fun _ _ h => h)
  have hZ := hZ.past hq (fun _ _ h => h)
  have hO := hO.past hq (fun _ _ h => h)
  have hM := hM.past hq (fun _ _ h => h)
  refine lv_aload_n hx hb dL_law_796 rfl (lv_at hl 2 rfl) ?_
  refine lv_aload_n hx hb dL_law_797 rfl (lv_at hl 0 rfl) ?_
  refine lv_iload_n hx hb dL_law_798 rfl (lv_at hl 3 rfl) ?_
  refine lv_iconst (v := 1) hx hb dL_law_799 (by decide) ?_
  refine lv_iadd hx hb dL_law_800 ?_
  refine va_sld hx hb hXs hbl hbA hS b175 dL_law_801 ?_
  refine lv_aload_n hx hb dL_law_802 rfl (lv_at hl 0 rfl) ?_
  refine lv_iload_n hx hb dL_law_803 rfl (lv_at hl 3 rfl) ?_
  refine lv_iconst (v := 2) hx hb dL_law_804 (by decide) ?_
  refine lv_iadd hx hb dL_law_805 ?_
  refine va_sld hx hb hXs hbl hbA hS b176 dL_law_806 ?_
  refine g_vI C hK hl.1 (m_X8_busy l G y ρ (xs (w3 + 1).toNatClampNeg) (xs (w3 + 2).toNatClampNeg) _ h) mw_X8_busy mi_X8_busy ml_L_93 rfl ⟨rfl, rfl, Nat.le_of_ble_eq_true rfl, Nat.le_of_ble_eq_true rfl⟩ ⟨Nat.le_of_ble_eq_true rfl, Nat.le_of_ble_eq_true rfl⟩ (g_recv (a := y) (k := 0) hK hM rfl rfl) hM hS (fun _ h => h.elim) rfl (Nat.le_of_ble_eq_true rfl) dL_law_807 (fun r178 u H locs h hu _ hq hS => ?_)
  have hX := hX.past hq (fun _ _ h => h)
  have hG := hG.past hq (fun _ _ h => h)
  have hT := hT.past hq (fun _ _ h => h)
  have hH := hH.past hq (fun _ _ h => h)
  have hZ := hZ.past hq (fun _ _ h => h)
  have hO := hO.past hq (fun _ _ h => h)
  have hM := hM.past hq (fun _ _ h => h)
  refine lv_icmp_eq (tgt := 923) hx hb dL_law_810 (by decide) (fun c179 => ?_) (fun c179 => ?_)
  · replace h := h.1 c179
    exact (ih.2.2.2.2.2.2.2.2.2.2.2.2.2.2.2.2.2.2.2.2.2.2.2.2.2.2) γ τ η σ ο ρ w3 _ _ _ hX hG hT hH hZ hO hM hS (lv_sub hl [0, 1, 2, 3] rfl) h
  · replace h := h.2 c179
    refine lv_iconst (v := 0) hx hb dL_law_813 (by decide) ?_
    exact h.elim
set_option maxHeartbeats 8000000 in
set_option maxRecDepth 100000 in
theorem lawS_815 {p : Program} {l : Launch} {e : Env} {s : State} {m : MethodId} {below : List Frame} {meth : Method} {c : Code} {G : GG} {b L x y : Nat} {xs : Nat → Int32} (C : CX p m meth c s #[Value.ref b] code RL 4) (hr : meth.sig.returnType = ret) (hK : KK G s) (hXs : va_X b L xs s s.heap) (hbl : b < s.heap.size) (hx0 : s.heap.size = x) (hy0 : y = x + 138) (ξ : Mem) (n : Nat) (ih : lawK p l e s m below meth c G b L x y xs ξ n) : (∀ (γ : Mem) (τ : Mem) (η : Mem) (σ : (Nat → Mem)) (ο : Mem) (ρ : Mem) (w3 : Int32) (H : Heap) (locs : List Loc) (ls : Array Slot), rg G LX x ξ H → rg G LG (x + 1) γ H → rg G LG (x + 23) τ H → rg G LH (x + 45) η H → HG G (x + 46) σ H → rg G LO (x + 135) ο H → rg G LM y ρ H → va_S (fun q => x ≤ q) s.heap H locs → lv_has ls 4 [(0, .ref b), (1, .ref x), (2, .ref y), (3, .int w3)] → vb_L_law_815 L xs ξ (vl_L_law L xs ξ n) γ τ η σ ο ρ w3 → W p l e room_1 s m #[Value.ref b] below meth c H locs 146 2475 (lw_Z below #[Value.ref b] s) (F0 m 815 ls [])) := by
  intro γ τ η σ ο ρ w3 H locs ls hX hG hT hH hZ hO hM hS hl h
  obtain ⟨hx, hb, hml, hown, hts, hlocks⟩ := id C
  have hbA : ¬ (fun q : Nat => x ≤ q) b := by show ¬ x ≤ b; omega
  unfold lawK at ih
  unfold vb_L_law_815 at h
  refine lv_aload_n hx hb dL_law_815 rfl (lv_at hl 1 rfl) ?_
  refine lv_aload_n hx hb dL_law_816 rfl (lv_at hl 0 rfl) ?_
  refine lv_iload_n hx hb dL_law_817 rfl (lv_at hl 3 rfl) ?_
  refine lv_iconst (v := 1) hx hb dL_law_818 (by decide) ?_
  refine lv_iadd hx hb dL_law_819 ?_
  obtain ⟨b180, h⟩ := h
  refine va_sld hx hb hXs hbl hbA hS b180 dL_law_820 ?_
  refine g_vI C hK hl.1 (m_X7_count l G x ξ γ τ η σ ο (xs (w3 + 1).toNatClampNeg) _ h) mw_X7_count mi_X7_count ml_L_94 rfl ⟨rfl, rfl, Nat.le_of_ble_eq_true rfl, Nat.le_of_ble_eq_true rfl⟩ ⟨Nat.le_of_ble_eq_true rfl, Nat.le_of_ble_eq_true rfl⟩ (g_recv (a := x) (k := 0) hK hX rfl rfl) ⟨hX, hG, hT, hH, hZ, hO⟩ hS (fun _ h => h.elim) rfl (Nat.le_of_ble_eq_true rfl) dL_law_821 (fun r181 u H locs h hu _ hq hS => ?_)
  have hX := hX.past hq (fun _ _ h => h)
  have hG := hG.past hq (fun _ _ h => h)
  have hT := hT.past hq (fun _ _ h => h)
  have hH := hH.past hq (fun _ _ h => h)
  have hZ := hZ.past hq (fun _ _ h => h)
  have hO := hO.past hq (fun _ _ h => h)
  have hM := hM.past hq (fun _ _ h => h)
  refine lv_aload_n hx hb dL_law_824 rfl (lv_at hl 2 rfl) ?_
  refine lv_aload_n hx hb dL_law_825 rfl (lv_at hl 0 rfl) ?_
  refine lv_iload_n hx hb dL_law_826 rfl (lv_at hl 3 rfl) ?_
  refine lv_iconst (v := 1) hx hb dL_law_827 (by decide) ?_
  refine lv_iadd hx hb dL_law_828 ?_
  refine va_sld hx hb hXs hbl hbA hS b180 dL_law_829 ?_
  refine g_vI C hK hl.1 (m_X8_count l G y ρ (xs (w3 + 1).toNatClampNeg) _ h) mw_X8_count mi_X8_count ml_L_97 rfl ⟨rfl, rfl, Nat.le_of_ble_eq_true rfl, Nat.le_of_ble_eq_true rfl⟩ ⟨Nat.le_of_ble_eq_true rfl, Nat.le_of_ble_eq_true rfl⟩ (g_recv (a := y) (k := 0) hK hM rfl rfl) hM hS (fun _ h => h.elim) rfl (Nat.le_of_ble_eq_true rfl) dL_law_830 (fun r182 u H locs h hu _ hq hS => ?_)
  have hX := hX.past hq (fun _ _ h => h)
  have hG := hG.past hq (fun _ _ h => h)
  have hT := hT.past hq (fun _ _ h => h)
  have hH := hH.past hq (fun _ _ h => h)
  have hZ := hZ.past hq (fun _ _ h => h)
  have hO := hO.past hq (fun _ _ h => h)
  have hM := hM.past hq (fun _ _ h => h)
  refine lv_icmp_eq (tgt := 923) hx hb dL_law_833 (by decide) (fun c183 => ?_) (fun c183 => ?_)
  · replace h := h.1 c183
    exact (ih.2.2.2.2.2.2.2.2.2.2.2.2.2.2.2.2.2.2.2.2.2.2.2.2.2.2) γ τ η σ ο ρ w3 _ _ _ hX hG hT hH hZ hO hM hS (lv_sub hl [0, 1, 2, 3] rfl) h
  · replace h := h.2 c183
    refine lv_iconst (v := 0) hx hb dL_law_836 (by decide) ?_
    exact h.elim
set_option maxHeartbeats 8000000 in
set_option maxRecDepth 100000 in
theorem lawS_838 {p : Program} {l : Launch} {e : Env} {s : State} {m : MethodId} {below : List Frame} {meth : Method} {c : Code} {G : GG} {b L x y : Nat} {xs : Nat → Int32} (C : CX p m meth c s #[Value.ref b] code RL 4) (hr : meth.sig.returnType = ret) (hK : KK G s) (hXs : va_X b L xs s s.heap) (hbl : b < s.heap.size) (hx0 : s.heap.size = x) (hy0 : y = x + 138) (ξ : Mem) (n : Nat) (ih : lawK p l e s m below meth c G b L x y xs ξ n) : (∀ (γ : Mem) (τ : Mem) (η : Mem) (σ : (Nat → Mem)) (ο : Mem) (ρ : Mem) (w3 : Int32) (H : Heap) (locs : List Loc) (ls : Array Slot), rg G LX x ξ H → rg G LG (x + 1) γ H → rg G LG (x + 23) τ H → rg G LH (x + 45) η H → HG G (x + 46) σ H → rg G LO (x + 135) ο H → rg G LM y ρ H → va_S (fun q => x ≤ q) s.heap H locs → lv_has ls 4 [(0, .ref b), (1, .ref x), (2, .ref y), (3, .int w3)] → vb_L_law_838 L xs ξ (vl_L_law L xs ξ n) γ τ η σ ο ρ w3 → W p l e room_1 s m #[Value.ref b] below meth c H locs 146 2475 (lw_Z below #[Value.ref b] s) (F0 m 838 ls [])) := by
  intro γ τ η σ ο ρ w3 H locs ls hX hG hT hH hZ hO hM hS hl h
  obtain ⟨hx, hb, hml, hown, hts, hlocks⟩ := id C
  have hbA : ¬ (fun q : Nat => x ≤ q) b := by show ¬ x ≤ b; omega
  unfold lawK at ih
  unfold vb_L_law_838 at h
  refine lv_aload_n hx hb dL_law_838 rfl (lv_at hl 1 rfl) ?_
  refine g_vI C hK hl.1 (m_X7_undo l G x ξ γ τ η σ ο _ h) mw_X7_undo mi_X7_undo ml_L_98 rfl ⟨rfl, rfl, Nat.le_of_ble_eq_true rfl, Nat.le_of_ble_eq_true rfl⟩ ⟨Nat.le_of_ble_eq_true rfl, Nat.le_of_ble_eq_true rfl⟩ (g_recv (a := x) (k := 0) hK hX rfl rfl) ⟨hX, hG, hT, hH, hZ, hO⟩ hS (fun q h => by simp only [RA] at h; omega) rfl (Nat.le_of_ble_eq_true rfl) dL_law_839 (fun r184 u H locs h hu _ hq hS => ?_)
  obtain ⟨γ185, η186⟩ := u
  dsimp only at h hu
  obtain ⟨hG, hH⟩ := hu
  have hX := hX.past hq (fun j hj h => by have hj : j < 1 := hj; simp only [RA] at h; omega)
  have hT := hT.past hq (fun j hj h => by have hj : j < 22 := hj; simp only [RA] at h; omega)
  have hZ := hZ.past hq (fun j hj h => by have hj : j < 89 := hj; simp only [RA] at h; omega)
  have hO := hO.past hq (fun j hj h => by have hj : j < 3 := hj; simp only [RA] at h; omega)
  have hM := hM.past hq (fun j hj h => by have hj : j < 8 := hj; simp only [RA] at h; omega)
  refine lv_aload_n hx hb dL_law_842 rfl (lv_at hl 2 rfl) ?_
  refine g_vI C hK hl.1 (m_X8_undo l G y ρ _ h) mw_X8_undo mi_X8_undo ml_L_101 rfl ⟨rfl, rfl, Nat.le_of_ble_eq_true rfl, Nat.le_of_ble_eq_true rfl⟩ ⟨Nat.le_of_ble_eq_true rfl, Nat.le_of_ble_eq_true rfl⟩ (g_recv (a := y) (k := 0) hK hM rfl rfl) hM hS (fun q h => by simp only [RA] at h; omega) rfl (Nat.le_of_ble_eq_true rfl) dL_law_843 (fun r187 u H locs h hu _ hq hS => ?_)
  obtain ⟨ρ188, rfl⟩ : ∃ z, z = u := ⟨_, rfl⟩
  have hM := hu
  have hX := hX.past hq (fun j hj h => by have hj : j < 1 := hj; simp only [RA] at h; omega)
  have hG := hG.past hq (fun j hj h => by have hj : j < 22 := hj; simp only [RA] at h; omega)
  have hT := hT.past hq (fun j hj h => by have hj : j < 22 := hj; simp only [RA] at h; omega)
  have hH := hH.past hq (fun j hj h => by have hj : j < 1 := hj; simp only [RA] at h; omega)
  have hZ := hZ.past hq (fun j hj h => by have hj : j < 89 := hj; simp only [RA] at h; omega)
  have hO := hO.past hq (fun j hj h => by have hj : j < 3 := hj; simp only [RA] at h; omega)
  refine lv_icmp_eq (tgt := 923) hx hb dL_law_846 (by decide) (fun c189 => ?_) (fun c189 => ?_)
  · replace h := h.1 c189
    exact (ih.2.2.2.2.2.2.2.2.2.2.2.2.2.2.2.2.2.2.2.2.2.2.2.2.2.2) γ185 τ η186 σ ο ρ188 w3 _ _ _ hX hG hT hH hZ hO hM hS (lv_sub hl [0, 1, 2, 3] rfl) h
  · replace h := h.2 c189
    refine lv_iconst (v := 0) hx hb dL_law_849 (by decide) ?_
    exact h.elim
set_option maxHeartbeats 8000000 in
set_option maxRecDepth 100000 in
theorem lawS_851 {p : Program} {l : Launch} {e : Env} {s : State} {m : MethodId} {below : List Frame} {meth : Method} {c : Code} {G : GG} {b L x y : Nat} {xs : Nat → Int32} (C : CX p m meth c s #[Value.ref b] code RL 4) (hr : meth.sig.returnType = ret) (hK : KK G s) (hXs : va_X b L xs s s.heap) (hbl : b < s.heap.size) (hx0 : s.heap.size = x) (hy0 : y = x + 138) (ξ : Mem) (n : Nat) (ih : lawK p l e s m below meth c G b L x y xs ξ n) : (∀ (γ : Mem) (τ : Mem) (η : Mem) (σ : (Nat → Mem)) (ο : Mem) (ρ : Mem) (w3 : Int32) (H : Heap) (locs : List Loc) (ls : Array Slot), rg G LX x ξ H → rg G LG (x + 1) γ H → rg G LG (x + 23) τ H → rg G LH (x + 45) η H → HG G (x + 46) σ H → rg G LO (x + 135) ο H → rg G LM y ρ H → va_S (fun q => x ≤ q) s.heap H locs → lv_has ls 4 [(0, .ref b), (1, .ref x), (2, .ref y), (3, .int w3)] → vb_L_law_851 L xs ξ (vl_L_law L xs ξ n) γ τ η σ ο ρ w3 → W p l e room_1 s m #[Value.ref b] below meth c H locs 146 2475 (lw_Z below #[Value.ref b] s) (F0 m 851 ls [])) := by
  intro γ τ η σ ο ρ w3 H locs ls hX hG hT hH hZ hO hM hS hl h
  obtain ⟨hx, hb, hml, hown, hts, hlocks⟩ := id C
  have hbA : ¬ (fun q : Nat => x ≤ q) b := by show ¬ x ≤ b; omega
  unfold lawK at ih
  unfold vb_L_law_851 at h
  refine lv_aload_n hx hb dL_law_851 rfl (lv_at hl 1 rfl) ?_
  refine lv_aload_n hx hb dL_law_852 rfl (lv_at hl 0 rfl) ?_
  refine lv_iload_n hx hb dL_law_853 rfl (lv_at hl 3 rfl) ?_
  refine lv_iconst (v := 1) hx hb dL_law_854 (by decide) ?_
  refine lv_iadd hx hb dL_law_855 ?_
  obtain ⟨b190, h⟩ := h
  refine va_sld hx hb hXs hbl hbA hS b190 dL_law_856 ?_
  refine g_vI C hK hl.1 (m_X7_type l G x ξ γ τ η σ ο (xs (w3 + 1).toNatClampNeg) _ h) mw_X7_type mi_X7_type ml_L_102 rfl ⟨rfl, rfl, Nat.le_of_ble_eq_true rfl, Nat.le_of_ble_eq_true rfl⟩ ⟨Nat.le_of_ble_eq_true rfl, Nat.le_of_ble_eq_true rfl⟩ (g_recv (a := x) (k := 0) hK hX rfl rfl) ⟨hX, hG, hT, hH, hZ, hO⟩ hS (fun q h => by simp only [RA] at h; omega) rfl (Nat.le_of_ble_eq_true rfl) dL_law_857 (fun r191 u H locs h hu _ hq hS => ?_)
  obtain ⟨ο192, rfl⟩ : ∃ z, z = u := ⟨_, rfl⟩
  have hO := hu
  have hX := hX.past hq (fun j hj h => by have hj : j < 1 := hj; simp only [RA] at h; omega)
  have hG := hG.past hq (fun j hj h => by have hj : j < 22 := hj; simp only [RA] at h; omega)
  have hT := hT.past hq (fun j hj h => by have hj : j < 22 := hj; simp only [RA] at h; omega)
  have hH := hH.past hq (fun j hj h => by have hj : j < 1 := hj; simp only [RA] at h; omega)
  have hZ := hZ.past hq (fun j hj h => by have hj : j < 89 := hj; simp only [RA] at h; omega)
  have hM := hM.past hq (fun j hj h => by have hj : j < 8 := hj; simp only [RA] at h; omega)
  refine lv_aload_n hx hb dL_law_860 rfl (lv_at hl 2 rfl) ?_
  refine lv_aload_n hx hb dL_law_861 rfl (lv_at hl 0 rfl) ?_
  refine lv_iload_n hx hb dL_law_862 rfl (lv_at hl 3 rfl) ?_
  refine lv_iconst (v := 1) hx hb dL_law_863 (by decide) ?_
  refine lv_iadd hx hb dL_law_864 ?_
  refine va_sld hx hb hXs hbl hbA hS b190 dL_law_865 ?_
  refine g_vI C hK hl.1 (m_X8_type l G y ρ (xs (w3 + 1).toNatClampNeg) _ h) mw_X8_type mi_X8_type ml_L_105 rfl ⟨rfl, rfl, Nat.le_of_ble_eq_true rfl, Nat.le_of_ble_eq_true rfl⟩ ⟨Nat.le_of_ble_eq_true rfl, Nat.le_of_ble_eq_true rfl⟩ (g_recv (a := y) (k := 0) hK hM rfl rfl) hM hS (fun q h => by simp only [RA] at h; omega) rfl (Nat.le_of_ble_eq_true rfl) dL_law_866 (fun r193 u H locs h hu _ hq hS => ?_)
  obtain ⟨ρ194, rfl⟩ : ∃ z, z = u := ⟨_, rfl⟩
  have hM := hu
  have hX := hX.past hq (fun j hj h => by have hj : j < 1 := hj; simp only [RA] at h; omega)
  have hG := hG.past hq (fun j hj h => by have hj : j < 22 := hj; simp only [RA] at h; omega)
  have hT := hT.past hq (fun j hj h => by have hj : j < 22 := hj; simp only [RA] at h; omega)
  have hH := hH.past hq (fun j hj h => by have hj : j < 1 := hj; simp only [RA] at h; omega)
  have hZ := hZ.past hq (fun j hj h => by have hj : j < 89 := hj; simp only [RA] at h; omega)
  have hO := hO.past hq (fun j hj h => by have hj : j < 3 := hj; simp only [RA] at h; omega)
  refine lv_icmp_eq (tgt := 923) hx hb dL_law_869 (by decide) (fun c195 => ?_) (fun c195 => ?_)
  · replace h := h.1 c195
    exact (ih.2.2.2.2.2.2.2.2.2.2.2.2.2.2.2.2.2.2.2.2.2.2.2.2.2.2) γ τ η σ ο192 ρ194 w3 _ _ _ hX hG hT hH hZ hO hM hS (lv_sub hl [0, 1, 2, 3] rfl) h
  · replace h := h.2 c195
    refine lv_iconst (v := 0) hx hb dL_law_872 (by decide) ?_
    exact h.elim
set_option maxHeartbeats 8000000 in
set_option maxRecDepth 100000 in
theorem lawS_874 {p : Program} {l : Launch} {e : Env} {s : State} {m : MethodId} {below : List Frame} {meth : Method} {c : Code} {G : GG} {b L x y : Nat} {xs : Nat → Int32} (C : CX p m meth c s #[Value.ref b] code RL 4) (hr : meth.sig.returnType = ret) (hK : KK G s) (hXs : va_X b L xs s s.heap) (hbl : b < s.heap.size) (hx0 : s.heap.size = x) (hy0 : y = x + 138) (ξ : Mem) (n : Nat) (ih : lawK p l e s m below meth c G b L x y xs ξ n) : (∀ (γ : Mem) (τ : Mem) (η : Mem) (σ : (Nat → Mem)) (ο : Mem) (ρ : Mem) (w3 : Int32) (H : Heap) (locs : List Loc) (ls : Array Slot), rg G LX x ξ H → rg G LG (x + 1) γ H → rg G LG (x + 23) τ H → rg G LH (x + 45) η H → HG G (x + 46) σ H → rg G LO (x + 135) ο H → rg G LM y ρ H → va_S (fun q => x ≤ q) s.heap H locs → lv_has ls 4 [(0, .ref b), (1, .ref x), (2, .ref y), (3, .int w3)] → vb_L_law_874 L xs ξ (vl_L_law L xs ξ n) γ τ η σ ο ρ w3 → W p l e room_1 s m #[Value.ref b] below meth c H locs 146 2475 (lw_Z below #[Value.ref b] s) (F0 m 874 ls [])) := by
  intro γ τ η σ ο ρ w3 H locs ls hX hG hT hH hZ hO hM hS hl h
  obtain ⟨hx, hb, hml, hown, hts, hlocks⟩ := id C
  have hbA : ¬ (fun q : Nat => x ≤ q) b := by show ¬ x ≤ b; omega
  unfold lawK at ih
  unfold vb_L_law_874 at h
  refine lv_aload_n hx hb dL_law_874 rfl (lv_at hl 1 rfl) ?_
  refine g_vI C hK hl.1 (m_X7_clearText l G x ξ γ τ η σ ο _ h) mw_X7_clearText mi_X7_clearText ml_L_106 rfl ⟨rfl, rfl, Nat.le_of_ble_eq_true rfl, Nat.le_of_ble_eq_true rfl⟩ ⟨Nat.le_of_ble_eq_true rfl, Nat.le_of_ble_eq_true rfl⟩ (g_recv (a := x) (k := 0) hK hX rfl rfl) ⟨hX, hG, hT, hH, hZ, hO⟩ hS (fun q h => by simp only [RA] at h; omega) rfl (Nat.le_of_ble_eq_true rfl) dL_law_875 (fun r196 u H locs h hu _ hq hS => ?_)
  obtain ⟨ο197, rfl⟩ : ∃ z, z = u := ⟨_, rfl⟩
  have hO := hu
  have hX := hX.past hq (fun j hj h => by have hj : j < 1 := hj; simp only [RA] at h; omega)
  have hG := hG.past hq (fun j hj h => by have hj : j < 22 := hj; simp only [RA] at h; omega)
  have hT := hT.past hq (fun j hj h => by have hj : j < 22 := hj; simp only [RA] at h; omega)
  have hH := hH.past hq (fun j hj h => by have hj : j < 1 := hj; simp only [RA] at h; omega)
  have hZ := hZ.past hq (fun j hj h => by have hj : j < 89 := hj; simp only [RA] at h; omega)
  have hM := hM.past hq (fun j hj h => by have hj : j < 8 := hj; simp only [RA] at h; omega)
  refine lv_aload_n hx hb dL_law_878 rfl (lv_at hl 2 rfl) ?_
  refine g_vI C hK hl.1 (m_X8_clearText l G y ρ _ h) mw_X8_clearText mi_X8_clearText ml_L_109 rfl ⟨rfl, rfl, Nat.le_of_ble_eq_true rfl, Nat.le_of_ble_eq_true rfl⟩ ⟨Nat.le_of_ble_eq_true rfl, Nat.le_of_ble_eq_true rfl⟩ (g_recv (a := y) (k := 0) hK hM rfl rfl) hM hS (fun q h => by simp only [RA] at h; omega) rfl (Nat.le_of_ble_eq_true rfl) dL_law_879 (fun r198 u H locs h hu _ hq hS => ?_)
  obtain ⟨ρ199, rfl⟩ : ∃ z, z = u := ⟨_, rfl⟩
  have hM := hu
  have hX := hX.past hq (fun j hj h => by have hj : j < 1 := hj; simp only [RA] at h; omega)
  have hG := hG.past hq (fun j hj h => by have hj : j < 22 := hj; simp only [RA] at h; omega)
  have hT := hT.past hq (fun j hj h => by have hj : j < 22 := hj; simp only [RA] at h; omega)
  have hH := hH.past hq (fun j hj h => by have hj : j < 1 := hj; simp only [RA] at h; omega)
  have hZ := hZ.past hq (fun j hj h => by have hj : j < 89 := hj; simp only [RA] at h; omega)
  have hO := hO.past hq (fun j hj h => by have hj : j < 3 := hj; simp only [RA] at h; omega)
  refine lv_icmp_eq (tgt := 923) hx hb dL_law_882 (by decide) (fun c200 => ?_) (fun c200 => ?_)
  · replace h := h.1 c200
    exact (ih.2.2.2.2.2.2.2.2.2.2.2.2.2.2.2.2.2.2.2.2.2.2.2.2.2.2) γ τ η σ ο197 ρ199 w3 _ _ _ hX hG hT hH hZ hO hM hS (lv_sub hl [0, 1, 2, 3] rfl) h
  · replace h := h.2 c200
    refine lv_iconst (v := 0) hx hb dL_law_885 (by decide) ?_
    exact h.elim
set_option maxHeartbeats 8000000 in
set_option maxRecDepth 100000 in
theorem lawS_887 {p : Program} {l : Launch} {e : Env} {s : State} {m : MethodId} {below : List Frame} {meth : Method} {c : Code} {G : GG} {b L x y : Nat} {xs : Nat → Int32} (C : CX p m meth c s #[Value.ref b] code RL 4) (hr : meth.sig.returnType = ret) (hK : KK G s) (hXs : va_X b L xs s s.heap) (hbl : b < s.heap.size) (hx0 : s.heap.size = x) (hy0 : y = x + 138) (ξ : Mem) (n : Nat) (ih : lawK p l e s m below meth c G b L x y xs ξ n) : (∀ (γ : Mem) (τ : Mem) (η : Mem) (σ : (Nat → Mem)) (ο : Mem) (ρ : Mem) (w3 : Int32) (H : Heap) (locs : List Loc) (ls : Array Slot), rg G LX x ξ H → rg G LG (x + 1) γ H → rg G LG (x + 23) τ H → rg G LH (x + 45) η H → HG G (x + 46) σ H → rg G LO (x + 135) ο H → rg G LM y ρ H → va_S (fun q => x ≤ q) s.heap H locs → lv_has ls 4 [(0, .ref b), (1, .ref x), (2, .ref y), (3, .int w3)] → vb_L_law_887 L xs ξ (vl_L_law L xs ξ n) γ τ η σ ο ρ w3 → W p l e room_1 s m #[Value.ref b] below meth c H locs 146 2475 (lw_Z below #[Value.ref b] s) (F0 m 887 ls [])) := by
  intro γ τ η σ ο ρ w3 H locs ls hX hG hT hH hZ hO hM hS hl h
  obtain ⟨hx, hb, hml, hown, hts, hlocks⟩ := id C
  have hbA : ¬ (fun q : Nat => x ≤ q) b := by show ¬ x ≤ b; omega
  unfold lawK at ih
  unfold vb_L_law_887 at h
  refine lv_aload_n hx hb dL_law_887 rfl (lv_at hl 1 rfl) ?_
  refine lv_aload_n hx hb dL_law_888 rfl (lv_at hl 0 rfl) ?_
  refine lv_iload_n hx hb dL_law_889 rfl (lv_at hl 3 rfl) ?_
  refine lv_iconst (v := 1) hx hb dL_law_890 (by decide) ?_
  refine lv_iadd hx hb dL_law_891 ?_
  obtain ⟨b201, h⟩ := h
  refine va_sld hx hb hXs hbl hbA hS b201 dL_law_892 ?_
  refine g_vI C hK hl.1 (m_X7_fault l G x ξ γ τ η σ ο (xs (w3 + 1).toNatClampNeg) _ h) mw_X7_fault mi_X7_fault ml_L_110 rfl ⟨rfl, rfl, Nat.le_of_ble_eq_true rfl, Nat.le_of_ble_eq_true rfl⟩ ⟨Nat.le_of_ble_eq_true rfl, Nat.le_of_ble_eq_true rfl⟩ (g_recv (a := x) (k := 0) hK hX rfl rfl) ⟨hX, hG, hT, hH, hZ, hO⟩ hS (fun q h => by simp only [RA] at h; omega) rfl (Nat.le_of_ble_eq_true rfl) dL_law_893 (fun r202 u H locs h hu _ hq hS => ?_)
  obtain ⟨τ203, ο204⟩ := u
  dsimp only at h hu
  obtain ⟨hT, hO⟩ := hu
  have hX := hX.past hq (fun j hj h => by have hj : j < 1 := hj; simp only [RA] at h; omega)
  have hG := hG.past hq (fun j hj h => by have hj : j < 22 := hj; simp only [RA] at h; omega)
  have hH := hH.past hq (fun j hj h => by have hj : j < 1 := hj; simp only [RA] at h; omega)
  have hZ := hZ.past hq (fun j hj h => by have hj : j < 89 := hj; simp only [RA] at h; omega)
  have hM := hM.past hq (fun j hj h => by have hj : j < 8 := hj; simp only [RA] at h; omega)
  refine lv_aload_n hx hb dL_law_896 rfl (lv_at hl 2 rfl) ?_
  refine lv_aload_n hx hb dL_law_897 rfl (lv_at hl 0 rfl) ?_
  refine lv_iload_n hx hb dL_law_898 rfl (lv_at hl 3 rfl) ?_
  refine lv_iconst (v := 1) hx hb dL_law_899 (by decide) ?_
  refine lv_iadd hx hb dL_law_900 ?_
  refine va_sld hx hb hXs hbl hbA hS b201 dL_law_901 ?_
  refine g_vI C hK hl.1 (m_X8_fault l G y ρ (xs (w3 + 1).toNatClampNeg) _ h) mw_X8_fault mi_X8_fault ml_L_113 rfl ⟨rfl, rfl, Nat.le_of_ble_eq_true rfl, Nat.le_of_ble_eq_true rfl⟩ ⟨Nat.le_of_ble_eq_true rfl, Nat.le_of_ble_eq_true rfl⟩ (g_recv (a := y) (k := 0) hK hM rfl rfl) hM hS (fun q h => by simp only [RA] at h; omega) rfl (Nat.le_of_ble_eq_true rfl) dL_law_902 (fun r205 u H locs h hu _ hq hS => ?_)
  obtain ⟨ρ206, rfl⟩ : ∃ z, z = u := ⟨_, rfl⟩
  have hM := hu
  have hX := hX.past hq (fun j hj h => by have hj : j < 1 := hj; simp only [RA] at h; omega)
  have hG := hG.past hq (fun j hj h => by have hj : j < 22 := hj; simp only [RA] at h; omega)
  have hT := hT.past hq (fun j hj h => by have hj : j < 22 := hj; simp only [RA] at h; omega)
  have hH := hH.past hq (fun j hj h => by have hj : j < 1 := hj; simp only [RA] at h; omega)
  have hZ := hZ.past hq (fun j hj h => by have hj : j < 89 := hj; simp only [RA] at h; omega)
  have hO := hO.past hq (fun j hj h => by have hj : j < 3 := hj; simp only [RA] at h; omega)
  refine lv_icmp_eq (tgt := 923) hx hb dL_law_905 (by decide) (fun c207 => ?_) (fun c207 => ?_)
  · replace h := h.1 c207
    exact (ih.2.2.2.2.2.2.2.2.2.2.2.2.2.2.2.2.2.2.2.2.2.2.2.2.2.2) γ τ203 η σ ο204 ρ206 w3 _ _ _ hX hG hT hH hZ hO hM hS (lv_sub hl [0, 1, 2, 3] rfl) h
  · replace h := h.2 c207
    refine lv_iconst (v := 0) hx hb dL_law_908 (by decide) ?_
    exact h.elim
set_option maxHeartbeats 8000000 in
set_option maxRecDepth 100000 in
theorem lawS_910 {p : Program} {l : Launch} {e : Env} {s : State} {m : MethodId} {below : List Frame} {meth : Method} {c : Code} {G : GG} {b L x y : Nat} {xs : Nat → Int32} (C : CX p m meth c s #[Value.ref b] code RL 4) (hr : meth.sig.returnType = ret) (hK : KK G s) (hXs : va_X b L xs s s.heap) (hbl : b < s.heap.size) (hx0 : s.heap.size = x) (hy0 : y = x + 138) (ξ : Mem) (n : Nat) (ih : lawK p l e s m below meth c G b L x y xs ξ n) : (∀ (γ : Mem) (τ : Mem) (η : Mem) (σ : (Nat → Mem)) (ο : Mem) (ρ : Mem) (w3 : Int32) (H : Heap) (locs : List Loc) (ls : Array Slot), rg G LX x ξ H → rg G LG (x + 1) γ H → rg G LG (x + 23) τ H → rg G LH (x + 45) η H → HG G (x + 46) σ H → rg G LO (x + 135) ο H → rg G LM y ρ H → va_S (fun q => x ≤ q) s.heap H locs → lv_has ls 4 [(0, .ref b), (1, .ref x), (2, .ref y), (3, .int w3)] → vb_L_law_910 L xs ξ (vl_L_law L xs ξ n) γ τ η σ ο ρ w3 → W p l e room_1 s m #[Value.ref b] below meth c H locs 146 2475 (lw_Z below #[Value.ref b] s) (F0 m 910 ls [])) := by
  intro γ τ η σ ο ρ w3 H locs ls hX hG hT hH hZ hO hM hS hl h
  obtain ⟨hx, hb, hml, hown, hts, hlocks⟩ := id C
  have hbA : ¬ (fun q : Nat => x ≤ q) b := by show ¬ x ≤ b; omega
  unfold lawK at ih
  unfold vb_L_law_910 at h
  refine lv_aload_n hx hb dL_law_910 rfl (lv_at hl 1 rfl) ?_
  refine g_vI C hK hl.1 (m_X7_play l G x ξ γ τ η σ ο _ h) mw_X7_play mi_X7_play ml_L_114 rfl ⟨rfl, rfl, Nat.le_of_ble_eq_true rfl, Nat.le_of_ble_eq_true rfl⟩ ⟨Nat.le_of_ble_eq_true rfl, Nat.le_of_ble_eq_true rfl⟩ (g_recv (a := x) (k := 0) hK hX rfl rfl) ⟨hX, hG, hT, hH, hZ, hO⟩ hS (fun q h => by simp only [RA] at h; omega) rfl (Nat.le_of_ble_eq_true rfl) dL_law_911 (fun r208 u H locs h hu _ hq hS => ?_)
  obtain ⟨γ209, τ210, η211, σ212, ο213⟩ := u
  dsimp only at h hu
  obtain ⟨hG, hT, hH, hZ, hO⟩ := hu
  have hX := hX.past hq (fun j hj h => by have hj : j < 1 := hj; simp only [RA] at h; omega)
  have hM := hM.past hq (fun j hj h => by have hj : j < 8 := hj; simp only [RA] at h; omega)
  refine lv_aload_n hx hb dL_law_914 rfl (lv_at hl 2 rfl) ?_
  refine g_vI C hK hl.1 (m_X8_play l G y ρ _ h) mw_X8_play mi_X8_play ml_L_117 rfl ⟨rfl, rfl, Nat.le_of_ble_eq_true rfl, Nat.le_of_ble_eq_true rfl⟩ ⟨Nat.le_of_ble_eq_true rfl, Nat.le_of_ble_eq_true rfl⟩ (g_recv (a := y) (k := 0) hK hM rfl rfl) hM hS (fun q h => by simp only [RA] at h; omega) rfl (Nat.le_of_ble_eq_true rfl) dL_law_915 (fun r214 u H locs h hu _ hq hS => ?_)
  obtain ⟨ρ215, rfl⟩ : ∃ z, z = u := ⟨_, rfl⟩
  have hM := hu
  have hX := hX.past hq (fun j hj h => by have hj : j < 1 := hj; simp only [RA] at h; omega)
  have hG := hG.past hq (fun j hj h => by have hj : j < 22 := hj; simp only [RA] at h; omega)
  have hT := hT.past hq (fun j hj h => by have hj : j < 22 := hj; simp only [RA] at h; omega)
  have hH := hH.past hq (fun j hj h => by have hj : j < 1 := hj; simp only [RA] at h; omega)
  have hZ := hZ.past hq (fun j hj h => by have hj : j < 89 := hj; simp only [RA] at h; omega)
  have hO := hO.past hq (fun j hj h => by have hj : j < 3 := hj; simp only [RA] at h; omega)
  refine lv_icmp_eq (tgt := 923) hx hb dL_law_918 (by decide) (fun c216 => ?_) (fun c216 => ?_)
  · replace h := h.1 c216
    exact (ih.2.2.2.2.2.2.2.2.2.2.2.2.2.2.2.2.2.2.2.2.2.2.2.2.2.2) γ209 τ210 η211 σ212 ο213 ρ215 w3 _ _ _ hX hG hT hH hZ hO hM hS (lv_sub hl [0, 1, 2, 3] rfl) h
  · replace h := h.2 c216
    refine lv_iconst (v := 0) hx hb dL_law_921 (by decide) ?_
    exact h.elim
set_option maxHeartbeats 8000000 in
set_option maxRecDepth 100000 in
theorem lawS_923 {p : Program} {l : Launch} {e : Env} {s : State} {m : MethodId} {below : List Frame} {meth : Method} {c : Code} {G : GG} {b L x y : Nat} {xs : Nat → Int32} (C : CX p m meth c s #[Value.ref b] code RL 4) (hr : meth.sig.returnType = ret) (hK : KK G s) (hXs : va_X b L xs s s.heap) (hbl : b < s.heap.size) (hx0 : s.heap.size = x) (hy0 : y = x + 138) (ξ : Mem) (n : Nat) (ih : lawK p l e s m below meth c G b L x y xs ξ n) : (∀ (γ : Mem) (τ : Mem) (η : Mem) (σ : (Nat → Mem)) (ο : Mem) (ρ : Mem) (w3 : Int32) (H : Heap) (locs : List Loc) (ls : Array Slot), rg G LX x ξ H → rg G LG (x + 1) γ H → rg G LG (x + 23) τ H → rg G LH (x + 45) η H → HG G (x + 46) σ H → rg G LO (x + 135) ο H → rg G LM y ρ H → va_S (fun q => x ≤ q) s.heap H locs → lv_has ls 4 [(0, .ref b), (1, .ref x), (2, .ref y), (3, .int w3)] → vb_L_law_923 L xs ξ (vl_L_law L xs ξ n) γ τ η σ ο ρ w3 → W p l e room_1 s m #[Value.ref b] below meth c H locs 146 2475 (lw_Z below #[Value.ref b] s) (F0 m 923 ls [])) := by
  intro γ τ η σ ο ρ w3 H locs ls hX hG hT hH hZ hO hM hS hl h
  obtain ⟨hx, hb, hml, hown, hts, hlocks⟩ := id C
  have hbA : ¬ (fun q : Nat => x ≤ q) b := by show ¬ x ≤ b; omega
  unfold lawK at ih
  unfold vb_L_law_923 at h
  obtain ⟨v217, ev217⟩ : ∃ y : Int32, y = w3 + 5 := ⟨_, rfl⟩
  specialize h v217 ev217
  refine lv_iinc (v := v217) (lv' := [(3, .int v217), (0, .ref b), (1, .ref x), (2, .ref y)]) hx hb dL_law_923 hl (k := 3) rfl (by rw [ev217]; rfl) (by decide) rfl (fun ls hl => ?_)
  refine lv_goto (tgt := 18) hx hb dL_law_926 (by decide) ?_
  exact (ih.1) γ τ η σ ο ρ v217 _ _ _ hX hG hT hH hZ hO hM hS (lv_sub hl [1, 2, 3, 0] rfl) h
theorem lawK_all {p : Program} {l : Launch} {e : Env} {s : State} {m : MethodId} {below : List Frame} {meth : Method} {c : Code} {G : GG} {b L x y : Nat} {xs : Nat → Int32} (C : CX p m meth c s #[Value.ref b] code RL 4) (hr : meth.sig.returnType = ret) (hK : KK G s) (hXs : va_X b L xs s s.heap) (hbl : b < s.heap.size) (hx0 : s.heap.size = x) (hy0 : y = x + 138) (ξ : Mem) : ∀ n : Nat, lawK p l e s m below meth c G b L x y xs ξ n
  | 0 => ⟨fun _ _ _ _ _ _ _ _ _ _ _ _ _ _ _ _ _ _ _ h => h.elim, fun _ _ _ _ _ _ _ _ _ _ _ _ _ _ _ _ _ _ _ h => h.elim, fun _ _ _ _ _ _ _ _ _ _ _ _ _ _ _ _ _ _ _ h => h.elim, fun _ _ _ _ _ _ _ _ _ _ _ _ _ _ _ _ _ _ _ h => h.elim, fun _ _ _ _ _ _ _ _ _ _ _ _ _ _ _ _ _ _ _ h => h.elim, fun _ _ _ _ _ _ _ _ _ _ _ _ _ _ _ _ _ _ _ h => h.elim, fun _ _ _ _ _ _ _ _ _ _ _ _ _ _ _ _ _ _ _ h => h.elim, fun _ _ _ _ _ _ _ _ _ _ _ _ _ _ _ _ _ _ _ h => h.elim, fun _ _ _ _ _ _ _ _ _ _ _ _ _ _ _ _ _ _ _ h => h.elim, fun _ _ _ _ _ _ _ _ _ _ _ _ _ _ _ _ _ _ _ h => h.elim, fun _ _ _ _ _ _ _ _ _ _ _ _ _ _ _ _ _ _ _ h => h.elim, fun _ _ _ _ _ _ _ _ _ _ _ _ _ _ _ _ _ _ _ h => h.elim, fun _ _ _ _ _ _ _ _ _ _ _ _ _ _ _ _ _ _ _ h => h.elim, fun _ _ _ _ _ _ _ _ _ _ _ _ _ _ _ _ _ _ _ h => h.elim, fun _ _ _ _ _ _ _ _ _ _ _ _ _ _ _ _ _ _ _ h => h.elim, fun _ _ _ _ _ _ _ _ _ _ _ _ _ _ _ _ _ _ _ h => h.elim, fun _ _ _ _ _ _ _ _ _ _ _ _ _ _ _ _ _ _ _ h => h.elim, fun _ _ _ _ _ _ _ _ _ _ _ _ _ _ _ _ _ _ _ h => h.elim, fun _ _ _ _ _ _ _ _ _ _ _ _ _ _ _ _ _ _ _ h => h.elim, fun _ _ _ _ _ _ _ _ _ _ _ _ _ _ _ _ _ _ _ h => h.elim, fun _ _ _ _ _ _ _ _ _ _ _ _ _ _ _ _ _ _ _ h => h.elim, fun _ _ _ _ _ _ _ _ _ _ _ _ _ _ _ _ _ _ _ h => h.elim, fun _ _ _ _ _ _ _ _ _ _ _ _ _ _ _ _ _ _ _ h => h.elim, fun _ _ _ _ _ _ _ _ _ _ _ _ _ _ _ _ _ _ _ h => h.elim, fun _ _ _ _ _ _ _ _ _ _ _ _ _ _ _ _ _ _ _ h => h.elim, fun _ _ _ _ _ _ _ _ _ _ _ _ _ _ _ _ _ _ _ h => h.elim, fun _ _ _ _ _ _ _ _ _ _ _ _ _ _ _ _ _ _ _ h => h.elim⟩
  | n + 1 => by
    have ih := lawK_all (p := p) (l := l) (e := e) (s := s) (m := m) (below := below) (meth := meth) (c := c) (G := G) (b := b) (L := L) (x := x) (y := y) (xs := xs) C hr hK hXs hbl hx0 hy0 ξ n
    exact ⟨lawS_18 C hr hK hXs hbl hx0 hy0 ξ n ih, lawS_148 C hr hK hXs hbl hx0 hy0 ξ n ih, lawS_161 C hr hK hXs hbl hx0 hy0 ξ n ih, lawS_204 C hr hK hXs hbl hx0 hy0 ξ n ih, lawS_257 C hr hK hXs hbl hx0 hy0 ξ n ih, lawS_290 C hr hK hXs hbl hx0 hy0 ξ n ih, lawS_333 C hr hK hXs hbl hx0 hy0 ξ n ih, lawS_366 C hr hK hXs hbl hx0 hy0 ξ n ih, lawS_399 C hr hK hXs hbl hx0 hy0 ξ n ih, lawS_432 C hr hK hXs hbl hx0 hy0 ξ n ih, lawS_455 C hr hK hXs hbl hx0 hy0 ξ n ih, lawS_488 C hr hK hXs hbl hx0 hy0 ξ n ih, lawS_531 C hr hK hXs hbl hx0 hy0 ξ n ih, lawS_564 C hr hK hXs hbl hx0 hy0 ξ n ih, lawS_597 C hr hK hXs hbl hx0 hy0 ξ n ih, lawS_630 C hr hK hXs hbl hx0 hy0 ξ n ih, lawS_653 C hr hK hXs hbl hx0 hy0 ξ n ih, lawS_696 C hr hK hXs hbl hx0 hy0 ξ n ih, lawS_739 C hr hK hXs hbl hx0 hy0 ξ n ih, lawS_782 C hr hK hXs hbl hx0 hy0 ξ n ih, lawS_815 C hr hK hXs hbl hx0 hy0 ξ n ih, lawS_838 C hr hK hXs hbl hx0 hy0 ξ n ih, lawS_851 C hr hK hXs hbl hx0 hy0 ξ n ih, lawS_874 C hr hK hXs hbl hx0 hy0 ξ n ih, lawS_887 C hr hK hXs hbl hx0 hy0 ξ n ih, lawS_910 C hr hK hXs hbl hx0 hy0 ξ n ih, lawS_923 C hr hK hXs hbl hx0 hy0 ξ n ih⟩
