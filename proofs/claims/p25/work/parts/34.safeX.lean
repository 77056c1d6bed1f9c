set_option maxHeartbeats 4000000 in
set_option maxRecDepth 100000 in
theorem s_X3_wealthSwapped {F : Nat} (hF : 100000 ≤ F) {x1 : Int32} {x2 : Int32} {x3 : Int32} {τ : Mem} (hI : wiX τ) (x1_1 : 0 ≤ x1.toInt) (x1_2 : x1.toInt ≤ 4) (x2_1 : 1 ≤ x2.toInt) (x2_2 : x2.toInt ≤ 4) (x3_1 : 0 ≤ x3.toInt) (x3_2 : x3.toInt ≤ 999) : sf (f_X3_wealthSwapped F x1 x2 x3 τ) (fun r s => wiX s ∧ (∀ k, 101 ≤ k → s k = τ k) ∧ s 83 1 = τ 83 1 ∧ s 0 7 = τ 0 7 ∧ -2147483648 ≤ r.toInt ∧ r.toInt ≤ 2147483647) := by
  have Fτ : ∀ k, 101 ≤ k → τ k = τ k := fun _ _ => rfl
  have O83_τ : τ 83 1 = τ 83 1 := rfl
  have O0_τ : τ 0 7 = τ 0 7 := rfl
  rw [f_X3_wealthSwapped_e]
  refine sf_bnd (s_X0_tradeRosters hF wt_h24 hI (by omega) (by omega) (by omega) (by omega)) (fun r1 u2 p3 => ?_)
  obtain ⟨Iu2, Fu2_, O83_u2_, O0_u2_, -⟩ := p3
  have Fu2 : ∀ k, 101 ≤ k → u2 k = τ k := fun k hk => (Fu2_ k hk).trans (Fτ k hk)
  have O83_u2 : u2 83 1 = τ 83 1 := O83_u2_.trans O83_τ
  have O0_u2 : u2 0 7 = τ 0 7 := O0_u2_.trans O0_τ
  refine sf_bnd (s_X0_reckon hF wt_h24 Iu2) (fun r4 u5 p6 => ?_)
  obtain ⟨Iu5, Fu5_, O83_u5_, O0_u5_, -⟩ := p6
  have Fu5 : ∀ k, 101 ≤ k → u5 k = τ k := fun k hk => (Fu5_ k hk).trans (Fu2 k hk)
  have O83_u5 : u5 83 1 = τ 83 1 := O83_u5_.trans O83_u2
  have O0_u5 : u5 0 7 = τ 0 7 := O0_u5_.trans O0_u2
  refine sf_bnd (s_X0_wealth hF wt_h24 Iu5 (by omega) (by omega)) (fun r7 u8 p9 => ?_)
  obtain ⟨e9, p9_1, p9_2⟩ := p9
  have e9 := e9.symm
  subst e9
  refine sf_bnd (s_X0_wealth hF wt_h24 Iu5 (by omega) (by omega)) (fun r10 u11 p12 => ?_)
  obtain ⟨e9, p12_1, p12_2⟩ := p12
  have e9 := e9.symm
  subst e9
  refine sf_bnd (s_X0_tradeRosters hF wt_h24 Iu5 (by omega) (by omega) (by omega) (by omega)) (fun r13 u14 p15 => ?_)
  obtain ⟨Iu14, Fu14_, O83_u14_, O0_u14_, -⟩ := p15
  have Fu14 : ∀ k, 101 ≤ k → u14 k = τ k := fun k hk => (Fu14_ k hk).trans (Fu5 k hk)
  have O83_u14 : u14 83 1 = τ 83 1 := O83_u14_.trans O83_u5
  have O0_u14 : u14 0 7 = τ 0 7 := O0_u14_.trans O0_u5
  have b16 := ti_lo r7
  have b17 := ti_hi r7
  have b18 := ti_lo r10
  have b19 := ti_hi r10
  have b20 := ti_lo (r7 + r10)
  have b21 := ti_hi (r7 + r10)
  exact sf_ret ⟨Iu14, Fu14, O83_u14, O0_u14, ti_lo _, ti_hi _⟩
set_option maxHeartbeats 4000000 in
set_option maxRecDepth 100000 in
theorem sl_X3_swap_64 {F : Nat} (hF : 100000 ≤ F) {x1 : Int32} {x5 : Int32} {k46 : Int32 → Int32 → Int32 → Mem → Option (Int32 × Mem)} {τ : Mem} (x1_1 : 0 ≤ x1.toInt) (x1_2 : x1.toInt ≤ 999) (x5_1 : 0 ≤ x5.toInt) (x5_2 : x5.toInt ≤ 4) {N46 : Nat} (hM46 : 5 < x5.toInt + (N46 + 1)) (hk46 : ∀ (x3 : Int32) (x4 : Int32) (x5 : Int32) (σ : Mem), wiX σ → (∀ k, 101 ≤ k → σ k = τ k) → σ 83 1 = τ 83 1 → σ 0 7 = τ 0 7 → 5 < x5.toInt + N46 → -9 ≤ x3.toInt → x3.toInt ≤ 48 → -1 ≤ x4.toInt → x4.toInt ≤ 2147483647 → 0 ≤ x5.toInt → x5.toInt ≤ 5 → sf (k46 x3 x4 x5 σ) (fun r s => wiX s ∧ (∀ k, 101 ≤ k → s k = τ k) ∧ s 83 1 = τ 83 1 ∧ s 0 7 = τ 0 7 ∧ -2147483648 ≤ r.toInt ∧ r.toInt ≤ 2147483647)) : ∀ (N : Nat) (x3 : Int32) (x4 : Int32) (x6 : Int32) (σ : Mem), wiX σ → (∀ k, 101 ≤ k → σ k = τ k) → σ 83 1 = τ 83 1 → σ 0 7 = τ 0 7 → 5 < x6.toInt + N → -9 ≤ x3.toInt → x3.toInt ≤ 48 → -1 ≤ x4.toInt → x4.toInt ≤ 2147483647 → 1 ≤ x6.toInt → x6.toInt ≤ 5 → sf (lp_X3_swap_64 F k46 x1 x5 N x3 x4 x6 σ) (fun r s => wiX s ∧ (∀ k, 101 ≤ k → s k = τ k) ∧ s 83 1 = τ 83 1 ∧ s 0 7 = τ 0 7 ∧ -2147483648 ≤ r.toInt ∧ r.toInt ≤ 2147483647) := by
  intro N
  induction N with
  | zero => intro x3 x4 x6 σ hI Fσ O83_σ O0_σ hN x3_1 x3_2 x4_1 x4_2 x6_1 x6_2; exfalso; omega
  | succ N ih =>
    intro x3 x4 x6 σ hI Fσ O83_σ O0_σ hN x3_1 x3_2 x4_1 x4_2 x6_1 x6_2
    rw [lp_X3_swap_64_s]
    have m1 := wx_X0_2 hI wt_h1
    refine sf_ite (fun c2 => ?_) (fun c2 => ?_)
    · have C2 : (σ 1 2).toInt ≤ x6.toInt := ti_le c2
      have b3 := ti_lo x4
      have b4 := ti_hi x4
      have t5 : (x5 + (1 : Int32)).toInt = x5.toInt + (1 : Int) := ti_add (show -2147483648 ≤ x5.toInt + (1 : Int) by omega) (show x5.toInt + (1 : Int) ≤ 2147483647 by omega)
      exact hk46 _ _ _ _ hI Fσ O83_σ O0_σ (by omega) (by omega) (by omega) (by omega) (by omega) (by omega) (by omega)
    have C2 : x6.toInt < (σ 1 2).toInt := ti_nle c2
    refine sf_bnd (s_X3_wealthSwapped hF hI (by omega) (by omega) (by omega) (by omega) (by omega) (by omega)) (fun r6 u7 p8 => ?_)
    obtain ⟨Iu7, Fu7_, O83_u7_, O0_u7_, p8_1, p8_2⟩ := p8
    have Fu7 : ∀ k, 101 ≤ k → u7 k = τ k := fun k hk => (Fu7_ k hk).trans (Fσ k hk)
    have O83_u7 : u7 83 1 = τ 83 1 := O83_u7_.trans O83_σ
    have O0_u7 : u7 0 7 = τ 0 7 := O0_u7_.trans O0_σ
    refine sf_bnd (s_X0_wealth hF wt_h1 Iu7 (by omega) (by omega)) (fun r9 u10 p11 => ?_)
    obtain ⟨e9, p11_1, p11_2⟩ := p11
    have e9 := e9.symm
    subst e9
    refine sf_bnd (s_X0_wealth hF wt_h1 Iu7 (by omega) (by omega)) (fun r12 u13 p14 => ?_)
    obtain ⟨e9, p14_1, p14_2⟩ := p14
    have e9 := e9.symm
    subst e9
    have b15 := ti_lo r6
    have b16 := ti_hi r6
    have b17 := ti_lo r9
    have b18 := ti_hi r9
    have b19 := ti_lo r12
    have b20 := ti_hi r12
    have b21 := ti_lo (r9 + r12)
    have b22 := ti_hi (r9 + r12)
    refine sf_ite (fun c23 => ?_) (fun c23 => ?_)
    · have C23 : r6.toInt ≤ (r9 + r12).toInt := ti_le c23
      rw [j_X3_swap_137_e]
      have b24 := ti_lo x4
      have b25 := ti_hi x4
      have t26 : (x6 + (1 : Int32)).toInt = x6.toInt + (1 : Int) := ti_add (show -2147483648 ≤ x6.toInt + (1 : Int) by omega) (show x6.toInt + (1 : Int) ≤ 2147483647 by omega)
      exact ih _ _ _ _ Iu7 Fu7 O83_u7 O0_u7 (by omega) (by omega) (by omega) (by omega) (by omega) (by omega) (by omega)
    have C23 : (r9 + r12).toInt < r6.toInt := ti_nle c23
    have b27 := ti_lo x4
    have b28 := ti_hi x4
    refine sf_ite (fun c29 => ?_) (fun c29 => ?_)
    · have C29 : r6.toInt ≤ x4.toInt := ti_le c29
      rw [j_X3_swap_137_e]
      have t30 : (x6 + (1 : Int32)).toInt = x6.toInt + (1 : Int) := ti_add (show -2147483648 ≤ x6.toInt + (1 : Int) by omega) (show x6.toInt + (1 : Int) ≤ 2147483647 by omega)
      exact ih _ _ _ _ Iu7 Fu7 O83_u7 O0_u7 (by omega) (by omega) (by omega) (by omega) (by omega) (by omega) (by omega)
    have C29 : x4.toInt < r6.toInt := ti_nle c29
    have t32 : ((10 : Int32) * x5).toInt = (10 : Int) * x5.toInt := ti_mul (show -2147483648 ≤ (10 : Int) * x5.toInt by omega) (show (10 : Int) * x5.toInt ≤ 2147483647 by omega)
    have t33 : (((10 : Int32) * x5) + x6).toInt = ((10 : Int32) * x5).toInt + x6.toInt := ti_add (show -2147483648 ≤ ((10 : Int32) * x5).toInt + x6.toInt by omega) (show ((10 : Int32) * x5).toInt + x6.toInt ≤ 2147483647 by omega)
    refine sf_lt (fun z31 hz31 => ?_)
    have hz31_ : z31.toInt = (((10 : Int32) * x5) + x6).toInt := (show z31.toInt = (((10 : Int32) * x5) + x6).toInt from congrArg Int32.toInt hz31)
    rw [j_X3_swap_137_e]
    have t34 : (x6 + (1 : Int32)).toInt = x6.toInt + (1 : Int) := ti_add (show -2147483648 ≤ x6.toInt + (1 : Int) by omega) (show x6.toInt + (1 : Int) ≤ 2147483647 by omega)
    exact ih _ _ _ _ Iu7 Fu7 O83_u7 O0_u7 (by omega) (by omega) (by omega) (by omega) (by omega) (by omega) (by omega)
set_option maxHeartbeats 4000000 in
set_option maxRecDepth 100000 in
theorem sl_X3_swap_46 {F : Nat} (hF : 100000 ≤ F) {x1 : Int32} {τ : Mem} (x1_1 : 0 ≤ x1.toInt) (x1_2 : x1.toInt ≤ 999) : ∀ (N : Nat) (x3 : Int32) (x4 : Int32) (x5 : Int32) (σ : Mem), wiX σ → (∀ k, 101 ≤ k → σ k = τ k) → σ 83 1 = τ 83 1 → σ 0 7 = τ 0 7 → 5 < x5.toInt + N → -9 ≤ x3.toInt → x3.toInt ≤ 48 → -1 ≤ x4.toInt → x4.toInt ≤ 2147483647 → 0 ≤ x5.toInt → x5.toInt ≤ 5 → sf (lp_X3_swap_46 F x1 N x3 x4 x5 σ) (fun r s => wiX s ∧ (∀ k, 101 ≤ k → s k = τ k) ∧ s 83 1 = τ 83 1 ∧ s 0 7 = τ 0 7 ∧ -2147483648 ≤ r.toInt ∧ r.toInt ≤ 2147483647) := by
  intro N
  induction N with
  | zero => intro x3 x4 x5 σ hI Fσ O83_σ O0_σ hN x3_1 x3_2 x4_1 x4_2 x5_1 x5_2; exfalso; omega
  | succ N ih =>
    intro x3 x4 x5 σ hI Fσ O83_σ O0_σ hN x3_1 x3_2 x4_1 x4_2 x5_1 x5_2
    rw [lp_X3_swap_46_s]
    have m1 := wx_X0_2 hI wt_h1
    refine sf_ite (fun c2 => ?_) (fun c2 => ?_)
    · have C2 : (σ 1 2).toInt ≤ x5.toInt := ti_le c2
      exact sf_ret ⟨hI, Fσ, O83_σ, O0_σ, ti_lo _, ti_hi _⟩
    have C2 : x5.toInt < (σ 1 2).toInt := ti_nle c2
    have b3 := ti_lo x4
    have b4 := ti_hi x4
    have t5 : (x5 + (1 : Int32)).toInt = x5.toInt + (1 : Int) := ti_add (show -2147483648 ≤ x5.toInt + (1 : Int) by omega) (show x5.toInt + (1 : Int) ≤ 2147483647 by omega)
    exact sl_X3_swap_64 hF (by omega) (by omega) (by omega) (by omega) (by omega) ih _ _ _ _ _ hI Fσ O83_σ O0_σ (by omega) (by omega) (by omega) (by omega) (by omega) (by omega) (by omega)
set_option maxHeartbeats 4000000 in
set_option maxRecDepth 100000 in
theorem s_X3_swap {F : Nat} (hF : 100000 ≤ F) {x1 : Int32} {τ : Mem} (hI : wiX τ) : sf (f_X3_swap F x1 τ) (fun r s => wiX s ∧ (∀ k, 101 ≤ k → s k = τ k) ∧ s 83 1 = τ 83 1 ∧ s 0 7 = τ 0 7 ∧ -2147483648 ≤ r.toInt ∧ r.toInt ≤ 2147483647) := by
  have Fτ : ∀ k, 101 ≤ k → τ k = τ k := fun _ _ => rfl
  have O83_τ : τ 83 1 = τ 83 1 := rfl
  have O0_τ : τ 0 7 = τ 0 7 := rfl
  rw [f_X3_swap_e]
  refine sf_in ?_
  rw [f_X3_outside_e]
  have b1 := ti_lo x1
  have b2 := ti_hi x1
  refine sf_ite (fun c3 => ?_) (fun c3 => ?_)
  · have C3 : (0 : Int) ≤ x1.toInt := ti_le c3
    refine sf_ite (fun c4 => ?_) (fun c4 => ?_)
    · have C4 : x1.toInt ≤ (999 : Int) := ti_le c4
      refine sf_ret ?_
      refine sf_ite (fun c5 => ?_) (fun c5 => ?_)
      · have C5 : (0 : Int) = (0 : Int) := ti_eq c5
        refine sf_bnd (s_X0_reckon hF wt_h1 hI) (fun r6 u7 p8 => ?_)
        obtain ⟨Iu7, Fu7_, O83_u7_, O0_u7_, -⟩ := p8
        have Fu7 : ∀ k, 101 ≤ k → u7 k = τ k := fun k hk => (Fu7_ k hk).trans (Fτ k hk)
        have O83_u7 : u7 83 1 = τ 83 1 := O83_u7_.trans O83_τ
        have O0_u7 : u7 0 7 = τ 0 7 := O0_u7_.trans O0_τ
        refine sf_bnd (s_X0_takeFrom hF wt_h24 wt_h1 Iu7) (fun r9 u10 p11 => ?_)
        obtain ⟨Iu10, Fu10_, O83_u10_, O0_u10_, -⟩ := p11
        have Fu10 : ∀ k, 101 ≤ k → u10 k = τ k := fun k hk => (Fu10_ k hk).trans (Fu7 k hk)
        have O83_u10 : u10 83 1 = τ 83 1 := O83_u10_.trans O83_u7
        have O0_u10 : u10 0 7 = τ 0 7 := O0_u10_.trans O0_u7
        have l_0 : (0 : Int32).toInt = 0 := rfl
        exact sl_X3_swap_46 hF (by omega) (by omega) _ _ _ _ _ Iu10 Fu10 O83_u10 O0_u10 (by omega) (by decide) (by decide) (by decide) (by decide) (by decide) (by decide)
      have C5 : ¬ (0 : Int) = (0 : Int) := ti_ne c5
      exfalso; omega
    have C4 : (999 : Int) < x1.toInt := ti_nle c4
    refine sf_ret ?_
    refine sf_ite (fun c12 => ?_) (fun c12 => ?_)
    · have C12 : (-6 : Int) = (0 : Int) := ti_eq c12
      exfalso; omega
    have C12 : ¬ (-6 : Int) = (0 : Int) := ti_ne c12
    refine sf_bnd (s_X3_refuse hF hI (by decide) (by decide)) (fun r13 u14 p15 => ?_)
    obtain ⟨Iu14, Fu14_, O83_u14_, O0_u14_, p15_1, p15_2, p15_x0⟩ := p15
    have Fu14 : ∀ k, 101 ≤ k → u14 k = τ k := fun k hk => (Fu14_ k hk).trans (Fτ k hk)
    have O83_u14 : u14 83 1 = τ 83 1 := O83_u14_.trans O83_τ
    have O0_u14 : u14 0 7 = τ 0 7 := O0_u14_.trans O0_τ
    replace p15_x0 : r13.toInt = (-6 : Int) := p15_x0
    exact sf_ret ⟨Iu14, Fu14, O83_u14, O0_u14, ti_lo _, ti_hi _⟩
  have C3 : x1.toInt < (0 : Int) := ti_nle c3
  refine sf_ret ?_
  refine sf_ite (fun c16 => ?_) (fun c16 => ?_)
  · have C16 : (-4 : Int) = (0 : Int) := ti_eq c16
    exfalso; omega
  have C16 : ¬ (-4 : Int) = (0 : Int) := ti_ne c16
  refine sf_bnd (s_X3_refuse hF hI (by decide) (by decide)) (fun r17 u18 p19 => ?_)
  obtain ⟨Iu18, Fu18_, O83_u18_, O0_u18_, p19_1, p19_2, p19_x0⟩ := p19
  have Fu18 : ∀ k, 101 ≤ k → u18 k = τ k := fun k hk => (Fu18_ k hk).trans (Fτ k hk)
  have O83_u18 : u18 83 1 = τ 83 1 := O83_u18_.trans O83_τ
  have O0_u18 : u18 0 7 = τ 0 7 := O0_u18_.trans O0_τ
  replace p19_x0 : r17.toInt = (-4 : Int) := p19_x0
  exact sf_ret ⟨Iu18, Fu18, O83_u18, O0_u18, ti_lo _, ti_hi _⟩
set_option maxHeartbeats 4000000 in
set_option maxRecDepth 100000 in
theorem sl_X3_heir_65 {F : Nat} (hF : 100000 ≤ F) {x1 : Int32} {x2 : Int32} {x3 : Int32} {τ : Mem} (x1_1 : 0 ≤ x1.toInt) (x1_2 : x1.toInt ≤ 4) (x2_1 : 0 ≤ x2.toInt) (x2_2 : x2.toInt ≤ 7) (x3_1 : 0 ≤ x3.toInt) (x3_2 : x3.toInt ≤ 999) : ∀ (N : Nat) (x5 : Int32) (σ : Mem), wiX σ → (∀ k, 101 ≤ k → σ k = τ k) → σ 83 1 = τ 83 1 → σ 0 7 = τ 0 7 → 8 < x5.toInt + N → 0 ≤ x5.toInt → x5.toInt ≤ 8 → sf (lp_X3_heir_65 F x1 x2 x3 N x5 σ) (fun r s => wiX s ∧ (∀ k, 101 ≤ k → s k = τ k) ∧ s 83 1 = τ 83 1 ∧ s 0 7 = τ 0 7 ∧ -2147483648 ≤ r.toInt ∧ r.toInt ≤ 2147483647) := by
  intro N
  induction N with
  | zero => intro x5 σ hI Fσ O83_σ O0_σ hN x5_1 x5_2; exfalso; omega
  | succ N ih =>
    intro x5 σ hI Fσ O83_σ O0_σ hN x5_1 x5_2
    rw [lp_X3_heir_65_s]
    refine sf_ite (fun c1 => ?_) (fun c1 => ?_)
    · have C1 : (8 : Int) ≤ x5.toInt := ti_le c1
      refine sf_bnd (s_X0_reckon hF wt_h24 hI) (fun r2 u3 p4 => ?_)
      obtain ⟨Iu3, Fu3_, O83_u3_, O0_u3_, -⟩ := p4
      have Fu3 : ∀ k, 101 ≤ k → u3 k = τ k := fun k hk => (Fu3_ k hk).trans (Fσ k hk)
      have O83_u3 : u3 83 1 = τ 83 1 := O83_u3_.trans O83_σ
      have O0_u3 : u3 0 7 = τ 0 7 := O0_u3_.trans O0_σ
      refine sf_bnd (s_X0_holder hF wt_h24 Iu3 (by omega) (by omega) (by omega) (by omega)) (fun r5 u6 p7 => ?_)
      obtain ⟨e9, p7_1, p7_2⟩ := p7
      have e9 := e9.symm
      subst e9
      exact sf_ret ⟨Iu3, Fu3, O83_u3, O0_u3, ti_lo _, ti_hi _⟩
    have C1 : x5.toInt < (8 : Int) := ti_nle c1
    refine sf_chk (ti_in (by omega) (by omega)) ?_
    have v8 : Int32.toNatClampNeg x1 = x1.toInt.toNat := rfl
    refine sf_chk (ti_in (by omega) (by omega)) ?_
    have v9 : Int32.toNatClampNeg x5 = x5.toInt.toNat := rfl
    refine sf_lt (fun s10 hs10 => ?_)
    have Is10 : wiX s10 := by rw [hs10]; exact wx_oth hI (fun q hq e => by have := wt_Hcs hq; omega) (fun e => by omega) (fun e => by omega) (fun e => by omega)
    have Fs10 : ∀ k, 101 ≤ k → s10 k = τ k := fun k hk => (show s10 k = σ k by rw [hs10, up2_k (by omega)]).trans (Fσ k hk)
    have O83_s10 : s10 83 1 = τ 83 1 := (show s10 83 1 = σ 83 1 by rw [hs10, up2_k (by omega)]).trans O83_σ
    have O0_s10 : s10 0 7 = τ 0 7 := (show s10 0 7 = σ 0 7 by rw [hs10, up2_k (by omega)]).trans O0_σ
    have t11 : (x5 + (1 : Int32)).toInt = x5.toInt + (1 : Int) := ti_add (show -2147483648 ≤ x5.toInt + (1 : Int) by omega) (show x5.toInt + (1 : Int) ≤ 2147483647 by omega)
    exact ih _ _ Is10 Fs10 O83_s10 O0_s10 (by omega) (by omega) (by omega)
set_option maxHeartbeats 4000000 in
set_option maxRecDepth 100000 in
theorem s_X3_heir {F : Nat} (hF : 100000 ≤ F) {x1 : Int32} {x2 : Int32} {x3 : Int32} {τ : Mem} (hI : wiX τ) : sf (f_X3_heir F x1 x2 x3 τ) (fun r s => wiX s ∧ (∀ k, 101 ≤ k → s k = τ k) ∧ s 83 1 = τ 83 1 ∧ s 0 7 = τ 0 7 ∧ -2147483648 ≤ r.toInt ∧ r.toInt ≤ 2147483647) := by
  have Fτ : ∀ k, 101 ≤ k → τ k = τ k := fun _ _ => rfl
  have O83_τ : τ 83 1 = τ 83 1 := rfl
  have O0_τ : τ 0 7 = τ 0 7 := rfl
  rw [f_X3_heir_e]
  have b1 := ti_lo x1
  have b2 := ti_hi x1
  refine sf_bnd (s_X3_noLooker hF hI) (fun r3 u4 p5 => ?_)
  obtain ⟨e9, p5⟩ := p5
  have e9 := e9.symm
  subst e9
  rcases p5 with ⟨rfl, q6, q7⟩ | p5
  · have b8 := ti_lo x2
    have b9 := ti_hi x2
    refine sf_bnd (s_X3_noView hF hI) (fun r10 u11 p12 => ?_)
    obtain ⟨e9, p12⟩ := p12
    have e9 := e9.symm
    subst e9
    rcases p12 with ⟨rfl, q13, q14⟩ | p12
    · refine sf_in ?_
      rw [f_X3_firstOf_e]
      refine sf_ite (fun c15 => ?_) (fun c15 => ?_)
      · have C15 : (0 : Int) = (0 : Int) := ti_eq c15
        refine sf_ret ?_
        refine sf_in ?_
        rw [f_X3_outside_e]
        have b16 := ti_lo x3
        have b17 := ti_hi x3
        refine sf_ite (fun c18 => ?_) (fun c18 => ?_)
        · have C18 : (0 : Int) ≤ x3.toInt := ti_le c18
          refine sf_ite (fun c19 => ?_) (fun c19 => ?_)
          · have C19 : x3.toInt ≤ (999 : Int) := ti_le c19
            refine sf_ret ?_
            refine sf_in ?_
            rw [f_X3_firstOf_e]
            refine sf_ite (fun c20 => ?_) (fun c20 => ?_)
            · have C20 : (0 : Int) = (0 : Int) := ti_eq c20
              refine sf_ret ?_
              refine sf_ite (fun c21 => ?_) (fun c21 => ?_)
              · have C21 : (0 : Int) = (0 : Int) := ti_eq c21
                refine sf_bnd (s_X0_takeFrom hF wt_h24 wt_h1 hI) (fun r22 u23 p24 => ?_)
                obtain ⟨Iu23, Fu23_, O83_u23_, O0_u23_, -⟩ := p24
                have Fu23 : ∀ k, 101 ≤ k → u23 k = τ k := fun k hk => (Fu23_ k hk).trans (Fτ k hk)
                have O83_u23 : u23 83 1 = τ 83 1 := O83_u23_.trans O83_τ
                have O0_u23 : u23 0 7 = τ 0 7 := O0_u23_.trans O0_τ
                refine sf_bnd (s_X0_post hF wt_h24 Iu23) (fun r25 u26 p27 => ?_)
                obtain ⟨Iu26, Fu26_, O83_u26_, O0_u26_, p27_1, p27_2⟩ := p27
                have Fu26 : ∀ k, 101 ≤ k → u26 k = τ k := fun k hk => (Fu26_ k hk).trans (Fu23 k hk)
                have O83_u26 : u26 83 1 = τ 83 1 := O83_u26_.trans O83_u23
                have O0_u26 : u26 0 7 = τ 0 7 := O0_u26_.trans O0_u23
                have hb_r25 : r25 = 0 ∨ r25 = 1 := wi_bool p27_1 p27_2
                have l_0 : (0 : Int32).toInt = 0 := rfl
                exact sl_X3_heir_65 hF (by omega) (by omega) (by omega) (by omega) (by omega) (by omega) _ _ _ Iu26 Fu26 O83_u26 O0_u26 (by omega) (by decide) (by decide)
              have C21 : ¬ (0 : Int) = (0 : Int) := ti_ne c21
              exfalso; omega
            have C20 : ¬ (0 : Int) = (0 : Int) := ti_ne c20
            exfalso; omega
          have C19 : (999 : Int) < x3.toInt := ti_nle c19
          refine sf_ret ?_
          refine sf_in ?_
          rw [f_X3_firstOf_e]
          refine sf_ite (fun c28 => ?_) (fun c28 => ?_)
          · have C28 : (0 : Int) = (0 : Int) := ti_eq c28
            refine sf_ret ?_
            refine sf_ite (fun c29 => ?_) (fun c29 => ?_)
            · have C29 : (-6 : Int) = (0 : Int) := ti_eq c29
              exfalso; omega
            have C29 : ¬ (-6 : Int) = (0 : Int) := ti_ne c29
            refine sf_bnd (s_X3_refuse hF hI (by decide) (by decide)) (fun r30 u31 p32 => ?_)
            obtain ⟨Iu31, Fu31_, O83_u31_, O0_u31_, p32_1, p32_2, p32_x0⟩ := p32
            have Fu31 : ∀ k, 101 ≤ k → u31 k = τ k := fun k hk => (Fu31_ k hk).trans (Fτ k hk)
            have O83_u31 : u31 83 1 = τ 83 1 := O83_u31_.trans O83_τ
            have O0_u31 : u31 0 7 = τ 0 7 := O0_u31_.trans O0_τ
            replace p32_x0 : r30.toInt = (-6 : Int) := p32_x0
            exact sf_ret ⟨Iu31, Fu31, O83_u31, O0_u31, ti_lo _, ti_hi _⟩
          have C28 : ¬ (0 : Int) = (0 : Int) := ti_ne c28
          exfalso; omega
        have C18 : x3.toInt < (0 : Int) := ti_nle c18
        refine sf_ret ?_
        refine sf_in ?_
        rw [f_X3_firstOf_e]
        refine sf_ite (fun c33 => ?_) (fun c33 => ?_)
        · have C33 : (0 : Int) = (0 : Int) := ti_eq c33
          refine sf_ret ?_
          refine sf_ite (fun c34 => ?_) (fun c34 => ?_)
          · have C34 : (-4 : Int) = (0 : Int) := ti_eq c34
            exfalso; omega
          have C34 : ¬ (-4 : Int) = (0 : Int) := ti_ne c34
          refine sf_bnd (s_X3_refuse hF hI (by decide) (by decide)) (fun r35 u36 p37 => ?_)
          obtain ⟨Iu36, Fu36_, O83_u36_, O0_u36_, p37_1, p37_2, p37_x0⟩ := p37
          have Fu36 : ∀ k, 101 ≤ k → u36 k = τ k := fun k hk => (Fu36_ k hk).trans (Fτ k hk)
          have O83_u36 : u36 83 1 = τ 83 1 := O83_u36_.trans O83_τ
          have O0_u36 : u36 0 7 = τ 0 7 := O0_u36_.trans O0_τ
          replace p37_x0 : r35.toInt = (-4 : Int) := p37_x0
          exact sf_ret ⟨Iu36, Fu36, O83_u36, O0_u36, ti_lo _, ti_hi _⟩
        have C33 : ¬ (0 : Int) = (0 : Int) := ti_ne c33
        exfalso; omega
      have C15 : ¬ (0 : Int) = (0 : Int) := ti_ne c15
      exfalso; omega
    obtain ⟨rfl, q38⟩ := p12
    refine sf_in ?_
    rw [f_X3_firstOf_e]
    refine sf_ite (fun c39 => ?_) (fun c39 => ?_)
    · have C39 : (0 : Int) = (0 : Int) := ti_eq c39
      refine sf_ret ?_
      refine sf_in ?_
      rw [f_X3_outside_e]
      have b40 := ti_lo x3
      have b41 := ti_hi x3
      refine sf_ite (fun c42 => ?_) (fun c42 => ?_)
      · have C42 : (0 : Int) ≤ x3.toInt := ti_le c42
        refine sf_ite (fun c43 => ?_) (fun c43 => ?_)
        · have C43 : x3.toInt ≤ (999 : Int) := ti_le c43
          refine sf_ret ?_
          refine sf_in ?_
          rw [f_X3_firstOf_e]
          refine sf_ite (fun c44 => ?_) (fun c44 => ?_)
          · have C44 : (-1 : Int) = (0 : Int) := ti_eq c44
            exfalso; omega
          have C44 : ¬ (-1 : Int) = (0 : Int) := ti_ne c44
          refine sf_ret ?_
          refine sf_ite (fun c45 => ?_) (fun c45 => ?_)
          · have C45 : (-1 : Int) = (0 : Int) := ti_eq c45
            exfalso; omega
          have C45 : ¬ (-1 : Int) = (0 : Int) := ti_ne c45
          refine sf_bnd (s_X3_refuse hF hI (by decide) (by decide)) (fun r46 u47 p48 => ?_)
          obtain ⟨Iu47, Fu47_, O83_u47_, O0_u47_, p48_1, p48_2, p48_x0⟩ := p48
          have Fu47 : ∀ k, 101 ≤ k → u47 k = τ k := fun k hk => (Fu47_ k hk).trans (Fτ k hk)
          have O83_u47 : u47 83 1 = τ 83 1 := O83_u47_.trans O83_τ
          have O0_u47 : u47 0 7 = τ 0 7 := O0_u47_.trans O0_τ
          replace p48_x0 : r46.toInt = (-1 : Int) := p48_x0
          exact sf_ret ⟨Iu47, Fu47, O83_u47, O0_u47, ti_lo _, ti_hi _⟩
        have C43 : (999 : Int) < x3.toInt := ti_nle c43
        refine sf_ret ?_
        refine sf_in ?_
        rw [f_X3_firstOf_e]
        refine sf_ite (fun c49 => ?_) (fun c49 => ?_)
        · have C49 : (-1 : Int) = (0 : Int) := ti_eq c49
          exfalso; omega
        have C49 : ¬ (-1 : Int) = (0 : Int) := ti_ne c49
        refine sf_ret ?_
        refine sf_ite (fun c50 => ?_) (fun c50 => ?_)
        · have C50 : (-1 : Int) = (0 : Int) := ti_eq c50
          exfalso; omega
        have C50 : ¬ (-1 : Int) = (0 : Int) := ti_ne c50
        refine sf_bnd (s_X3_refuse hF hI (by decide) (by decide)) (fun r51 u52 p53 => ?_)
        obtain ⟨Iu52, Fu52_, O83_u52_, O0_u52_, p53_1, p53_2, p53_x0⟩ := p53
        have Fu52 : ∀ k, 101 ≤ k → u52 k = τ k := fun k hk => (Fu52_ k hk).trans (Fτ k hk)
        have O83_u52 : u52 83 1 = τ 83 1 := O83_u52_.trans O83_τ
        have O0_u52 : u52 0 7 = τ 0 7 := O0_u52_.trans O0_τ
        replace p53_x0 : r51.toInt = (-1 : Int) := p53_x0
        exact sf_ret ⟨Iu52, Fu52, O83_u52, O0_u52, ti_lo _, ti_hi _⟩
      have C42 : x3.toInt < (0 : Int) := ti_nle c42
      refine sf_ret ?_
      refine sf_in ?_
      rw [f_X3_firstOf_e]
      refine sf_ite (fun c54 => ?_) (fun c54 => ?_)
      · have C54 : (-1 : Int) = (0 : Int) := ti_eq c54
        exfalso; omega
      have C54 : ¬ (-1 : Int) = (0 : Int) := ti_ne c54
      refine sf_ret ?_
      refine sf_ite (fun c55 => ?_) (fun c55 => ?_)
      · have C55 : (-1 : Int) = (0 : Int) := ti_eq c55
        exfalso; omega
      have C55 : ¬ (-1 : Int) = (0 : Int) := ti_ne c55
      refine sf_bnd (s_X3_refuse hF hI (by decide) (by decide)) (fun r56 u57 p58 => ?_)
      obtain ⟨Iu57, Fu57_, O83_u57_, O0_u57_, p58_1, p58_2, p58_x0⟩ := p58
      have Fu57 : ∀ k, 101 ≤ k → u57 k = τ k := fun k hk => (Fu57_ k hk).trans (Fτ k hk)
      have O83_u57 : u57 83 1 = τ 83 1 := O83_u57_.trans O83_τ
      have O0_u57 : u57 0 7 = τ 0 7 := O0_u57_.trans O0_τ
      replace p58_x0 : r56.toInt = (-1 : Int) := p58_x0
      exact sf_ret ⟨Iu57, Fu57, O83_u57, O0_u57, ti_lo _, ti_hi _⟩
    have C39 : ¬ (0 : Int) = (0 : Int) := ti_ne c39
    exfalso; omega
  obtain rfl := p5
  have b59 := ti_lo x2
  have b60 := ti_hi x2
  refine sf_bnd (s_X3_noView hF hI) (fun r61 u62 p63 => ?_)
  obtain ⟨e9, p63⟩ := p63
  have e9 := e9.symm
  subst e9
  rcases p63 with ⟨rfl, q64, q65⟩ | p63
  · refine sf_in ?_
    rw [f_X3_firstOf_e]
    refine sf_ite (fun c66 => ?_) (fun c66 => ?_)
    · have C66 : (-1 : Int) = (0 : Int) := ti_eq c66
      exfalso; omega
    have C66 : ¬ (-1 : Int) = (0 : Int) := ti_ne c66
    refine sf_ret ?_
    refine sf_in ?_
    rw [f_X3_outside_e]
    have b67 := ti_lo x3
    have b68 := ti_hi x3
    refine sf_ite (fun c69 => ?_) (fun c69 => ?_)
    · have C69 : (0 : Int) ≤ x3.toInt := ti_le c69
      refine sf_ite (fun c70 => ?_) (fun c70 => ?_)
      · have C70 : x3.toInt ≤ (999 : Int) := ti_le c70
        refine sf_ret ?_
        refine sf_in ?_
        rw [f_X3_firstOf_e]
        refine sf_ite (fun c71 => ?_) (fun c71 => ?_)
        · have C71 : (-1 : Int) = (0 : Int) := ti_eq c71
          exfalso; omega
        have C71 : ¬ (-1 : Int) = (0 : Int) := ti_ne c71
        refine sf_ret ?_
        refine sf_ite (fun c72 => ?_) (fun c72 => ?_)
        · have C72 : (-1 : Int) = (0 : Int) := ti_eq c72
          exfalso; omega
        have C72 : ¬ (-1 : Int) = (0 : Int) := ti_ne c72
        refine sf_bnd (s_X3_refuse hF hI (by decide) (by decide)) (fun r73 u74 p75 => ?_)
        obtain ⟨Iu74, Fu74_, O83_u74_, O0_u74_, p75_1, p75_2, p75_x0⟩ := p75
        have Fu74 : ∀ k, 101 ≤ k → u74 k = τ k := fun k hk => (Fu74_ k hk).trans (Fτ k hk)
        have O83_u74 : u74 83 1 = τ 83 1 := O83_u74_.trans O83_τ
        have O0_u74 : u74 0 7 = τ 0 7 := O0_u74_.trans O0_τ
        replace p75_x0 : r73.toInt = (-1 : Int) := p75_x0
        exact sf_ret ⟨Iu74, Fu74, O83_u74, O0_u74, ti_lo _, ti_hi _⟩
      have C70 : (999 : Int) < x3.toInt := ti_nle c70
      refine sf_ret ?_
      refine sf_in ?_
      rw [f_X3_firstOf_e]
      refine sf_ite (fun c76 => ?_) (fun c76 => ?_)
      · have C76 : (-1 : Int) = (0 : Int) := ti_eq c76
        exfalso; omega
      have C76 : ¬ (-1 : Int) = (0 : Int) := ti_ne c76
      refine sf_ret ?_
      refine sf_ite (fun c77 => ?_) (fun c77 => ?_)
      · have C77 : (-1 : Int) = (0 : Int) := ti_eq c77
        exfalso; omega
      have C77 : ¬ (-1 : Int) = (0 : Int) := ti_ne c77
      refine sf_bnd (s_X3_refuse hF hI (by decide) (by decide)) (fun r78 u79 p80 => ?_)
      obtain ⟨Iu79, Fu79_, O83_u79_, O0_u79_, p80_1, p80_2, p80_x0⟩ := p80
      have Fu79 : ∀ k, 101 ≤ k → u79 k = τ k := fun k hk => (Fu79_ k hk).trans (Fτ k hk)
      have O83_u79 : u79 83 1 = τ 83 1 := O83_u79_.trans O83_τ
      have O0_u79 : u79 0 7 = τ 0 7 := O0_u79_.trans O0_τ
      replace p80_x0 : r78.toInt = (-1 : Int) := p80_x0
      exact sf_ret ⟨Iu79, Fu79, O83_u79, O0_u79, ti_lo _, ti_hi _⟩
    have C69 : x3.toInt < (0 : Int) := ti_nle c69
    refine sf_ret ?_
    refine sf_in ?_
    rw [f_X3_firstOf_e]
    refine sf_ite (fun c81 => ?_) (fun c81 => ?_)
    · have C81 : (-1 : Int) = (0 : Int) := ti_eq c81
      exfalso; omega
    have C81 : ¬ (-1 : Int) = (0 : Int) := ti_ne c81
    refine sf_ret ?_
    refine sf_ite (fun c82 => ?_) (fun c82 => ?_)
    · have C82 : (-1 : Int) = (0 : Int) := ti_eq c82
      exfalso; omega
    have C82 : ¬ (-1 : Int) = (0 : Int) := ti_ne c82
    refine sf_bnd (s_X3_refuse hF hI (by decide) (by decide)) (fun r83 u84 p85 => ?_)
    obtain ⟨Iu84, Fu84_, O83_u84_, O0_u84_, p85_1, p85_2, p85_x0⟩ := p85
    have Fu84 : ∀ k, 101 ≤ k → u84 k = τ k := fun k hk => (Fu84_ k hk).trans (Fτ k hk)
    have O83_u84 : u84 83 1 = τ 83 1 := O83_u84_.trans O83_τ
    have O0_u84 : u84 0 7 = τ 0 7 := O0_u84_.trans O0_τ
    replace p85_x0 : r83.toInt = (-1 : Int) := p85_x0
    exact sf_ret ⟨Iu84, Fu84, O83_u84, O0_u84, ti_lo _, ti_hi _⟩
  obtain ⟨rfl, q86⟩ := p63
  refine sf_in ?_
  rw [f_X3_firstOf_e]
  refine sf_ite (fun c87 => ?_) (fun c87 => ?_)
  · have C87 : (-1 : Int) = (0 : Int) := ti_eq c87
    exfalso; omega
  have C87 : ¬ (-1 : Int) = (0 : Int) := ti_ne c87
  refine sf_ret ?_
  refine sf_in ?_
  rw [f_X3_outside_e]
  have b88 := ti_lo x3
  have b89 := ti_hi x3
  refine sf_ite (fun c90 => ?_) (fun c90 => ?_)
  · have C90 : (0 : Int) ≤ x3.toInt := ti_le c90
    refine sf_ite (fun c91 => ?_) (fun c91 => ?_)
    · have C91 : x3.toInt ≤ (999 : Int) := ti_le c91
      refine sf_ret ?_
      refine sf_in ?_
      rw [f_X3_firstOf_e]
      refine sf_ite (fun c92 => ?_) (fun c92 => ?_)
      · have C92 : (-1 : Int) = (0 : Int) := ti_eq c92
        exfalso; omega
      have C92 : ¬ (-1 : Int) = (0 : Int) := ti_ne c92
      refine sf_ret ?_
      refine sf_ite (fun c93 => ?_) (fun c93 => ?_)
      · have C93 : (-1 : Int) = (0 : Int) := ti_eq c93
        exfalso; omega
      have C93 : ¬ (-1 : Int) = (0 : Int) := ti_ne c93
      refine sf_bnd (s_X3_refuse hF hI (by decide) (by decide)) (fun r94 u95 p96 => ?_)
      obtain ⟨Iu95, Fu95_, O83_u95_, O0_u95_, p96_1, p96_2, p96_x0⟩ := p96
      have Fu95 : ∀ k, 101 ≤ k → u95 k = τ k := fun k hk => (Fu95_ k hk).trans (Fτ k hk)
      have O83_u95 : u95 83 1 = τ 83 1 := O83_u95_.trans O83_τ
      have O0_u95 : u95 0 7 = τ 0 7 := O0_u95_.trans O0_τ
      replace p96_x0 : r94.toInt = (-1 : Int) := p96_x0
      exact sf_ret ⟨Iu95, Fu95, O83_u95, O0_u95, ti_lo _, ti_hi _⟩
    have C91 : (999 : Int) < x3.toInt := ti_nle c91
    refine sf_ret ?_
    refine sf_in ?_
    rw [f_X3_firstOf_e]
    refine sf_ite (fun c97 => ?_) (fun c97 => ?_)
    · have C97 : (-1 : Int) = (0 : Int) := ti_eq c97
      exfalso; omega
    have C97 : ¬ (-1 : Int) = (0 : Int) := ti_ne c97
    refine sf_ret ?_
    refine sf_ite (fun c98 => ?_) (fun c98 => ?_)
    · have C98 : (-1 : Int) = (0 : Int) := ti_eq c98
      exfalso; omega
    have C98 : ¬ (-1 : Int) = (0 : Int) := ti_ne c98
    refine sf_bnd (s_X3_refuse hF hI (by decide) (by decide)) (fun r99 u100 p101 => ?_)
    obtain ⟨Iu100, Fu100_, O83_u100_, O0_u100_, p101_1, p101_2, p101_x0⟩ := p101
    have Fu100 : ∀ k, 101 ≤ k → u100 k = τ k := fun k hk => (Fu100_ k hk).trans (Fτ k hk)
    have O83_u100 : u100 83 1 = τ 83 1 := O83_u100_.trans O83_τ
    have O0_u100 : u100 0 7 = τ 0 7 := O0_u100_.trans O0_τ
    replace p101_x0 : r99.toInt = (-1 : Int) := p101_x0
    exact sf_ret ⟨Iu100, Fu100, O83_u100, O0_u100, ti_lo _, ti_hi _⟩
  have C90 : x3.toInt < (0 : Int) := ti_nle c90
  refine sf_ret ?_
  refine sf_in ?_
  rw [f_X3_firstOf_e]
  refine sf_ite (fun c102 => ?_) (fun c102 => ?_)
  · have C102 : (-1 : Int) = (0 : Int) := ti_eq c102
    exfalso; omega
  have C102 : ¬ (-1 : Int) = (0 : Int) := ti_ne c102
  refine sf_ret ?_
  refine sf_ite (fun c103 => ?_) (fun c103 => ?_)
  · have C103 : (-1 : Int) = (0 : Int) := ti_eq c103
    exfalso; omega
  have C103 : ¬ (-1 : Int) = (0 : Int) := ti_ne c103
  refine sf_bnd (s_X3_refuse hF hI (by decide) (by decide)) (fun r104 u105 p106 => ?_)
  obtain ⟨Iu105, Fu105_, O83_u105_, O0_u105_, p106_1, p106_2, p106_x0⟩ := p106
  have Fu105 : ∀ k, 101 ≤ k → u105 k = τ k := fun k hk => (Fu105_ k hk).trans (Fτ k hk)
  have O83_u105 : u105 83 1 = τ 83 1 := O83_u105_.trans O83_τ
  have O0_u105 : u105 0 7 = τ 0 7 := O0_u105_.trans O0_τ
  replace p106_x0 : r104.toInt = (-1 : Int) := p106_x0
  exact sf_ret ⟨Iu105, Fu105, O83_u105, O0_u105, ti_lo _, ti_hi _⟩
set_option maxHeartbeats 4000000 in
set_option maxRecDepth 100000 in
theorem sl_X3_even_49 {F : Nat} (hF : 100000 ≤ F) {x1 : Int32} {x4 : Int32} {k31 : Int32 → Int32 → Mem → Option (Int32 × Mem)} {τ : Mem} (x1_1 : 0 ≤ x1.toInt) (x1_2 : x1.toInt ≤ 999) (x4_1 : 0 ≤ x4.toInt) (x4_2 : x4.toInt ≤ 4) {N31 : Nat} (hM31 : 5 < x4.toInt + (N31 + 1)) (hk31 : ∀ (x3 : Int32) (x4 : Int32) (σ : Mem), wiX σ → (∀ k, 101 ≤ k → σ k = τ k) → σ 83 1 = τ 83 1 → σ 0 7 = τ 0 7 → 5 < x4.toInt + N31 → 0 ≤ x4.toInt → x4.toInt ≤ 5 → sf (k31 x3 x4 σ) (fun r s => wiX s ∧ (∀ k, 101 ≤ k → s k = τ k) ∧ s 83 1 = τ 83 1 ∧ s 0 7 = τ 0 7 ∧ -2147483648 ≤ r.toInt ∧ r.toInt ≤ 2147483647)) : ∀ (N : Nat) (x3 : Int32) (x5 : Int32) (σ : Mem), wiX σ → (∀ k, 101 ≤ k → σ k = τ k) → σ 83 1 = τ 83 1 → σ 0 7 = τ 0 7 → 5 < x5.toInt + N → 1 ≤ x5.toInt → x5.toInt ≤ 5 → sf (lp_X3_even_49 F k31 x1 x4 N x3 x5 σ) (fun r s => wiX s ∧ (∀ k, 101 ≤ k → s k = τ k) ∧ s 83 1 = τ 83 1 ∧ s 0 7 = τ 0 7 ∧ -2147483648 ≤ r.toInt ∧ r.toInt ≤ 2147483647) := by
  intro N
  induction N with
  | zero => intro x3 x5 σ hI Fσ O83_σ O0_σ hN x5_1 x5_2; exfalso; omega
  | succ N ih =>
    intro x3 x5 σ hI Fσ O83_σ O0_σ hN x5_1 x5_2
    rw [lp_X3_even_49_s]
    have m1 := wx_X0_2 hI wt_h1
    refine sf_ite (fun c2 => ?_) (fun c2 => ?_)
    · have C2 : (σ 1 2).toInt ≤ x5.toInt := ti_le c2
      have b3 := ti_lo x3
      have b4 := ti_hi x3
      have t5 : (x4 + (1 : Int32)).toInt = x4.toInt + (1 : Int) := ti_add (show -2147483648 ≤ x4.toInt + (1 : Int) by omega) (show x4.toInt + (1 : Int) ≤ 2147483647 by omega)
      exact hk31 _ _ _ hI Fσ O83_σ O0_σ (by omega) (by omega) (by omega)
    have C2 : x5.toInt < (σ 1 2).toInt := ti_nle c2
    refine sf_bnd (s_X0_lead hF wt_h1 hI (by omega) (by omega) (by omega) (by omega) (by omega) (by omega)) (fun r6 u7 p8 => ?_)
    obtain ⟨e9, p8_1, p8_2⟩ := p8
    have e9 := e9.symm
    subst e9
    have b9 := ti_lo r6
    have b10 := ti_hi r6
    refine sf_ite (fun c11 => ?_) (fun c11 => ?_)
    · have C11 : r6.toInt = (0 : Int) := ti_eq c11
      rw [j_X3_even_79_e]
      have b12 := ti_lo x3
      have b13 := ti_hi x3
      have b14 := ti_lo (x3 + (1 : Int32))
      have b15 := ti_hi (x3 + (1 : Int32))
      have t16 : (x5 + (1 : Int32)).toInt = x5.toInt + (1 : Int) := ti_add (show -2147483648 ≤ x5.toInt + (1 : Int) by omega) (show x5.toInt + (1 : Int) ≤ 2147483647 by omega)
      exact ih _ _ _ hI Fσ O83_σ O0_σ (by omega) (by omega) (by omega)
    have C11 : ¬ r6.toInt = (0 : Int) := ti_ne c11
    rw [j_X3_even_79_e]
    have b17 := ti_lo x3
    have b18 := ti_hi x3
    have t19 : (x5 + (1 : Int32)).toInt = x5.toInt + (1 : Int) := ti_add (show -2147483648 ≤ x5.toInt + (1 : Int) by omega) (show x5.toInt + (1 : Int) ≤ 2147483647 by omega)
    exact ih _ _ _ hI Fσ O83_σ O0_σ (by omega) (by omega) (by omega)
set_option maxHeartbeats 4000000 in
set_option maxRecDepth 100000 in
theorem sl_X3_even_31 {F : Nat} (hF : 100000 ≤ F) {x1 : Int32} {τ : Mem} (x1_1 : 0 ≤ x1.toInt) (x1_2 : x1.toInt ≤ 999) : ∀ (N : Nat) (x3 : Int32) (x4 : Int32) (σ : Mem), wiX σ → (∀ k, 101 ≤ k → σ k = τ k) → σ 83 1 = τ 83 1 → σ 0 7 = τ 0 7 → 5 < x4.toInt + N → 0 ≤ x4.toInt → x4.toInt ≤ 5 → sf (lp_X3_even_31 F x1 N x3 x4 σ) (fun r s => wiX s ∧ (∀ k, 101 ≤ k → s k = τ k) ∧ s 83 1 = τ 83 1 ∧ s 0 7 = τ 0 7 ∧ -2147483648 ≤ r.toInt ∧ r.toInt ≤ 2147483647) := by
  intro N
  induction N with
  | zero => intro x3 x4 σ hI Fσ O83_σ O0_σ hN x4_1 x4_2; exfalso; omega
  | succ N ih =>
    intro x3 x4 σ hI Fσ O83_σ O0_σ hN x4_1 x4_2
    rw [lp_X3_even_31_s]
    have m1 := wx_X0_2 hI wt_h1
    refine sf_ite (fun c2 => ?_) (fun c2 => ?_)
    · have C2 : (σ 1 2).toInt ≤ x4.toInt := ti_le c2
      have b3 := ti_lo x3
      have b4 := ti_hi x3
      exact sf_ret ⟨hI, Fσ, O83_σ, O0_σ, ti_lo _, ti_hi _⟩
    have C2 : x4.toInt < (σ 1 2).toInt := ti_nle c2
    have b5 := ti_lo x3
    have b6 := ti_hi x3
    have t7 : (x4 + (1 : Int32)).toInt = x4.toInt + (1 : Int) := ti_add (show -2147483648 ≤ x4.toInt + (1 : Int) by omega) (show x4.toInt + (1 : Int) ≤ 2147483647 by omega)
    exact sl_X3_even_49 hF (by omega) (by omega) (by omega) (by omega) (by omega) ih _ _ _ _ hI Fσ O83_σ O0_σ (by omega) (by omega) (by omega)
set_option maxHeartbeats 4000000 in
set_option maxRecDepth 100000 in
theorem s_X3_even {F : Nat} (hF : 100000 ≤ F) {x1 : Int32} {τ : Mem} (hI : wiX τ) : sf (f_X3_even F x1 τ) (fun r s => wiX s ∧ (∀ k, 101 ≤ k → s k = τ k) ∧ s 83 1 = τ 83 1 ∧ s 0 7 = τ 0 7 ∧ -2147483648 ≤ r.toInt ∧ r.toInt ≤ 2147483647) := by
  have Fτ : ∀ k, 101 ≤ k → τ k = τ k := fun _ _ => rfl
  have O83_τ : τ 83 1 = τ 83 1 := rfl
  have O0_τ : τ 0 7 = τ 0 7 := rfl
  rw [f_X3_even_e]
  refine sf_in ?_
  rw [f_X3_outside_e]
  have b1 := ti_lo x1
  have b2 := ti_hi x1
  refine sf_ite (fun c3 => ?_) (fun c3 => ?_)
  · have C3 : (0 : Int) ≤ x1.toInt := ti_le c3
    refine sf_ite (fun c4 => ?_) (fun c4 => ?_)
    · have C4 : x1.toInt ≤ (999 : Int) := ti_le c4
      refine sf_ret ?_
      refine sf_ite (fun c5 => ?_) (fun c5 => ?_)
      · have C5 : (0 : Int) = (0 : Int) := ti_eq c5
        refine sf_bnd (s_X0_reckon hF wt_h1 hI) (fun r6 u7 p8 => ?_)
        obtain ⟨Iu7, Fu7_, O83_u7_, O0_u7_, -⟩ := p8
        have Fu7 : ∀ k, 101 ≤ k → u7 k = τ k := fun k hk => (Fu7_ k hk).trans (Fτ k hk)
        have O83_u7 : u7 83 1 = τ 83 1 := O83_u7_.trans O83_τ
        have O0_u7 : u7 0 7 = τ 0 7 := O0_u7_.trans O0_τ
        have l_0 : (0 : Int32).toInt = 0 := rfl
        exact sl_X3_even_31 hF (by omega) (by omega) _ _ _ _ Iu7 Fu7 O83_u7 O0_u7 (by omega) (by decide) (by decide)
      have C5 : ¬ (0 : Int) = (0 : Int) := ti_ne c5
      exfalso; omega
    have C4 : (999 : Int) < x1.toInt := ti_nle c4
    refine sf_ret ?_
    refine sf_ite (fun c9 => ?_) (fun c9 => ?_)
    · have C9 : (-6 : Int) = (0 : Int) := ti_eq c9
      exfalso; omega
    have C9 : ¬ (-6 : Int) = (0 : Int) := ti_ne c9
    refine sf_bnd (s_X3_refuse hF hI (by decide) (by decide)) (fun r10 u11 p12 => ?_)
    obtain ⟨Iu11, Fu11_, O83_u11_, O0_u11_, p12_1, p12_2, p12_x0⟩ := p12
    have Fu11 : ∀ k, 101 ≤ k → u11 k = τ k := fun k hk => (Fu11_ k hk).trans (Fτ k hk)
    have O83_u11 : u11 83 1 = τ 83 1 := O83_u11_.trans O83_τ
    have O0_u11 : u11 0 7 = τ 0 7 := O0_u11_.trans O0_τ
    replace p12_x0 : r10.toInt = (-6 : Int) := p12_x0
    exact sf_ret ⟨Iu11, Fu11, O83_u11, O0_u11, ti_lo _, ti_hi _⟩
  have C3 : x1.toInt < (0 : Int) := ti_nle c3
  refine sf_ret ?_
  refine sf_ite (fun c13 => ?_) (fun c13 => ?_)
  · have C13 : (-4 : Int) = (0 : Int) := ti_eq c13
    exfalso; omega
  have C13 : ¬ (-4 : Int) = (0 : Int) := ti_ne c13
  refine sf_bnd (s_X3_refuse hF hI (by decide) (by decide)) (fun r14 u15 p16 => ?_)
  obtain ⟨Iu15, Fu15_, O83_u15_, O0_u15_, p16_1, p16_2, p16_x0⟩ := p16
  have Fu15 : ∀ k, 101 ≤ k → u15 k = τ k := fun k hk => (Fu15_ k hk).trans (Fτ k hk)
  have O83_u15 : u15 83 1 = τ 83 1 := O83_u15_.trans O83_τ
  have O0_u15 : u15 0 7 = τ 0 7 := O0_u15_.trans O0_τ
  replace p16_x0 : r14.toInt = (-4 : Int) := p16_x0
  exact sf_ret ⟨Iu15, Fu15, O83_u15, O0_u15, ti_lo _, ti_hi _⟩
set_option maxHeartbeats 4000000 in
set_option maxRecDepth 100000 in
theorem sl_X3_last_34 {F : Nat} (hF : 100000 ≤ F) {x1 : Int32} {x2 : Int32} {x3 : Int32} {k11 : Int32 → Int32 → Mem → Option (Int32 × Mem)} {τ : Mem} (x1_1 : 0 ≤ x1.toInt) (x1_2 : x1.toInt ≤ 999) (x2_1 : 0 ≤ x2.toInt) (x2_2 : x2.toInt ≤ 7) {N11 : Nat} (hM11 : 8 < x2.toInt + (N11 + 1)) (hk11 : ∀ (x1 : Int32) (x2 : Int32) (σ : Mem), wiX σ → (∀ k, 101 ≤ k → σ k = τ k) → σ 83 1 = τ 83 1 → σ 0 7 = τ 0 7 → 8 < x2.toInt + N11 → 0 ≤ x1.toInt → x1.toInt ≤ 999 → 0 ≤ x2.toInt → x2.toInt ≤ 8 → sf (k11 x1 x2 σ) (fun r s => wiX s ∧ (∀ k, 101 ≤ k → s k = τ k) ∧ s 83 1 = τ 83 1 ∧ s 0 7 = τ 0 7 ∧ 0 ≤ r.toInt ∧ r.toInt ≤ 999)) : ∀ (N : Nat) (x4 : Int32) (σ : Mem), wiX σ → (∀ k, 101 ≤ k → σ k = τ k) → σ 83 1 = τ 83 1 → σ 0 7 = τ 0 7 → x4.toInt < N → 0 ≤ x4.toInt → x4.toInt ≤ 999 → sf (lp_X3_last_34 F k11 x1 x2 x3 N x4 σ) (fun r s => wiX s ∧ (∀ k, 101 ≤ k → s k = τ k) ∧ s 83 1 = τ 83 1 ∧ s 0 7 = τ 0 7 ∧ 0 ≤ r.toInt ∧ r.toInt ≤ 999) := by
  intro N
  induction N with
  | zero => intro x4 σ hI Fσ O83_σ O0_σ hN x4_1 x4_2; exfalso; omega
  | succ N ih =>
    intro x4 σ hI Fσ O83_σ O0_σ hN x4_1 x4_2
    rw [lp_X3_last_34_s]
    refine sf_ite (fun c1 => ?_) (fun c1 => ?_)
    · have C1 : x4.toInt ≤ x1.toInt := ti_le c1
      rw [j_X3_last_62_e]
      have t2 : (x2 + (1 : Int32)).toInt = x2.toInt + (1 : Int) := ti_add (show -2147483648 ≤ x2.toInt + (1 : Int) by omega) (show x2.toInt + (1 : Int) ≤ 2147483647 by omega)
      exact hk11 _ _ _ hI Fσ O83_σ O0_σ (by omega) (by omega) (by omega) (by omega) (by omega)
    have C1 : x1.toInt < x4.toInt := ti_nle c1
    have t3 : (x4 - (1 : Int32)).toInt = x4.toInt - (1 : Int) := ti_sub (show -2147483648 ≤ x4.toInt - (1 : Int) by omega) (show x4.toInt - (1 : Int) ≤ 2147483647 by omega)
    refine sf_bnd (s_X0_holder hF wt_h1 hI (by omega) (by omega) (by omega) (by omega)) (fun r4 u5 p6 => ?_)
    obtain ⟨e9, p6_1, p6_2⟩ := p6
    have e9 := e9.symm
    subst e9
    have b7 := ti_lo x3
    have b8 := ti_hi x3
    refine sf_ite (fun c9 => ?_) (fun c9 => ?_)
    · have C9 : r4.toInt = x3.toInt := ti_eq c9
      have t10 : (x4 + (-1 : Int32)).toInt = x4.toInt + (-1 : Int) := ti_add (show -2147483648 ≤ x4.toInt + (-1 : Int) by omega) (show x4.toInt + (-1 : Int) ≤ 2147483647 by omega)
      exact ih _ _ hI Fσ O83_σ O0_σ (by omega) (by omega) (by omega)
    have C9 : ¬ r4.toInt = x3.toInt := ti_ne c9
    rw [j_X3_last_62_e]
    have t11 : (x2 + (1 : Int32)).toInt = x2.toInt + (1 : Int) := ti_add (show -2147483648 ≤ x2.toInt + (1 : Int) by omega) (show x2.toInt + (1 : Int) ≤ 2147483647 by omega)
    exact hk11 _ _ _ hI Fσ O83_σ O0_σ (by omega) (by omega) (by omega) (by omega) (by omega)
set_option maxHeartbeats 4000000 in
set_option maxRecDepth 100000 in
theorem sl_X3_last_11 {F : Nat} (hF : 100000 ≤ F) {τ : Mem} : ∀ (N : Nat) (x1 : Int32) (x2 : Int32) (σ : Mem), wiX σ → (∀ k, 101 ≤ k → σ k = τ k) → σ 83 1 = τ 83 1 → σ 0 7 = τ 0 7 → 8 < x2.toInt + N → 0 ≤ x1.toInt → x1.toInt ≤ 999 → 0 ≤ x2.toInt → x2.toInt ≤ 8 → sf (lp_X3_last_11 F N x1 x2 σ) (fun r s => wiX s ∧ (∀ k, 101 ≤ k → s k = τ k) ∧ s 83 1 = τ 83 1 ∧ s 0 7 = τ 0 7 ∧ 0 ≤ r.toInt ∧ r.toInt ≤ 999) := by
  intro N
  induction N with
  | zero => intro x1 x2 σ hI Fσ O83_σ O0_σ hN x1_1 x1_2 x2_1 x2_2; exfalso; omega
  | succ N ih =>
    intro x1 x2 σ hI Fσ O83_σ O0_σ hN x1_1 x1_2 x2_1 x2_2
    rw [lp_X3_last_11_s]
    refine sf_ite (fun c1 => ?_) (fun c1 => ?_)
    · have C1 : (8 : Int) ≤ x2.toInt := ti_le c1
      exact sf_ret ⟨hI, Fσ, O83_σ, O0_σ, by omega, by omega⟩
    have C1 : x2.toInt < (8 : Int) := ti_nle c1
    refine sf_bnd (s_X0_holder hF wt_h1 hI (by omega) (by omega) (by decide) (by decide)) (fun r2 u3 p4 => ?_)
    obtain ⟨e9, p4_1, p4_2⟩ := p4
    have e9 := e9.symm
    subst e9
    have l_999 : (999 : Int32).toInt = 999 := rfl
    exact sl_X3_last_34 hF (by omega) (by omega) (by omega) (by omega) (by omega) ih _ _ _ hI Fσ O83_σ O0_σ (by omega) (by decide) (by decide)
set_option maxHeartbeats 4000000 in
set_option maxRecDepth 100000 in
theorem s_X3_last {F : Nat} (hF : 100000 ≤ F) {τ : Mem} (hI : wiX τ) : sf (f_X3_last F τ) (fun r s => wiX s ∧ (∀ k, 101 ≤ k → s k = τ k) ∧ s 83 1 = τ 83 1 ∧ s 0 7 = τ 0 7 ∧ 0 ≤ r.toInt ∧ r.toInt ≤ 999) := by
  have Fτ : ∀ k, 101 ≤ k → τ k = τ k := fun _ _ => rfl
  have O83_τ : τ 83 1 = τ 83 1 := rfl
  have O0_τ : τ 0 7 = τ 0 7 := rfl
  rw [f_X3_last_e]
  refine sf_bnd (s_X0_reckon hF wt_h1 hI) (fun r1 u2 p3 => ?_)
  obtain ⟨Iu2, Fu2_, O83_u2_, O0_u2_, -⟩ := p3
  have Fu2 : ∀ k, 101 ≤ k → u2 k = τ k := fun k hk => (Fu2_ k hk).trans (Fτ k hk)
  have O83_u2 : u2 83 1 = τ 83 1 := O83_u2_.trans O83_τ
  have O0_u2 : u2 0 7 = τ 0 7 := O0_u2_.trans O0_τ
  have l_0 : (0 : Int32).toInt = 0 := rfl
  exact sl_X3_last_11 hF _ _ _ _ Iu2 Fu2 O83_u2 O0_u2 (by omega) (by decide) (by decide) (by decide) (by decide)
set_option maxHeartbeats 4000000 in
set_option maxRecDepth 100000 in
theorem sl_X3_joint_34 {F : Nat} (hF : 100000 ≤ F) {x1 : Int32} {x2 : Int32} {x3 : Int32} {τ : Mem} (x1_1 : 0 ≤ x1.toInt) (x1_2 : x1.toInt ≤ 4) (x2_1 : 0 ≤ x2.toInt) (x2_2 : x2.toInt ≤ 4) (x3_1 : 0 ≤ x3.toInt) (x3_2 : x3.toInt ≤ 999) : ∀ (N : Nat) (x5 : Int32) (x6 : Int32) (σ : Mem), wiX σ → (∀ k, 101 ≤ k → σ k = τ k) → σ 83 1 = τ 83 1 → σ 0 7 = τ 0 7 → 8 < x6.toInt + N → 0 ≤ x6.toInt → x6.toInt ≤ 8 → sf (lp_X3_joint_34 F x1 x2 x3 N x5 x6 σ) (fun r s => wiX s ∧ (∀ k, 101 ≤ k → s k = τ k) ∧ s 83 1 = τ 83 1 ∧ s 0 7 = τ 0 7 ∧ -2147483648 ≤ r.toInt ∧ r.toInt ≤ 2147483647) := by
  intro N
  induction N with
  | zero => intro x5 x6 σ hI Fσ O83_σ O0_σ hN x6_1 x6_2; exfalso; omega
  | succ N ih =>
    intro x5 x6 σ hI Fσ O83_σ O0_σ hN x6_1 x6_2
    rw [lp_X3_joint_34_s]
    refine sf_ite (fun c1 => ?_) (fun c1 => ?_)
    · have C1 : (8 : Int) ≤ x6.toInt := ti_le c1
      have b2 := ti_lo x5
      have b3 := ti_hi x5
      exact sf_ret ⟨hI, Fσ, O83_σ, O0_σ, ti_lo _, ti_hi _⟩
    have C1 : x6.toInt < (8 : Int) := ti_nle c1
    refine sf_bnd (s_X0_outdo hF wt_h1 hI (by omega) (by omega) (by omega) (by omega) (by omega) (by omega) (by omega) (by omega)) (fun r4 u5 p6 => ?_)
    obtain ⟨e9, p6_1, p6_2⟩ := p6
    have e9 := e9.symm
    subst e9
    have hb_r4 : r4 = 0 ∨ r4 = 1 := wi_bool p6_1 p6_2
    refine sf_ite (fun c7 => ?_) (fun c7 => ?_)
    · have C7 : r4.toInt = (0 : Int) := ti_eq c7
      rw [j_X3_joint_65_e]
      have b8 := ti_lo x5
      have b9 := ti_hi x5
      have t10 : (x6 + (1 : Int32)).toInt = x6.toInt + (1 : Int) := ti_add (show -2147483648 ≤ x6.toInt + (1 : Int) by omega) (show x6.toInt + (1 : Int) ≤ 2147483647 by omega)
      exact ih _ _ _ hI Fσ O83_σ O0_σ (by omega) (by omega) (by omega)
    have C7 : ¬ r4.toInt = (0 : Int) := ti_ne c7
    have b12 := ti_lo (x5 ||| ((1 : Int32) <<< (x6 &&& 31)))
    have b13 := ti_hi (x5 ||| ((1 : Int32) <<< (x6 &&& 31)))
    refine sf_lt (fun z11 hz11 => ?_)
    have hz11_ : z11.toInt = (x5 ||| ((1 : Int32) <<< (x6 &&& 31))).toInt := (show z11.toInt = (x5 ||| ((1 : Int32) <<< (x6 &&& 31))).toInt from congrArg Int32.toInt hz11)
    rw [j_X3_joint_65_e]
    have b14 := ti_lo z11
    have b15 := ti_hi z11
    have t16 : (x6 + (1 : Int32)).toInt = x6.toInt + (1 : Int) := ti_add (show -2147483648 ≤ x6.toInt + (1 : Int) by omega) (show x6.toInt + (1 : Int) ≤ 2147483647 by omega)
    exact ih _ _ _ hI Fσ O83_σ O0_σ (by omega) (by omega) (by omega)
set_option maxHeartbeats 4000000 in
set_option maxRecDepth 100000 in
theorem s_X3_joint {F : Nat} (hF : 100000 ≤ F) {x1 : Int32} {x2 : Int32} {x3 : Int32} {τ : Mem} (hI : wiX τ) : sf (f_X3_joint F x1 x2 x3 τ) (fun r s => wiX s ∧ (∀ k, 101 ≤ k → s k = τ k) ∧ s 83 1 = τ 83 1 ∧ s 0 7 = τ 0 7 ∧ -2147483648 ≤ r.toInt ∧ r.toInt ≤ 2147483647) := by
  have Fτ : ∀ k, 101 ≤ k → τ k = τ k := fun _ _ => rfl
  have O83_τ : τ 83 1 = τ 83 1 := rfl
  have O0_τ : τ 0 7 = τ 0 7 := rfl
  rw [f_X3_joint_e]
  have b1 := ti_lo x1
  have b2 := ti_hi x1
  have b3 := ti_lo x2
  have b4 := ti_hi x2
  have b5 := ti_lo x3
  have b6 := ti_hi x3
  refine sf_bnd (s_X3_noPairFar hF hI) (fun r7 u8 p9 => ?_)
  obtain ⟨e9, p9⟩ := p9
  have e9 := e9.symm
  subst e9
  rcases p9 with ⟨rfl, q10, q11, q12, q13, q14, q15⟩ | p9
  · refine sf_ite (fun c16 => ?_) (fun c16 => ?_)
    · have C16 : (0 : Int) = (0 : Int) := ti_eq c16
      refine sf_bnd (s_X0_reckon hF wt_h1 hI) (fun r17 u18 p19 => ?_)
      obtain ⟨Iu18, Fu18_, O83_u18_, O0_u18_, -⟩ := p19
      have Fu18 : ∀ k, 101 ≤ k → u18 k = τ k := fun k hk => (Fu18_ k hk).trans (Fτ k hk)
      have O83_u18 : u18 83 1 = τ 83 1 := O83_u18_.trans O83_τ
      have O0_u18 : u18 0 7 = τ 0 7 := O0_u18_.trans O0_τ
      have l_0 : (0 : Int32).toInt = 0 := rfl
      exact sl_X3_joint_34 hF (by omega) (by omega) (by omega) (by omega) (by omega) (by omega) _ _ _ _ Iu18 Fu18 O83_u18 O0_u18 (by omega) (by decide) (by decide)
    have C16 : ¬ (0 : Int) = (0 : Int) := ti_ne c16
    exfalso; omega
  rcases p9 with rfl | p9
  · refine sf_ite (fun c20 => ?_) (fun c20 => ?_)
    · have C20 : (-1 : Int) = (0 : Int) := ti_eq c20
      exfalso; omega
    have C20 : ¬ (-1 : Int) = (0 : Int) := ti_ne c20
    refine sf_bnd (s_X3_refuse hF hI (by decide) (by decide)) (fun r21 u22 p23 => ?_)
    obtain ⟨Iu22, Fu22_, O83_u22_, O0_u22_, p23_1, p23_2, p23_x0⟩ := p23
    have Fu22 : ∀ k, 101 ≤ k → u22 k = τ k := fun k hk => (Fu22_ k hk).trans (Fτ k hk)
    have O83_u22 : u22 83 1 = τ 83 1 := O83_u22_.trans O83_τ
    have O0_u22 : u22 0 7 = τ 0 7 := O0_u22_.trans O0_τ
    replace p23_x0 : r21.toInt = (-1 : Int) := p23_x0
    exact sf_ret ⟨Iu22, Fu22, O83_u22, O0_u22, ti_lo _, ti_hi _⟩
  rcases p9 with rfl | p9
  · refine sf_ite (fun c24 => ?_) (fun c24 => ?_)
    · have C24 : (-4 : Int) = (0 : Int) := ti_eq c24
      exfalso; omega
    have C24 : ¬ (-4 : Int) = (0 : Int) := ti_ne c24
    refine sf_bnd (s_X3_refuse hF hI (by decide) (by decide)) (fun r25 u26 p27 => ?_)
    obtain ⟨Iu26, Fu26_, O83_u26_, O0_u26_, p27_1, p27_2, p27_x0⟩ := p27
    have Fu26 : ∀ k, 101 ≤ k → u26 k = τ k := fun k hk => (Fu26_ k hk).trans (Fτ k hk)
    have O83_u26 : u26 83 1 = τ 83 1 := O83_u26_.trans O83_τ
    have O0_u26 : u26 0 7 = τ 0 7 := O0_u26_.trans O0_τ
    replace p27_x0 : r25.toInt = (-4 : Int) := p27_x0
    exact sf_ret ⟨Iu26, Fu26, O83_u26, O0_u26, ti_lo _, ti_hi _⟩
  obtain rfl := p9
  refine sf_ite (fun c28 => ?_) (fun c28 => ?_)
  · have C28 : (-6 : Int) = (0 : Int) := ti_eq c28
    exfalso; omega
  have C28 : ¬ (-6 : Int) = (0 : Int) := ti_ne c28
  refine sf_bnd (s_X3_refuse hF hI (by decide) (by decide)) (fun r29 u30 p31 => ?_)
  obtain ⟨Iu30, Fu30_, O83_u30_, O0_u30_, p31_1, p31_2, p31_x0⟩ := p31
  have Fu30 : ∀ k, 101 ≤ k → u30 k = τ k := fun k hk => (Fu30_ k hk).trans (Fτ k hk)
  have O83_u30 : u30 83 1 = τ 83 1 := O83_u30_.trans O83_τ
  have O0_u30 : u30 0 7 = τ 0 7 := O0_u30_.trans O0_τ
  replace p31_x0 : r29.toInt = (-6 : Int) := p31_x0
  exact sf_ret ⟨Iu30, Fu30, O83_u30, O0_u30, ti_lo _, ti_hi _⟩
set_option maxHeartbeats 4000000 in
set_option maxRecDepth 100000 in
theorem sl_X3_rank_29 {F : Nat} (hF : 100000 ≤ F) {x1 : Int32} {x2 : Int32} {τ : Mem} (x1_1 : 0 ≤ x1.toInt) (x1_2 : x1.toInt ≤ 7) (x2_1 : 0 ≤ x2.toInt) (x2_2 : x2.toInt ≤ 2147483647) : ∀ (N : Nat) (x4 : Int32) (σ : Mem), wiX σ → (∀ k, 101 ≤ k → σ k = τ k) → σ 83 1 = τ 83 1 → σ 0 7 = τ 0 7 → 5 < x4.toInt + N → 0 ≤ x4.toInt → x4.toInt ≤ 5 → sf (lp_X3_rank_29 F x1 x2 N x4 σ) (fun r s => wiX s ∧ (∀ k, 101 ≤ k → s k = τ k) ∧ s 83 1 = τ 83 1 ∧ s 0 7 = τ 0 7 ∧ -2147483648 ≤ r.toInt ∧ r.toInt ≤ 2147483647) := by
  intro N
  induction N with
  | zero => intro x4 σ hI Fσ O83_σ O0_σ hN x4_1 x4_2; exfalso; omega
  | succ N ih =>
    intro x4 σ hI Fσ O83_σ O0_σ hN x4_1 x4_2
    rw [lp_X3_rank_29_s]
    have m1 := wx_X0_2 hI wt_h1
    refine sf_ite (fun c2 => ?_) (fun c2 => ?_)
    · have C2 : (σ 1 2).toInt ≤ x4.toInt := ti_le c2
      exact sf_ret ⟨hI, Fσ, O83_σ, O0_σ, ti_lo _, ti_hi _⟩
    have C2 : x4.toInt < (σ 1 2).toInt := ti_nle c2
    refine sf_bnd (s_X0_placeOf hF wt_h1 hI (by omega) (by omega) (by omega) (by omega)) (fun r3 u4 p5 => ?_)
    obtain ⟨e9, p5_1, p5_2⟩ := p5
    have e9 := e9.symm
    subst e9
    have b6 := ti_lo r3
    have b7 := ti_hi r3
    have b8 := ti_lo x2
    have b9 := ti_hi x2
    refine sf_ite (fun c10 => ?_) (fun c10 => ?_)
    · have C10 : r3.toInt = x2.toInt := ti_eq c10
      exact sf_ret ⟨hI, Fσ, O83_σ, O0_σ, ti_lo _, ti_hi _⟩
    have C10 : ¬ r3.toInt = x2.toInt := ti_ne c10
    have t11 : (x4 + (1 : Int32)).toInt = x4.toInt + (1 : Int) := ti_add (show -2147483648 ≤ x4.toInt + (1 : Int) by omega) (show x4.toInt + (1 : Int) ≤ 2147483647 by omega)
    exact ih _ _ hI Fσ O83_σ O0_σ (by omega) (by omega) (by omega)
set_option maxHeartbeats 4000000 in
set_option maxRecDepth 100000 in
theorem s_X3_rank {F : Nat} (hF : 100000 ≤ F) {x1 : Int32} {x2 : Int32} {τ : Mem} (hI : wiX τ) : sf (f_X3_rank F x1 x2 τ) (fun r s => wiX s ∧ (∀ k, 101 ≤ k → s k = τ k) ∧ s 83 1 = τ 83 1 ∧ s 0 7 = τ 0 7 ∧ -2147483648 ≤ r.toInt ∧ r.toInt ≤ 2147483647) := by
  have Fτ : ∀ k, 101 ≤ k → τ k = τ k := fun _ _ => rfl
  have O83_τ : τ 83 1 = τ 83 1 := rfl
  have O0_τ : τ 0 7 = τ 0 7 := rfl
  rw [f_X3_rank_e]
  have b1 := ti_lo x1
  have b2 := ti_hi x1
  refine sf_bnd (s_X3_noView hF hI) (fun r3 u4 p5 => ?_)
  obtain ⟨e9, p5⟩ := p5
  have e9 := e9.symm
  subst e9
  rcases p5 with ⟨rfl, q6, q7⟩ | p5
  · refine sf_ite (fun c8 => ?_) (fun c8 => ?_)
    · have C8 : (0 : Int) = (0 : Int) := ti_eq c8
      have b9 := ti_lo x2
      have b10 := ti_hi x2
      refine sf_ite (fun c11 => ?_) (fun c11 => ?_)
      · have C11 : (0 : Int) ≤ x2.toInt := ti_le c11
        rw [j_X3_rank_16_e]
        refine sf_ite (fun c12 => ?_) (fun c12 => ?_)
        · have C12 : (0 : Int) = (0 : Int) := ti_eq c12
          have l_0 : (0 : Int32).toInt = 0 := rfl
          exact sl_X3_rank_29 hF (by omega) (by omega) (by omega) (by omega) _ _ _ hI Fτ O83_τ O0_τ (by omega) (by decide) (by decide)
        have C12 : ¬ (0 : Int) = (0 : Int) := ti_ne c12
        exfalso; omega
      have C11 : x2.toInt < (0 : Int) := ti_nle c11
      rw [j_X3_rank_16_e]
      refine sf_ite (fun c13 => ?_) (fun c13 => ?_)
      · have C13 : (-4 : Int) = (0 : Int) := ti_eq c13
        exfalso; omega
      have C13 : ¬ (-4 : Int) = (0 : Int) := ti_ne c13
      refine sf_bnd (s_X3_refuse hF hI (by decide) (by decide)) (fun r14 u15 p16 => ?_)
      obtain ⟨Iu15, Fu15_, O83_u15_, O0_u15_, p16_1, p16_2, p16_x0⟩ := p16
      have Fu15 : ∀ k, 101 ≤ k → u15 k = τ k := fun k hk => (Fu15_ k hk).trans (Fτ k hk)
      have O83_u15 : u15 83 1 = τ 83 1 := O83_u15_.trans O83_τ
      have O0_u15 : u15 0 7 = τ 0 7 := O0_u15_.trans O0_τ
      replace p16_x0 : r14.toInt = (-4 : Int) := p16_x0
      exact sf_ret ⟨Iu15, Fu15, O83_u15, O0_u15, ti_lo _, ti_hi _⟩
    have C8 : ¬ (0 : Int) = (0 : Int) := ti_ne c8
    exfalso; omega
  obtain ⟨rfl, q17⟩ := p5
  refine sf_ite (fun c18 => ?_) (fun c18 => ?_)
  · have C18 : (-1 : Int) = (0 : Int) := ti_eq c18
    exfalso; omega
  have C18 : ¬ (-1 : Int) = (0 : Int) := ti_ne c18
  rw [j_X3_rank_16_e]
  refine sf_ite (fun c19 => ?_) (fun c19 => ?_)
  · have C19 : (-1 : Int) = (0 : Int) := ti_eq c19
    exfalso; omega
  have C19 : ¬ (-1 : Int) = (0 : Int) := ti_ne c19
  refine sf_bnd (s_X3_refuse hF hI (by decide) (by decide)) (fun r20 u21 p22 => ?_)
  obtain ⟨Iu21, Fu21_, O83_u21_, O0_u21_, p22_1, p22_2, p22_x0⟩ := p22
  have Fu21 : ∀ k, 101 ≤ k → u21 k = τ k := fun k hk => (Fu21_ k hk).trans (Fτ k hk)
  have O83_u21 : u21 83 1 = τ 83 1 := O83_u21_.trans O83_τ
  have O0_u21 : u21 0 7 = τ 0 7 := O0_u21_.trans O0_τ
  replace p22_x0 : r20.toInt = (-1 : Int) := p22_x0
  exact sf_ret ⟨Iu21, Fu21, O83_u21, O0_u21, ti_lo _, ti_hi _⟩
set_option maxHeartbeats 4000000 in
set_option maxRecDepth 100000 in
theorem sl_X3_gap_42 {F : Nat} (hF : 100000 ≤ F) {x1 : Int32} {x2 : Int32} {τ : Mem} (x1_1 : 0 ≤ x1.toInt) (x1_2 : x1.toInt ≤ 7) (x2_1 : 0 ≤ x2.toInt) (x2_2 : x2.toInt ≤ 999) : ∀ (N : Nat) (x4 : Int32) (x5 : Int32) (x6 : Int32) (σ : Mem), wiX σ → (∀ k, 101 ≤ k → σ k = τ k) → σ 83 1 = τ 83 1 → σ 0 7 = τ 0 7 → 5 < x6.toInt + N → 0 ≤ x4.toInt → x4.toInt ≤ 2147483647 → 0 ≤ x5.toInt → x5.toInt ≤ 2147483647 → 0 ≤ x6.toInt → x6.toInt ≤ 5 → sf (lp_X3_gap_42 F x1 x2 N x4 x5 x6 σ) (fun r s => wiX s ∧ (∀ k, 101 ≤ k → s k = τ k) ∧ s 83 1 = τ 83 1 ∧ s 0 7 = τ 0 7 ∧ -2147483648 ≤ r.toInt ∧ r.toInt ≤ 2147483647) := by
  intro N
  induction N with
  | zero => intro x4 x5 x6 σ hI Fσ O83_σ O0_σ hN x4_1 x4_2 x5_1 x5_2 x6_1 x6_2; exfalso; omega
  | succ N ih =>
    intro x4 x5 x6 σ hI Fσ O83_σ O0_σ hN x4_1 x4_2 x5_1 x5_2 x6_1 x6_2
    rw [lp_X3_gap_42_s]
    have m1 := wx_X0_2 hI wt_h1
    refine sf_ite (fun c2 => ?_) (fun c2 => ?_)
    · have C2 : (σ 1 2).toInt ≤ x6.toInt := ti_le c2
      have b3 := ti_lo x4
      have b4 := ti_hi x4
      have b5 := ti_lo x5
      have b6 := ti_hi x5
      have t7 : (x4 - x5).toInt = x4.toInt - x5.toInt := ti_sub (show -2147483648 ≤ x4.toInt - x5.toInt by omega) (show x4.toInt - x5.toInt ≤ 2147483647 by omega)
      exact sf_ret ⟨hI, Fσ, O83_σ, O0_σ, ti_lo _, ti_hi _⟩
    have C2 : x6.toInt < (σ 1 2).toInt := ti_nle c2
    refine sf_bnd (s_X0_behind hF wt_h1 hI (by omega) (by omega) (by omega) (by omega) (by omega) (by omega)) (fun r8 u9 p10 => ?_)
    obtain ⟨e9, p10_1, p10_2⟩ := p10
    have e9 := e9.symm
    subst e9
    have b11 := ti_lo r8
    have b12 := ti_hi r8
    have b13 := ti_lo x4
    have b14 := ti_hi x4
    refine sf_ite (fun c15 => ?_) (fun c15 => ?_)
    · have C15 : r8.toInt ≤ x4.toInt := ti_le c15
      have b16 := ti_lo x5
      have b17 := ti_hi x5
      refine sf_ite (fun c18 => ?_) (fun c18 => ?_)
      · have C18 : r8.toInt ≤ x5.toInt := ti_le c18
        rw [j_X3_gap_96_e]
        have t19 : (x6 + (1 : Int32)).toInt = x6.toInt + (1 : Int) := ti_add (show -2147483648 ≤ x6.toInt + (1 : Int) by omega) (show x6.toInt + (1 : Int) ≤ 2147483647 by omega)
        exact ih _ _ _ _ hI Fσ O83_σ O0_σ (by omega) (by omega) (by omega) (by omega) (by omega) (by omega) (by omega)
      have C18 : x5.toInt < r8.toInt := ti_nle c18
      rw [j_X3_gap_96_e]
      have t20 : (x6 + (1 : Int32)).toInt = x6.toInt + (1 : Int) := ti_add (show -2147483648 ≤ x6.toInt + (1 : Int) by omega) (show x6.toInt + (1 : Int) ≤ 2147483647 by omega)
      exact ih _ _ _ _ hI Fσ O83_σ O0_σ (by omega) (by omega) (by omega) (by omega) (by omega) (by omega) (by omega)
    have C15 : x4.toInt < r8.toInt := ti_nle c15
    rw [j_X3_gap_96_e]
    have t21 : (x6 + (1 : Int32)).toInt = x6.toInt + (1 : Int) := ti_add (show -2147483648 ≤ x6.toInt + (1 : Int) by omega) (show x6.toInt + (1 : Int) ≤ 2147483647 by omega)
    exact ih _ _ _ _ hI Fσ O83_σ O0_σ (by omega) (by omega) (by omega) (by omega) (by omega) (by omega) (by omega)
set_option maxHeartbeats 4000000 in
set_option maxRecDepth 100000 in
theorem s_X3_gap {F : Nat} (hF : 100000 ≤ F) {x1 : Int32} {x2 : Int32} {τ : Mem} (hI : wiX τ) : sf (f_X3_gap F x1 x2 τ) (fun r s => wiX s ∧ (∀ k, 101 ≤ k → s k = τ k) ∧ s 83 1 = τ 83 1 ∧ s 0 7 = τ 0 7 ∧ -2147483648 ≤ r.toInt ∧ r.toInt ≤ 2147483647) := by
  have Fτ : ∀ k, 101 ≤ k → τ k = τ k := fun _ _ => rfl
  have O83_τ : τ 83 1 = τ 83 1 := rfl
  have O0_τ : τ 0 7 = τ 0 7 := rfl
  rw [f_X3_gap_e]
  have b1 := ti_lo x1
  have b2 := ti_hi x1
  refine sf_bnd (s_X3_noView hF hI) (fun r3 u4 p5 => ?_)
  obtain ⟨e9, p5⟩ := p5
  have e9 := e9.symm
  subst e9
  rcases p5 with ⟨rfl, q6, q7⟩ | p5
  · refine sf_in ?_
    rw [f_X3_outside_e]
    have b8 := ti_lo x2
    have b9 := ti_hi x2
    refine sf_ite (fun c10 => ?_) (fun c10 => ?_)
    · have C10 : (0 : Int) ≤ x2.toInt := ti_le c10
      refine sf_ite (fun c11 => ?_) (fun c11 => ?_)
      · have C11 : x2.toInt ≤ (999 : Int) := ti_le c11
        refine sf_ret ?_
        refine sf_in ?_
        rw [f_X3_firstOf_e]
        refine sf_ite (fun c12 => ?_) (fun c12 => ?_)
        · have C12 : (0 : Int) = (0 : Int) := ti_eq c12
          refine sf_ret ?_
          refine sf_ite (fun c13 => ?_) (fun c13 => ?_)
          · have C13 : (0 : Int) = (0 : Int) := ti_eq c13
            refine sf_bnd (s_X0_reckon hF wt_h1 hI) (fun r14 u15 p16 => ?_)
            obtain ⟨Iu15, Fu15_, O83_u15_, O0_u15_, -⟩ := p16
            have Fu15 : ∀ k, 101 ≤ k → u15 k = τ k := fun k hk => (Fu15_ k hk).trans (Fτ k hk)
            have O83_u15 : u15 83 1 = τ 83 1 := O83_u15_.trans O83_τ
            have O0_u15 : u15 0 7 = τ 0 7 := O0_u15_.trans O0_τ
            have l_0 : (0 : Int32).toInt = 0 := rfl
            exact sl_X3_gap_42 hF (by omega) (by omega) (by omega) (by omega) _ _ _ _ _ Iu15 Fu15 O83_u15 O0_u15 (by omega) (by decide) (by decide) (by decide) (by decide) (by decide) (by decide)
          have C13 : ¬ (0 : Int) = (0 : Int) := ti_ne c13
          exfalso; omega
        have C12 : ¬ (0 : Int) = (0 : Int) := ti_ne c12
        exfalso; omega
      have C11 : (999 : Int) < x2.toInt := ti_nle c11
      refine sf_ret ?_
      refine sf_in ?_
      rw [f_X3_firstOf_e]
      refine sf_ite (fun c17 => ?_) (fun c17 => ?_)
      · have C17 : (0 : Int) = (0 : Int) := ti_eq c17
        refine sf_ret ?_
        refine sf_ite (fun c18 => ?_) (fun c18 => ?_)
        · have C18 : (-6 : Int) = (0 : Int) := ti_eq c18
          exfalso; omega
        have C18 : ¬ (-6 : Int) = (0 : Int) := ti_ne c18
        refine sf_bnd (s_X3_refuse hF hI (by decide) (by decide)) (fun r19 u20 p21 => ?_)
        obtain ⟨Iu20, Fu20_, O83_u20_, O0_u20_, p21_1, p21_2, p21_x0⟩ := p21
        have Fu20 : ∀ k, 101 ≤ k → u20 k = τ k := fun k hk => (Fu20_ k hk).trans (Fτ k hk)
        have O83_u20 : u20 83 1 = τ 83 1 := O83_u20_.trans O83_τ
        have O0_u20 : u20 0 7 = τ 0 7 := O0_u20_.trans O0_τ
        replace p21_x0 : r19.toInt = (-6 : Int) := p21_x0
        exact sf_ret ⟨Iu20, Fu20, O83_u20, O0_u20, ti_lo _, ti_hi _⟩
      have C17 : ¬ (0 : Int) = (0 : Int) := ti_ne c17
      exfalso; omega
    have C10 : x2.toInt < (0 : Int) := ti_nle c10
    refine sf_ret ?_
    refine sf_in ?_
    rw [f_X3_firstOf_e]
    refine sf_ite (fun c22 => ?_) (fun c22 => ?_)
    · have C22 : (0 : Int) = (0 : Int) := ti_eq c22
      refine sf_ret ?_
      refine sf_ite (fun c23 => ?_) (fun c23 => ?_)
      · have C23 : (-4 : Int) = (0 : Int) := ti_eq c23
        exfalso; omega
      have C23 : ¬ (-4 : Int) = (0 : Int) := ti_ne c23
      refine sf_bnd (s_X3_refuse hF hI (by decide) (by decide)) (fun r24 u25 p26 => ?_)
      obtain ⟨Iu25, Fu25_, O83_u25_, O0_u25_, p26_1, p26_2, p26_x0⟩ := p26
      have Fu25 : ∀ k, 101 ≤ k → u25 k = τ k := fun k hk => (Fu25_ k hk).trans (Fτ k hk)
      have O83_u25 : u25 83 1 = τ 83 1 := O83_u25_.trans O83_τ
      have O0_u25 : u25 0 7 = τ 0 7 := O0_u25_.trans O0_τ
      replace p26_x0 : r24.toInt = (-4 : Int) := p26_x0
      exact sf_ret ⟨Iu25, Fu25, O83_u25, O0_u25, ti_lo _, ti_hi _⟩
    have C22 : ¬ (0 : Int) = (0 : Int) := ti_ne c22
    exfalso; omega
  obtain ⟨rfl, q27⟩ := p5
  refine sf_in ?_
  rw [f_X3_outside_e]
  have b28 := ti_lo x2
  have b29 := ti_hi x2
  refine sf_ite (fun c30 => ?_) (fun c30 => ?_)
  · have C30 : (0 : Int) ≤ x2.toInt := ti_le c30
    refine sf_ite (fun c31 => ?_) (fun c31 => ?_)
    · have C31 : x2.toInt ≤ (999 : Int) := ti_le c31
      refine sf_ret ?_
      refine sf_in ?_
      rw [f_X3_firstOf_e]
      refine sf_ite (fun c32 => ?_) (fun c32 => ?_)
      · have C32 : (-1 : Int) = (0 : Int) := ti_eq c32
        exfalso; omega
      have C32 : ¬ (-1 : Int) = (0 : Int) := ti_ne c32
      refine sf_ret ?_
      refine sf_ite (fun c33 => ?_) (fun c33 => ?_)
      · have C33 : (-1 : Int) = (0 : Int) := ti_eq c33
        exfalso; omega
      have C33 : ¬ (-1 : Int) = (0 : Int) := ti_ne c33
      refine sf_bnd (s_X3_refuse hF hI (by decide) (by decide)) (fun r34 u35 p36 => ?_)
      obtain ⟨Iu35, Fu35_, O83_u35_, O0_u35_, p36_1, p36_2, p36_x0⟩ := p36
      have Fu35 : ∀ k, 101 ≤ k → u35 k = τ k := fun k hk => (Fu35_ k hk).trans (Fτ k hk)
      have O83_u35 : u35 83 1 = τ 83 1 := O83_u35_.trans O83_τ
      have O0_u35 : u35 0 7 = τ 0 7 := O0_u35_.trans O0_τ
      replace p36_x0 : r34.toInt = (-1 : Int) := p36_x0
      exact sf_ret ⟨Iu35, Fu35, O83_u35, O0_u35, ti_lo _, ti_hi _⟩
    have C31 : (999 : Int) < x2.toInt := ti_nle c31
    refine sf_ret ?_
    refine sf_in ?_
    rw [f_X3_firstOf_e]
    refine sf_ite (fun c37 => ?_) (fun c37 => ?_)
    · have C37 : (-1 : Int) = (0 : Int) := ti_eq c37
      exfalso; omega
    have C37 : ¬ (-1 : Int) = (0 : Int) := ti_ne c37
    refine sf_ret ?_
    refine sf_ite (fun c38 => ?_) (fun c38 => ?_)
    · have C38 : (-1 : Int) = (0 : Int) := ti_eq c38
      exfalso; omega
    have C38 : ¬ (-1 : Int) = (0 : Int) := ti_ne c38
    refine sf_bnd (s_X3_refuse hF hI (by decide) (by decide)) (fun r39 u40 p41 => ?_)
    obtain ⟨Iu40, Fu40_, O83_u40_, O0_u40_, p41_1, p41_2, p41_x0⟩ := p41
    have Fu40 : ∀ k, 101 ≤ k → u40 k = τ k := fun k hk => (Fu40_ k hk).trans (Fτ k hk)
    have O83_u40 : u40 83 1 = τ 83 1 := O83_u40_.trans O83_τ
    have O0_u40 : u40 0 7 = τ 0 7 := O0_u40_.trans O0_τ
    replace p41_x0 : r39.toInt = (-1 : Int) := p41_x0
    exact sf_ret ⟨Iu40, Fu40, O83_u40, O0_u40, ti_lo _, ti_hi _⟩
  have C30 : x2.toInt < (0 : Int) := ti_nle c30
  refine sf_ret ?_
  refine sf_in ?_
  rw [f_X3_firstOf_e]
  refine sf_ite (fun c42 => ?_) (fun c42 => ?_)
  · have C42 : (-1 : Int) = (0 : Int) := ti_eq c42
    exfalso; omega
  have C42 : ¬ (-1 : Int) = (0 : Int) := ti_ne c42
  refine sf_ret ?_
  refine sf_ite (fun c43 => ?_) (fun c43 => ?_)
  · have C43 : (-1 : Int) = (0 : Int) := ti_eq c43
    exfalso; omega
  have C43 : ¬ (-1 : Int) = (0 : Int) := ti_ne c43
  refine sf_bnd (s_X3_refuse hF hI (by decide) (by decide)) (fun r44 u45 p46 => ?_)
  obtain ⟨Iu45, Fu45_, O83_u45_, O0_u45_, p46_1, p46_2, p46_x0⟩ := p46
  have Fu45 : ∀ k, 101 ≤ k → u45 k = τ k := fun k hk => (Fu45_ k hk).trans (Fτ k hk)
  have O83_u45 : u45 83 1 = τ 83 1 := O83_u45_.trans O83_τ
  have O0_u45 : u45 0 7 = τ 0 7 := O0_u45_.trans O0_τ
  replace p46_x0 : r44.toInt = (-1 : Int) := p46_x0
  exact sf_ret ⟨Iu45, Fu45, O83_u45, O0_u45, ti_lo _, ti_hi _⟩
set_option maxHeartbeats 4000000 in
set_option maxRecDepth 100000 in
theorem sl_X3_wasted_30 {F : Nat} (hF : 100000 ≤ F) {x1 : Int32} {x2 : Int32} {τ : Mem} (x1_1 : 0 ≤ x1.toInt) (x1_2 : x1.toInt ≤ 4) (x2_1 : 0 ≤ x2.toInt) (x2_2 : x2.toInt ≤ 1) : ∀ (N : Nat) (x4 : Int32) (x5 : Int32) (σ : Mem), wiX σ → (∀ k, 101 ≤ k → σ k = τ k) → σ 83 1 = τ 83 1 → σ 0 7 = τ 0 7 → 24 < x5.toInt + N → 0 ≤ x5.toInt → x5.toInt ≤ 24 → sf (lp_X3_wasted_30 F x1 x2 N x4 x5 σ) (fun r s => wiX s ∧ (∀ k, 101 ≤ k → s k = τ k) ∧ s 83 1 = τ 83 1 ∧ s 0 7 = τ 0 7 ∧ -2147483648 ≤ r.toInt ∧ r.toInt ≤ 2147483647) := by
  intro N
  induction N with
  | zero => intro x4 x5 σ hI Fσ O83_σ O0_σ hN x5_1 x5_2; exfalso; omega
  | succ N ih =>
    intro x4 x5 σ hI Fσ O83_σ O0_σ hN x5_1 x5_2
    rw [lp_X3_wasted_30_s]
    refine sf_ite (fun c1 => ?_) (fun c1 => ?_)
    · have C1 : (24 : Int) ≤ x5.toInt := ti_le c1
      have b2 := ti_lo x4
      have b3 := ti_hi x4
      exact sf_ret ⟨hI, Fσ, O83_σ, O0_σ, ti_lo _, ti_hi _⟩
    have C1 : x5.toInt < (24 : Int) := ti_nle c1
    refine sf_chk (ti_in (by omega) (by omega)) ?_
    have v4 : Int32.toNatClampNeg x1 = x1.toInt.toNat := rfl
    refine sf_chk (ti_in (by omega) (by omega)) ?_
    have v5 : Int32.toNatClampNeg x5 = x5.toInt.toNat := rfl
    have b6 := ti_lo (σ ((1 + 5) + (Int32.toNatClampNeg x1)) (Int32.toNatClampNeg x5))
    have b7 := ti_hi (σ ((1 + 5) + (Int32.toNatClampNeg x1)) (Int32.toNatClampNeg x5))
    refine sf_ite (fun c8 => ?_) (fun c8 => ?_)
    · have C8 : (σ ((1 + 5) + (Int32.toNatClampNeg x1)) (Int32.toNatClampNeg x5)).toInt = (9 : Int) := ti_eq c8
      rw [j_X3_wasted_59_e]
      refine sf_bnd (s_X0_pull hF wt_h1 hI (by omega) (by omega) (by omega) (by omega)) (fun r9 u10 p11 => ?_)
      obtain ⟨e9, p11_1, p11_2⟩ := p11
      have e9 := e9.symm
      subst e9
      have b12 := ti_lo r9
      have b13 := ti_hi r9
      refine sf_ite (fun c14 => ?_) (fun c14 => ?_)
      · have C14 : r9.toInt ≤ (0 : Int) := ti_le c14
        rw [j_X3_wasted_79_e]
        refine sf_ite (fun c15 => ?_) (fun c15 => ?_)
        · have C15 : x2.toInt = (0 : Int) := ti_eq c15
          refine sf_ite (fun c16 => ?_) (fun c16 => ?_)
          · have C16 : (0 : Int) = (0 : Int) := ti_eq c16
            rw [j_X3_wasted_117_e]
            have b17 := ti_lo x4
            have b18 := ti_hi x4
            have t19 : (x5 + (1 : Int32)).toInt = x5.toInt + (1 : Int) := ti_add (show -2147483648 ≤ x5.toInt + (1 : Int) by omega) (show x5.toInt + (1 : Int) ≤ 2147483647 by omega)
            exact ih _ _ _ hI Fσ O83_σ O0_σ (by omega) (by omega) (by omega)
          have C16 : ¬ (0 : Int) = (0 : Int) := ti_ne c16
          exfalso; omega
        have C15 : ¬ x2.toInt = (0 : Int) := ti_ne c15
        refine sf_ite (fun c20 => ?_) (fun c20 => ?_)
        · have C20 : (0 : Int) = (0 : Int) := ti_eq c20
          refine sf_ite (fun c21 => ?_) (fun c21 => ?_)
          · have C21 : (0 : Int) = (0 : Int) := ti_eq c21
            rw [j_X3_wasted_117_e]
            have b22 := ti_lo x4
            have b23 := ti_hi x4
            have t24 : (x5 + (1 : Int32)).toInt = x5.toInt + (1 : Int) := ti_add (show -2147483648 ≤ x5.toInt + (1 : Int) by omega) (show x5.toInt + (1 : Int) ≤ 2147483647 by omega)
            exact ih _ _ _ hI Fσ O83_σ O0_σ (by omega) (by omega) (by omega)
          have C21 : ¬ (0 : Int) = (0 : Int) := ti_ne c21
          exfalso; omega
        have C20 : ¬ (0 : Int) = (0 : Int) := ti_ne c20
        exfalso; omega
      have C14 : (0 : Int) < r9.toInt := ti_nle c14
      rw [j_X3_wasted_79_e]
      refine sf_ite (fun c25 => ?_) (fun c25 => ?_)
      · have C25 : x2.toInt = (0 : Int) := ti_eq c25
        refine sf_ite (fun c26 => ?_) (fun c26 => ?_)
        · have C26 : (0 : Int) = (0 : Int) := ti_eq c26
          rw [j_X3_wasted_117_e]
          have b27 := ti_lo x4
          have b28 := ti_hi x4
          have t29 : (x5 + (1 : Int32)).toInt = x5.toInt + (1 : Int) := ti_add (show -2147483648 ≤ x5.toInt + (1 : Int) by omega) (show x5.toInt + (1 : Int) ≤ 2147483647 by omega)
          exact ih _ _ _ hI Fσ O83_σ O0_σ (by omega) (by omega) (by omega)
        have C26 : ¬ (0 : Int) = (0 : Int) := ti_ne c26
        exfalso; omega
      have C25 : ¬ x2.toInt = (0 : Int) := ti_ne c25
      refine sf_ite (fun c30 => ?_) (fun c30 => ?_)
      · have C30 : (0 : Int) = (0 : Int) := ti_eq c30
        refine sf_ite (fun c31 => ?_) (fun c31 => ?_)
        · have C31 : (1 : Int) = (0 : Int) := ti_eq c31
          exfalso; omega
        have C31 : ¬ (1 : Int) = (0 : Int) := ti_ne c31
        rw [j_X3_wasted_108_e]
        have b33 := ti_lo (x4 ||| ((1 : Int32) <<< (x5 &&& 31)))
        have b34 := ti_hi (x4 ||| ((1 : Int32) <<< (x5 &&& 31)))
        refine sf_lt (fun z32 hz32 => ?_)
        have hz32_ : z32.toInt = (x4 ||| ((1 : Int32) <<< (x5 &&& 31))).toInt := (show z32.toInt = (x4 ||| ((1 : Int32) <<< (x5 &&& 31))).toInt from congrArg Int32.toInt hz32)
        rw [j_X3_wasted_117_e]
        have b35 := ti_lo z32
        have b36 := ti_hi z32
        have t37 : (x5 + (1 : Int32)).toInt = x5.toInt + (1 : Int) := ti_add (show -2147483648 ≤ x5.toInt + (1 : Int) by omega) (show x5.toInt + (1 : Int) ≤ 2147483647 by omega)
        exact ih _ _ _ hI Fσ O83_σ O0_σ (by omega) (by omega) (by omega)
      have C30 : ¬ (0 : Int) = (0 : Int) := ti_ne c30
      exfalso; omega
    have C8 : ¬ (σ ((1 + 5) + (Int32.toNatClampNeg x1)) (Int32.toNatClampNeg x5)).toInt = (9 : Int) := ti_ne c8
    rw [j_X3_wasted_59_e]
    refine sf_bnd (s_X0_pull hF wt_h1 hI (by omega) (by omega) (by omega) (by omega)) (fun r38 u39 p40 => ?_)
    obtain ⟨e9, p40_1, p40_2⟩ := p40
    have e9 := e9.symm
    subst e9
    have b41 := ti_lo r38
    have b42 := ti_hi r38
    refine sf_ite (fun c43 => ?_) (fun c43 => ?_)
    · have C43 : r38.toInt ≤ (0 : Int) := ti_le c43
      rw [j_X3_wasted_79_e]
      refine sf_ite (fun c44 => ?_) (fun c44 => ?_)
      · have C44 : x2.toInt = (0 : Int) := ti_eq c44
        refine sf_ite (fun c45 => ?_) (fun c45 => ?_)
        · have C45 : (1 : Int) = (0 : Int) := ti_eq c45
          exfalso; omega
        have C45 : ¬ (1 : Int) = (0 : Int) := ti_ne c45
        refine sf_ite (fun c46 => ?_) (fun c46 => ?_)
        · have C46 : (0 : Int) = (0 : Int) := ti_eq c46
          rw [j_X3_wasted_108_e]
          have b48 := ti_lo (x4 ||| ((1 : Int32) <<< (x5 &&& 31)))
          have b49 := ti_hi (x4 ||| ((1 : Int32) <<< (x5 &&& 31)))
          refine sf_lt (fun z47 hz47 => ?_)
          have hz47_ : z47.toInt = (x4 ||| ((1 : Int32) <<< (x5 &&& 31))).toInt := (show z47.toInt = (x4 ||| ((1 : Int32) <<< (x5 &&& 31))).toInt from congrArg Int32.toInt hz47)
          rw [j_X3_wasted_117_e]
          have b50 := ti_lo z47
          have b51 := ti_hi z47
          have t52 : (x5 + (1 : Int32)).toInt = x5.toInt + (1 : Int) := ti_add (show -2147483648 ≤ x5.toInt + (1 : Int) by omega) (show x5.toInt + (1 : Int) ≤ 2147483647 by omega)
          exact ih _ _ _ hI Fσ O83_σ O0_σ (by omega) (by omega) (by omega)
        have C46 : ¬ (0 : Int) = (0 : Int) := ti_ne c46
        exfalso; omega
      have C44 : ¬ x2.toInt = (0 : Int) := ti_ne c44
      refine sf_ite (fun c53 => ?_) (fun c53 => ?_)
      · have C53 : (1 : Int) = (0 : Int) := ti_eq c53
        exfalso; omega
      have C53 : ¬ (1 : Int) = (0 : Int) := ti_ne c53
      rw [j_X3_wasted_117_e]
      have b54 := ti_lo x4
      have b55 := ti_hi x4
      have t56 : (x5 + (1 : Int32)).toInt = x5.toInt + (1 : Int) := ti_add (show -2147483648 ≤ x5.toInt + (1 : Int) by omega) (show x5.toInt + (1 : Int) ≤ 2147483647 by omega)
      exact ih _ _ _ hI Fσ O83_σ O0_σ (by omega) (by omega) (by omega)
    have C43 : (0 : Int) < r38.toInt := ti_nle c43
    rw [j_X3_wasted_79_e]
    refine sf_ite (fun c57 => ?_) (fun c57 => ?_)
    · have C57 : x2.toInt = (0 : Int) := ti_eq c57
      refine sf_ite (fun c58 => ?_) (fun c58 => ?_)
      · have C58 : (1 : Int) = (0 : Int) := ti_eq c58
        exfalso; omega
      have C58 : ¬ (1 : Int) = (0 : Int) := ti_ne c58
      refine sf_ite (fun c59 => ?_) (fun c59 => ?_)
      · have C59 : (1 : Int) = (0 : Int) := ti_eq c59
        exfalso; omega
      have C59 : ¬ (1 : Int) = (0 : Int) := ti_ne c59
      rw [j_X3_wasted_117_e]
      have b60 := ti_lo x4
      have b61 := ti_hi x4
      have t62 : (x5 + (1 : Int32)).toInt = x5.toInt + (1 : Int) := ti_add (show -2147483648 ≤ x5.toInt + (1 : Int) by omega) (show x5.toInt + (1 : Int) ≤ 2147483647 by omega)
      exact ih _ _ _ hI Fσ O83_σ O0_σ (by omega) (by omega) (by omega)
    have C57 : ¬ x2.toInt = (0 : Int) := ti_ne c57
    refine sf_ite (fun c63 => ?_) (fun c63 => ?_)
    · have C63 : (1 : Int) = (0 : Int) := ti_eq c63
      exfalso; omega
    have C63 : ¬ (1 : Int) = (0 : Int) := ti_ne c63
    rw [j_X3_wasted_117_e]
    have b64 := ti_lo x4
    have b65 := ti_hi x4
    have t66 : (x5 + (1 : Int32)).toInt = x5.toInt + (1 : Int) := ti_add (show -2147483648 ≤ x5.toInt + (1 : Int) by omega) (show x5.toInt + (1 : Int) ≤ 2147483647 by omega)
    exact ih _ _ _ hI Fσ O83_σ O0_σ (by omega) (by omega) (by omega)
set_option maxHeartbeats 4000000 in
set_option maxRecDepth 100000 in
theorem s_X3_wasted {F : Nat} (hF : 100000 ≤ F) {x1 : Int32} {x2 : Int32} {τ : Mem} (hI : wiX τ) : sf (f_X3_wasted F x1 x2 τ) (fun r s => wiX s ∧ (∀ k, 101 ≤ k → s k = τ k) ∧ s 83 1 = τ 83 1 ∧ s 0 7 = τ 0 7 ∧ -2147483648 ≤ r.toInt ∧ r.toInt ≤ 2147483647) := by
  have Fτ : ∀ k, 101 ≤ k → τ k = τ k := fun _ _ => rfl
  have O83_τ : τ 83 1 = τ 83 1 := rfl
  have O0_τ : τ 0 7 = τ 0 7 := rfl
  rw [f_X3_wasted_e]
  have b1 := ti_lo x1
  have b2 := ti_hi x1
  refine sf_bnd (s_X3_noLooker hF hI) (fun r3 u4 p5 => ?_)
  obtain ⟨e9, p5⟩ := p5
  have e9 := e9.symm
  subst e9
  rcases p5 with ⟨rfl, q6, q7⟩ | p5
  · refine sf_in ?_
    rw [f_X3_notBelow_e]
    have b8 := ti_lo x2
    have b9 := ti_hi x2
    refine sf_ite (fun c10 => ?_) (fun c10 => ?_)
    · have C10 : x2.toInt < (0 : Int) := ti_lt c10
      rw [j_X3_notBelow_13_e]
      refine sf_ret ?_
      refine sf_in ?_
      rw [f_X3_firstOf_e]
      refine sf_ite (fun c11 => ?_) (fun c11 => ?_)
      · have C11 : (0 : Int) = (0 : Int) := ti_eq c11
        refine sf_ret ?_
        refine sf_ite (fun c12 => ?_) (fun c12 => ?_)
        · have C12 : (-2 : Int) = (0 : Int) := ti_eq c12
          exfalso; omega
        have C12 : ¬ (-2 : Int) = (0 : Int) := ti_ne c12
        refine sf_bnd (s_X3_refuse hF hI (by decide) (by decide)) (fun r13 u14 p15 => ?_)
        obtain ⟨Iu14, Fu14_, O83_u14_, O0_u14_, p15_1, p15_2, p15_x0⟩ := p15
        have Fu14 : ∀ k, 101 ≤ k → u14 k = τ k := fun k hk => (Fu14_ k hk).trans (Fτ k hk)
        have O83_u14 : u14 83 1 = τ 83 1 := O83_u14_.trans O83_τ
        have O0_u14 : u14 0 7 = τ 0 7 := O0_u14_.trans O0_τ
        replace p15_x0 : r13.toInt = (-2 : Int) := p15_x0
        exact sf_ret ⟨Iu14, Fu14, O83_u14, O0_u14, ti_lo _, ti_hi _⟩
      have C11 : ¬ (0 : Int) = (0 : Int) := ti_ne c11
      exfalso; omega
    have C10 : (0 : Int) ≤ x2.toInt := ti_nlt c10
    refine sf_ite (fun c16 => ?_) (fun c16 => ?_)
    · have C16 : (2 : Int) ≤ x2.toInt := ti_le c16
      rw [j_X3_notBelow_13_e]
      refine sf_ret ?_
      refine sf_in ?_
      rw [f_X3_firstOf_e]
      refine sf_ite (fun c17 => ?_) (fun c17 => ?_)
      · have C17 : (0 : Int) = (0 : Int) := ti_eq c17
        refine sf_ret ?_
        refine sf_ite (fun c18 => ?_) (fun c18 => ?_)
        · have C18 : (-2 : Int) = (0 : Int) := ti_eq c18
          exfalso; omega
        have C18 : ¬ (-2 : Int) = (0 : Int) := ti_ne c18
        refine sf_bnd (s_X3_refuse hF hI (by decide) (by decide)) (fun r19 u20 p21 => ?_)
        obtain ⟨Iu20, Fu20_, O83_u20_, O0_u20_, p21_1, p21_2, p21_x0⟩ := p21
        have Fu20 : ∀ k, 101 ≤ k → u20 k = τ k := fun k hk => (Fu20_ k hk).trans (Fτ k hk)
        have O83_u20 : u20 83 1 = τ 83 1 := O83_u20_.trans O83_τ
        have O0_u20 : u20 0 7 = τ 0 7 := O0_u20_.trans O0_τ
        replace p21_x0 : r19.toInt = (-2 : Int) := p21_x0
        exact sf_ret ⟨Iu20, Fu20, O83_u20, O0_u20, ti_lo _, ti_hi _⟩
      have C17 : ¬ (0 : Int) = (0 : Int) := ti_ne c17
      exfalso; omega
    have C16 : x2.toInt < (2 : Int) := ti_nle c16
    refine sf_ret ?_
    refine sf_in ?_
    rw [f_X3_firstOf_e]
    refine sf_ite (fun c22 => ?_) (fun c22 => ?_)
    · have C22 : (0 : Int) = (0 : Int) := ti_eq c22
      refine sf_ret ?_
      refine sf_ite (fun c23 => ?_) (fun c23 => ?_)
      · have C23 : (0 : Int) = (0 : Int) := ti_eq c23
        have l_0 : (0 : Int32).toInt = 0 := rfl
        exact sl_X3_wasted_30 hF (by omega) (by omega) (by omega) (by omega) _ _ _ _ hI Fτ O83_τ O0_τ (by omega) (by decide) (by decide)
      have C23 : ¬ (0 : Int) = (0 : Int) := ti_ne c23
      exfalso; omega
    have C22 : ¬ (0 : Int) = (0 : Int) := ti_ne c22
    exfalso; omega
  obtain rfl := p5
  refine sf_in ?_
  rw [f_X3_notBelow_e]
  have b24 := ti_lo x2
  have b25 := ti_hi x2
  refine sf_ite (fun c26 => ?_) (fun c26 => ?_)
  · have C26 : x2.toInt < (0 : Int) := ti_lt c26
    rw [j_X3_notBelow_13_e]
    refine sf_ret ?_
    refine sf_in ?_
    rw [f_X3_firstOf_e]
    refine sf_ite (fun c27 => ?_) (fun c27 => ?_)
    · have C27 : (-1 : Int) = (0 : Int) := ti_eq c27
      exfalso; omega
    have C27 : ¬ (-1 : Int) = (0 : Int) := ti_ne c27
    refine sf_ret ?_
    refine sf_ite (fun c28 => ?_) (fun c28 => ?_)
    · have C28 : (-1 : Int) = (0 : Int) := ti_eq c28
      exfalso; omega
    have C28 : ¬ (-1 : Int) = (0 : Int) := ti_ne c28
    refine sf_bnd (s_X3_refuse hF hI (by decide) (by decide)) (fun r29 u30 p31 => ?_)
    obtain ⟨Iu30, Fu30_, O83_u30_, O0_u30_, p31_1, p31_2, p31_x0⟩ := p31
    have Fu30 : ∀ k, 101 ≤ k → u30 k = τ k := fun k hk => (Fu30_ k hk).trans (Fτ k hk)
    have O83_u30 : u30 83 1 = τ 83 1 := O83_u30_.trans O83_τ
    have O0_u30 : u30 0 7 = τ 0 7 := O0_u30_.trans O0_τ
    replace p31_x0 : r29.toInt = (-1 : Int) := p31_x0
    exact sf_ret ⟨Iu30, Fu30, O83_u30, O0_u30, ti_lo _, ti_hi _⟩
  have C26 : (0 : Int) ≤ x2.toInt := ti_nlt c26
  refine sf_ite (fun c32 => ?_) (fun c32 => ?_)
  · have C32 : (2 : Int) ≤ x2.toInt := ti_le c32
    rw [j_X3_notBelow_13_e]
    refine sf_ret ?_
    refine sf_in ?_
    rw [f_X3_firstOf_e]
    refine sf_ite (fun c33 => ?_) (fun c33 => ?_)
    · have C33 : (-1 : Int) = (0 : Int) := ti_eq c33
      exfalso; omega
    have C33 : ¬ (-1 : Int) = (0 : Int) := ti_ne c33
    refine sf_ret ?_
    refine sf_ite (fun c34 => ?_) (fun c34 => ?_)
    · have C34 : (-1 : Int) = (0 : Int) := ti_eq c34
      exfalso; omega
    have C34 : ¬ (-1 : Int) = (0 : Int) := ti_ne c34
    refine sf_bnd (s_X3_refuse hF hI (by decide) (by decide)) (fun r35 u36 p37 => ?_)
    obtain ⟨Iu36, Fu36_, O83_u36_, O0_u36_, p37_1, p37_2, p37_x0⟩ := p37
    have Fu36 : ∀ k, 101 ≤ k → u36 k = τ k := fun k hk => (Fu36_ k hk).trans (Fτ k hk)
    have O83_u36 : u36 83 1 = τ 83 1 := O83_u36_.trans O83_τ
    have O0_u36 : u36 0 7 = τ 0 7 := O0_u36_.trans O0_τ
    replace p37_x0 : r35.toInt = (-1 : Int) := p37_x0
    exact sf_ret ⟨Iu36, Fu36, O83_u36, O0_u36, ti_lo _, ti_hi _⟩
  have C32 : x2.toInt < (2 : Int) := ti_nle c32
  refine sf_ret ?_
  refine sf_in ?_
  rw [f_X3_firstOf_e]
  refine sf_ite (fun c38 => ?_) (fun c38 => ?_)
  · have C38 : (-1 : Int) = (0 : Int) := ti_eq c38
    exfalso; omega
  have C38 : ¬ (-1 : Int) = (0 : Int) := ti_ne c38
  refine sf_ret ?_
  refine sf_ite (fun c39 => ?_) (fun c39 => ?_)
  · have C39 : (-1 : Int) = (0 : Int) := ti_eq c39
    exfalso; omega
  have C39 : ¬ (-1 : Int) = (0 : Int) := ti_ne c39
  refine sf_bnd (s_X3_refuse hF hI (by decide) (by decide)) (fun r40 u41 p42 => ?_)
  obtain ⟨Iu41, Fu41_, O83_u41_, O0_u41_, p42_1, p42_2, p42_x0⟩ := p42
  have Fu41 : ∀ k, 101 ≤ k → u41 k = τ k := fun k hk => (Fu41_ k hk).trans (Fτ k hk)
  have O83_u41 : u41 83 1 = τ 83 1 := O83_u41_.trans O83_τ
  have O0_u41 : u41 0 7 = τ 0 7 := O0_u41_.trans O0_τ
  replace p42_x0 : r40.toInt = (-1 : Int) := p42_x0
  exact sf_ret ⟨Iu41, Fu41, O83_u41, O0_u41, ti_lo _, ti_hi _⟩
set_option maxHeartbeats 4000000 in
set_option maxRecDepth 100000 in
theorem sl_X3_ahead_27 {F : Nat} (hF : 100000 ≤ F) {x1 : Int32} {x2 : Int32} {τ : Mem} (x1_1 : 0 ≤ x1.toInt) (x1_2 : x1.toInt ≤ 4) (x2_1 : 0 ≤ x2.toInt) (x2_2 : x2.toInt ≤ 4) : ∀ (N : Nat) (x4 : Int32) (σ : Mem), wiX σ → (∀ k, 101 ≤ k → σ k = τ k) → σ 83 1 = τ 83 1 → σ 0 7 = τ 0 7 → 1000 < x4.toInt + N → 0 ≤ x4.toInt → x4.toInt ≤ 1000 → sf (lp_X3_ahead_27 F x1 x2 N x4 σ) (fun r s => wiX s ∧ (∀ k, 101 ≤ k → s k = τ k) ∧ s 83 1 = τ 83 1 ∧ s 0 7 = τ 0 7 ∧ -2147483648 ≤ r.toInt ∧ r.toInt ≤ 2147483647) := by
  intro N
  induction N with
  | zero => intro x4 σ hI Fσ O83_σ O0_σ hN x4_1 x4_2; exfalso; omega
  | succ N ih =>
    intro x4 σ hI Fσ O83_σ O0_σ hN x4_1 x4_2
    rw [lp_X3_ahead_27_s]
    refine sf_ite (fun c1 => ?_) (fun c1 => ?_)
    · have C1 : (999 : Int) < x4.toInt := ti_lt c1
      exact sf_ret ⟨hI, Fσ, O83_σ, O0_σ, ti_lo _, ti_hi _⟩
    have C1 : x4.toInt ≤ (999 : Int) := ti_nlt c1
    refine sf_bnd (s_X0_lead hF wt_h1 hI (by omega) (by omega) (by omega) (by omega) (by omega) (by omega)) (fun r2 u3 p4 => ?_)
    obtain ⟨e9, p4_1, p4_2⟩ := p4
    have e9 := e9.symm
    subst e9
    have b5 := ti_lo r2
    have b6 := ti_hi r2
    refine sf_ite (fun c7 => ?_) (fun c7 => ?_)
    · have C7 : r2.toInt ≤ (0 : Int) := ti_le c7
      have t8 : (x4 + (1 : Int32)).toInt = x4.toInt + (1 : Int) := ti_add (show -2147483648 ≤ x4.toInt + (1 : Int) by omega) (show x4.toInt + (1 : Int) ≤ 2147483647 by omega)
      exact ih _ _ hI Fσ O83_σ O0_σ (by omega) (by omega) (by omega)
    have C7 : (0 : Int) < r2.toInt := ti_nle c7
    exact sf_ret ⟨hI, Fσ, O83_σ, O0_σ, ti_lo _, ti_hi _⟩
set_option maxHeartbeats 4000000 in
set_option maxRecDepth 100000 in
theorem s_X3_ahead {F : Nat} (hF : 100000 ≤ F) {x1 : Int32} {x2 : Int32} {τ : Mem} (hI : wiX τ) : sf (f_X3_ahead F x1 x2 τ) (fun r s => wiX s ∧ (∀ k, 101 ≤ k → s k = τ k) ∧ s 83 1 = τ 83 1 ∧ s 0 7 = τ 0 7 ∧ -2147483648 ≤ r.toInt ∧ r.toInt ≤ 2147483647) := by
  have Fτ : ∀ k, 101 ≤ k → τ k = τ k := fun _ _ => rfl
  have O83_τ : τ 83 1 = τ 83 1 := rfl
  have O0_τ : τ 0 7 = τ 0 7 := rfl
  rw [f_X3_ahead_e]
  have b1 := ti_lo x1
  have b2 := ti_hi x1
  have b3 := ti_lo x2
  have b4 := ti_hi x2
  refine sf_bnd (s_X3_noPair hF hI) (fun r5 u6 p7 => ?_)
  obtain ⟨e9, p7⟩ := p7
  have e9 := e9.symm
  subst e9
  rcases p7 with ⟨rfl, q8, q9, q10, q11⟩ | p7
  · refine sf_ite (fun c12 => ?_) (fun c12 => ?_)
    · have C12 : (0 : Int) = (0 : Int) := ti_eq c12
      refine sf_bnd (s_X0_reckon hF wt_h1 hI) (fun r13 u14 p15 => ?_)
      obtain ⟨Iu14, Fu14_, O83_u14_, O0_u14_, -⟩ := p15
      have Fu14 : ∀ k, 101 ≤ k → u14 k = τ k := fun k hk => (Fu14_ k hk).trans (Fτ k hk)
      have O83_u14 : u14 83 1 = τ 83 1 := O83_u14_.trans O83_τ
      have O0_u14 : u14 0 7 = τ 0 7 := O0_u14_.trans O0_τ
      have l_0 : (0 : Int32).toInt = 0 := rfl
      exact sl_X3_ahead_27 hF (by omega) (by omega) (by omega) (by omega) _ _ _ Iu14 Fu14 O83_u14 O0_u14 (by omega) (by decide) (by decide)
    have C12 : ¬ (0 : Int) = (0 : Int) := ti_ne c12
    exfalso; omega
  obtain rfl := p7
  refine sf_ite (fun c16 => ?_) (fun c16 => ?_)
  · have C16 : (-1 : Int) = (0 : Int) := ti_eq c16
    exfalso; omega
  have C16 : ¬ (-1 : Int) = (0 : Int) := ti_ne c16
  refine sf_bnd (s_X3_refuse hF hI (by decide) (by decide)) (fun r17 u18 p19 => ?_)
  obtain ⟨Iu18, Fu18_, O83_u18_, O0_u18_, p19_1, p19_2, p19_x0⟩ := p19
  have Fu18 : ∀ k, 101 ≤ k → u18 k = τ k := fun k hk => (Fu18_ k hk).trans (Fτ k hk)
  have O83_u18 : u18 83 1 = τ 83 1 := O83_u18_.trans O83_τ
  have O0_u18 : u18 0 7 = τ 0 7 := O0_u18_.trans O0_τ
  replace p19_x0 : r17.toInt = (-1 : Int) := p19_x0
  exact sf_ret ⟨Iu18, Fu18, O83_u18, O0_u18, ti_lo _, ti_hi _⟩
set_option maxHeartbeats 4000000 in
set_option maxRecDepth 100000 in
theorem sl_X3_bestLaw_44 {F : Nat} (hF : 100000 ≤ F) {x1 : Int32} {x2 : Int32} {τ : Mem} (x1_1 : 0 ≤ x1.toInt) (x1_2 : x1.toInt ≤ 4) (x2_1 : 0 ≤ x2.toInt) (x2_2 : x2.toInt ≤ 999) : ∀ (N : Nat) (x4 : Int32) (x5 : Int32) (x6 : Int32) (σ : Mem), wiX σ → (∀ k, 101 ≤ k → σ k = τ k) → σ 83 1 = τ 83 1 → σ 0 7 = τ 0 7 → 3 < x6.toInt + N → 0 ≤ x4.toInt → x4.toInt ≤ 2 → -1 ≤ x5.toInt → x5.toInt ≤ 2147483647 → 0 ≤ x6.toInt → x6.toInt ≤ 3 → sf (lp_X3_bestLaw_44 F x1 x2 N x4 x5 x6 σ) (fun r s => wiX s ∧ (∀ k, 101 ≤ k → s k = τ k) ∧ s 83 1 = τ 83 1 ∧ s 0 7 = τ 0 7 ∧ -2147483648 ≤ r.toInt ∧ r.toInt ≤ 2147483647) := by
  intro N
  induction N with
  | zero => intro x4 x5 x6 σ hI Fσ O83_σ O0_σ hN x4_1 x4_2 x5_1 x5_2 x6_1 x6_2; exfalso; omega
  | succ N ih =>
    intro x4 x5 x6 σ hI Fσ O83_σ O0_σ hN x4_1 x4_2 x5_1 x5_2 x6_1 x6_2
    rw [lp_X3_bestLaw_44_s]
    refine sf_ite (fun c1 => ?_) (fun c1 => ?_)
    · have C1 : (3 : Int) ≤ x6.toInt := ti_le c1
      exact sf_ret ⟨hI, Fσ, O83_σ, O0_σ, ti_lo _, ti_hi _⟩
    have C1 : x6.toInt < (3 : Int) := ti_nle c1
    refine sf_bnd (s_X0_rule hF wt_h24 hI) (fun r2 u3 p4 => ?_)
    obtain ⟨Iu3, Fu3_, O83_u3_, O0_u3_, p4_1, p4_2⟩ := p4
    have Fu3 : ∀ k, 101 ≤ k → u3 k = τ k := fun k hk => (Fu3_ k hk).trans (Fσ k hk)
    have O83_u3 : u3 83 1 = τ 83 1 := O83_u3_.trans O83_σ
    have O0_u3 : u3 0 7 = τ 0 7 := O0_u3_.trans O0_σ
    have hb_r2 : r2 = 0 ∨ r2 = 1 := wi_bool p4_1 p4_2
    refine sf_bnd (s_X0_wealth hF wt_h24 Iu3 (by omega) (by omega)) (fun r5 u6 p7 => ?_)
    obtain ⟨e9, p7_1, p7_2⟩ := p7
    have e9 := e9.symm
    subst e9
    have b8 := ti_lo r5
    have b9 := ti_hi r5
    have b10 := ti_lo x5
    have b11 := ti_hi x5
    refine sf_ite (fun c12 => ?_) (fun c12 => ?_)
    · have C12 : r5.toInt ≤ x5.toInt := ti_le c12
      rw [j_X3_bestLaw_86_e]
      have t13 : (x6 + (1 : Int32)).toInt = x6.toInt + (1 : Int) := ti_add (show -2147483648 ≤ x6.toInt + (1 : Int) by omega) (show x6.toInt + (1 : Int) ≤ 2147483647 by omega)
      exact ih _ _ _ _ Iu3 Fu3 O83_u3 O0_u3 (by omega) (by omega) (by omega) (by omega) (by omega) (by omega) (by omega)
    have C12 : x5.toInt < r5.toInt := ti_nle c12
    rw [j_X3_bestLaw_86_e]
    have t14 : (x6 + (1 : Int32)).toInt = x6.toInt + (1 : Int) := ti_add (show -2147483648 ≤ x6.toInt + (1 : Int) by omega) (show x6.toInt + (1 : Int) ≤ 2147483647 by omega)
    exact ih _ _ _ _ Iu3 Fu3 O83_u3 O0_u3 (by omega) (by omega) (by omega) (by omega) (by omega) (by omega) (by omega)
set_option maxHeartbeats 4000000 in
set_option maxRecDepth 100000 in
theorem s_X3_bestLaw {F : Nat} (hF : 100000 ≤ F) {x1 : Int32} {x2 : Int32} {τ : Mem} (hI : wiX τ) : sf (f_X3_bestLaw F x1 x2 τ) (fun r s => wiX s ∧ (∀ k, 101 ≤ k → s k = τ k) ∧ s 83 1 = τ 83 1 ∧ s 0 7 = τ 0 7 ∧ -2147483648 ≤ r.toInt ∧ r.toInt ≤ 2147483647) := by
  have Fτ : ∀ k, 101 ≤ k → τ k = τ k := fun _ _ => rfl
  have O83_τ : τ 83 1 = τ 83 1 := rfl
  have O0_τ : τ 0 7 = τ 0 7 := rfl
  rw [f_X3_bestLaw_e]
  have b1 := ti_lo x1
  have b2 := ti_hi x1
  have b3 := ti_lo x2
  have b4 := ti_hi x2
  refine sf_bnd (s_X3_noLookerFar hF hI) (fun r5 u6 p7 => ?_)
  obtain ⟨e9, p7⟩ := p7
  have e9 := e9.symm
  subst e9
  rcases p7 with ⟨rfl, q8, q9, q10, q11⟩ | p7
  · refine sf_ite (fun c12 => ?_) (fun c12 => ?_)
    · have C12 : (0 : Int) = (0 : Int) := ti_eq c12
      refine sf_bnd (s_X0_takeFrom hF wt_h24 wt_h1 hI) (fun r13 u14 p15 => ?_)
      obtain ⟨Iu14, Fu14_, O83_u14_, O0_u14_, -⟩ := p15
      have Fu14 : ∀ k, 101 ≤ k → u14 k = τ k := fun k hk => (Fu14_ k hk).trans (Fτ k hk)
      have O83_u14 : u14 83 1 = τ 83 1 := O83_u14_.trans O83_τ
      have O0_u14 : u14 0 7 = τ 0 7 := O0_u14_.trans O0_τ
      refine sf_bnd (s_X0_reckon hF wt_h24 Iu14) (fun r16 u17 p18 => ?_)
      obtain ⟨Iu17, Fu17_, O83_u17_, O0_u17_, -⟩ := p18
      have Fu17 : ∀ k, 101 ≤ k → u17 k = τ k := fun k hk => (Fu17_ k hk).trans (Fu14 k hk)
      have O83_u17 : u17 83 1 = τ 83 1 := O83_u17_.trans O83_u14
      have O0_u17 : u17 0 7 = τ 0 7 := O0_u17_.trans O0_u14
      have l_0 : (0 : Int32).toInt = 0 := rfl
      exact sl_X3_bestLaw_44 hF (by omega) (by omega) (by omega) (by omega) _ _ _ _ _ Iu17 Fu17 O83_u17 O0_u17 (by omega) (by decide) (by decide) (by decide) (by decide) (by decide) (by decide)
    have C12 : ¬ (0 : Int) = (0 : Int) := ti_ne c12
    exfalso; omega
  rcases p7 with rfl | p7
  · refine sf_ite (fun c19 => ?_) (fun c19 => ?_)
    · have C19 : (-1 : Int) = (0 : Int) := ti_eq c19
      exfalso; omega
    have C19 : ¬ (-1 : Int) = (0 : Int) := ti_ne c19
    refine sf_bnd (s_X3_refuse hF hI (by decide) (by decide)) (fun r20 u21 p22 => ?_)
    obtain ⟨Iu21, Fu21_, O83_u21_, O0_u21_, p22_1, p22_2, p22_x0⟩ := p22
    have Fu21 : ∀ k, 101 ≤ k → u21 k = τ k := fun k hk => (Fu21_ k hk).trans (Fτ k hk)
    have O83_u21 : u21 83 1 = τ 83 1 := O83_u21_.trans O83_τ
    have O0_u21 : u21 0 7 = τ 0 7 := O0_u21_.trans O0_τ
    replace p22_x0 : r20.toInt = (-1 : Int) := p22_x0
    exact sf_ret ⟨Iu21, Fu21, O83_u21, O0_u21, ti_lo _, ti_hi _⟩
  rcases p7 with rfl | p7
  · refine sf_ite (fun c23 => ?_) (fun c23 => ?_)
    · have C23 : (-4 : Int) = (0 : Int) := ti_eq c23
      exfalso; omega
    have C23 : ¬ (-4 : Int) = (0 : Int) := ti_ne c23
    refine sf_bnd (s_X3_refuse hF hI (by decide) (by decide)) (fun r24 u25 p26 => ?_)
    obtain ⟨Iu25, Fu25_, O83_u25_, O0_u25_, p26_1, p26_2, p26_x0⟩ := p26
    have Fu25 : ∀ k, 101 ≤ k → u25 k = τ k := fun k hk => (Fu25_ k hk).trans (Fτ k hk)
    have O83_u25 : u25 83 1 = τ 83 1 := O83_u25_.trans O83_τ
    have O0_u25 : u25 0 7 = τ 0 7 := O0_u25_.trans O0_τ
    replace p26_x0 : r24.toInt = (-4 : Int) := p26_x0
    exact sf_ret ⟨Iu25, Fu25, O83_u25, O0_u25, ti_lo _, ti_hi _⟩
  obtain rfl := p7
  refine sf_ite (fun c27 => ?_) (fun c27 => ?_)
  · have C27 : (-6 : Int) = (0 : Int) := ti_eq c27
    exfalso; omega
  have C27 : ¬ (-6 : Int) = (0 : Int) := ti_ne c27
  refine sf_bnd (s_X3_refuse hF hI (by decide) (by decide)) (fun r28 u29 p30 => ?_)
  obtain ⟨Iu29, Fu29_, O83_u29_, O0_u29_, p30_1, p30_2, p30_x0⟩ := p30
  have Fu29 : ∀ k, 101 ≤ k → u29 k = τ k := fun k hk => (Fu29_ k hk).trans (Fτ k hk)
  have O83_u29 : u29 83 1 = τ 83 1 := O83_u29_.trans O83_τ
  have O0_u29 : u29 0 7 = τ 0 7 := O0_u29_.trans O0_τ
  replace p30_x0 : r28.toInt = (-6 : Int) := p30_x0
  exact sf_ret ⟨Iu29, Fu29, O83_u29, O0_u29, ti_lo _, ti_hi _⟩
set_option maxHeartbeats 4000000 in
set_option maxRecDepth 100000 in
theorem sl_X3_newcomer_112 {F : Nat} (hF : 100000 ≤ F) {x3 : Int32} {x5 : Int32} {τ : Mem} (x3_1 : 0 ≤ x3.toInt) (x3_2 : x3.toInt ≤ 1) (x5_1 : -1 ≤ x5.toInt) (x5_2 : x5.toInt ≤ 4) : ∀ (N : Nat) (x6 : Int32) (σ : Mem), wiX σ → (∀ k, 101 ≤ k → σ k = τ k) → σ 83 1 = τ 83 1 → σ 0 7 = τ 0 7 → 1000 < x6.toInt + N → 0 ≤ x6.toInt → x6.toInt ≤ 1000 → sf (lp_X3_newcomer_112 F x3 x5 N x6 σ) (fun r s => wiX s ∧ (∀ k, 101 ≤ k → s k = τ k) ∧ s 83 1 = τ 83 1 ∧ s 0 7 = τ 0 7 ∧ -2147483648 ≤ r.toInt ∧ r.toInt ≤ 2147483647) := by
  intro N
  induction N with
  | zero => intro x6 σ hI Fσ O83_σ O0_σ hN x6_1 x6_2; exfalso; omega
  | succ N ih =>
    intro x6 σ hI Fσ O83_σ O0_σ hN x6_1 x6_2
    rw [lp_X3_newcomer_112_s]
    refine sf_ite (fun c1 => ?_) (fun c1 => ?_)
    · have C1 : (999 : Int) < x6.toInt := ti_lt c1
      exact sf_ret ⟨hI, Fσ, O83_σ, O0_σ, ti_lo _, ti_hi _⟩
    have C1 : x6.toInt ≤ (999 : Int) := ti_nlt c1
    refine sf_bnd (s_X0_firstHolding hF wt_h24 hI (by omega) (by omega) (by omega) (by omega)) (fun r2 u3 p4 => ?_)
    obtain ⟨e9, p4_1, p4_2⟩ := p4
    have e9 := e9.symm
    subst e9
    refine sf_ite (fun c5 => ?_) (fun c5 => ?_)
    · have C5 : r2.toInt = (-9 : Int) := ti_eq c5
      have t6 : (x6 + (1 : Int32)).toInt = x6.toInt + (1 : Int) := ti_add (show -2147483648 ≤ x6.toInt + (1 : Int) by omega) (show x6.toInt + (1 : Int) ≤ 2147483647 by omega)
      exact ih _ _ hI Fσ O83_σ O0_σ (by omega) (by omega) (by omega)
    have C5 : ¬ r2.toInt = (-9 : Int) := ti_ne c5
    refine sf_ite (fun c7 => ?_) (fun c7 => ?_)
    · have C7 : x3.toInt = (0 : Int) := ti_eq c7
      exact sf_ret ⟨hI, Fσ, O83_σ, O0_σ, ti_lo _, ti_hi _⟩
    have C7 : ¬ x3.toInt = (0 : Int) := ti_ne c7
    exact sf_ret ⟨hI, Fσ, O83_σ, O0_σ, ti_lo _, ti_hi _⟩
set_option maxHeartbeats 4000000 in
set_option maxRecDepth 100000 in
theorem s_X3_newcomer {F : Nat} (hF : 100000 ≤ F) {x1 : Int32} {x2 : Int32} {x3 : Int32} {τ : Mem} (hI : wiX τ) : sf (f_X3_newcomer F x1 x2 x3 τ) (fun r s => wiX s ∧ (∀ k, 101 ≤ k → s k = τ k) ∧ s 83 1 = τ 83 1 ∧ s 0 7 = τ 0 7 ∧ -2147483648 ≤ r.toInt ∧ r.toInt ≤ 2147483647) := by
  have Fτ : ∀ k, 101 ≤ k → τ k = τ k := fun _ _ => rfl
  have O83_τ : τ 83 1 = τ 83 1 := rfl
  have O0_τ : τ 0 7 = τ 0 7 := rfl
  rw [f_X3_newcomer_e]
  have b1 := ti_lo x2
  have b2 := ti_hi x2
  refine sf_bnd (s_X3_noPane hF hI) (fun r3 u4 p5 => ?_)
  obtain ⟨e9, p5⟩ := p5
  have e9 := e9.symm
  subst e9
  rcases p5 with ⟨rfl, q6, q7⟩ | p5
  · refine sf_in ?_
    rw [f_X3_notBelow_e]
    have b8 := ti_lo x1
    have b9 := ti_hi x1
    refine sf_ite (fun c10 => ?_) (fun c10 => ?_)
    · have C10 : x1.toInt < (0 : Int) := ti_lt c10
      rw [j_X3_notBelow_13_e]
      refine sf_ret ?_
      refine sf_in ?_
      rw [f_X3_notBelow_e]
      have b11 := ti_lo x3
      have b12 := ti_hi x3
      refine sf_ite (fun c13 => ?_) (fun c13 => ?_)
      · have C13 : x3.toInt < (0 : Int) := ti_lt c13
        rw [j_X3_notBelow_13_e]
        refine sf_ret ?_
        refine sf_in ?_
        rw [f_X3_firstOf_e]
        refine sf_ite (fun c14 => ?_) (fun c14 => ?_)
        · have C14 : (-2 : Int) = (0 : Int) := ti_eq c14
          exfalso; omega
        have C14 : ¬ (-2 : Int) = (0 : Int) := ti_ne c14
        refine sf_ret ?_
        refine sf_in ?_
        rw [f_X3_firstOf_e]
        refine sf_ite (fun c15 => ?_) (fun c15 => ?_)
        · have C15 : (0 : Int) = (0 : Int) := ti_eq c15
          refine sf_ret ?_
          refine sf_ite (fun c16 => ?_) (fun c16 => ?_)
          · have C16 : (-2 : Int) = (0 : Int) := ti_eq c16
            exfalso; omega
          have C16 : ¬ (-2 : Int) = (0 : Int) := ti_ne c16
          rw [j_X3_newcomer_44_e]
          refine sf_ite (fun c17 => ?_) (fun c17 => ?_)
          · have C17 : (-2 : Int) = (0 : Int) := ti_eq c17
            exfalso; omega
          have C17 : ¬ (-2 : Int) = (0 : Int) := ti_ne c17
          refine sf_bnd (s_X3_refuse hF hI (by decide) (by decide)) (fun r18 u19 p20 => ?_)
          obtain ⟨Iu19, Fu19_, O83_u19_, O0_u19_, p20_1, p20_2, p20_x0⟩ := p20
          have Fu19 : ∀ k, 101 ≤ k → u19 k = τ k := fun k hk => (Fu19_ k hk).trans (Fτ k hk)
          have O83_u19 : u19 83 1 = τ 83 1 := O83_u19_.trans O83_τ
          have O0_u19 : u19 0 7 = τ 0 7 := O0_u19_.trans O0_τ
          replace p20_x0 : r18.toInt = (-2 : Int) := p20_x0
          exact sf_ret ⟨Iu19, Fu19, O83_u19, O0_u19, ti_lo _, ti_hi _⟩
        have C15 : ¬ (0 : Int) = (0 : Int) := ti_ne c15
        exfalso; omega
      have C13 : (0 : Int) ≤ x3.toInt := ti_nlt c13
      refine sf_ite (fun c21 => ?_) (fun c21 => ?_)
      · have C21 : (2 : Int) ≤ x3.toInt := ti_le c21
        rw [j_X3_notBelow_13_e]
        refine sf_ret ?_
        refine sf_in ?_
        rw [f_X3_firstOf_e]
        refine sf_ite (fun c22 => ?_) (fun c22 => ?_)
        · have C22 : (-2 : Int) = (0 : Int) := ti_eq c22
          exfalso; omega
        have C22 : ¬ (-2 : Int) = (0 : Int) := ti_ne c22
        refine sf_ret ?_
        refine sf_in ?_
        rw [f_X3_firstOf_e]
        refine sf_ite (fun c23 => ?_) (fun c23 => ?_)
        · have C23 : (0 : Int) = (0 : Int) := ti_eq c23
          refine sf_ret ?_
          refine sf_ite (fun c24 => ?_) (fun c24 => ?_)
          · have C24 : (-2 : Int) = (0 : Int) := ti_eq c24
            exfalso; omega
          have C24 : ¬ (-2 : Int) = (0 : Int) := ti_ne c24
          rw [j_X3_newcomer_44_e]
          refine sf_ite (fun c25 => ?_) (fun c25 => ?_)
          · have C25 : (-2 : Int) = (0 : Int) := ti_eq c25
            exfalso; omega
          have C25 : ¬ (-2 : Int) = (0 : Int) := ti_ne c25
          refine sf_bnd (s_X3_refuse hF hI (by decide) (by decide)) (fun r26 u27 p28 => ?_)
          obtain ⟨Iu27, Fu27_, O83_u27_, O0_u27_, p28_1, p28_2, p28_x0⟩ := p28
          have Fu27 : ∀ k, 101 ≤ k → u27 k = τ k := fun k hk => (Fu27_ k hk).trans (Fτ k hk)
          have O83_u27 : u27 83 1 = τ 83 1 := O83_u27_.trans O83_τ
          have O0_u27 : u27 0 7 = τ 0 7 := O0_u27_.trans O0_τ
          replace p28_x0 : r26.toInt = (-2 : Int) := p28_x0
          exact sf_ret ⟨Iu27, Fu27, O83_u27, O0_u27, ti_lo _, ti_hi _⟩
        have C23 : ¬ (0 : Int) = (0 : Int) := ti_ne c23
        exfalso; omega
      have C21 : x3.toInt < (2 : Int) := ti_nle c21
      refine sf_ret ?_
      refine sf_in ?_
      rw [f_X3_firstOf_e]
      refine sf_ite (fun c29 => ?_) (fun c29 => ?_)
      · have C29 : (-2 : Int) = (0 : Int) := ti_eq c29
        exfalso; omega
      have C29 : ¬ (-2 : Int) = (0 : Int) := ti_ne c29
      refine sf_ret ?_
      refine sf_in ?_
      rw [f_X3_firstOf_e]
      refine sf_ite (fun c30 => ?_) (fun c30 => ?_)
      · have C30 : (0 : Int) = (0 : Int) := ti_eq c30
        refine sf_ret ?_
        refine sf_ite (fun c31 => ?_) (fun c31 => ?_)
        · have C31 : (-2 : Int) = (0 : Int) := ti_eq c31
          exfalso; omega
        have C31 : ¬ (-2 : Int) = (0 : Int) := ti_ne c31
        rw [j_X3_newcomer_44_e]
        refine sf_ite (fun c32 => ?_) (fun c32 => ?_)
        · have C32 : (-2 : Int) = (0 : Int) := ti_eq c32
          exfalso; omega
        have C32 : ¬ (-2 : Int) = (0 : Int) := ti_ne c32
        refine sf_bnd (s_X3_refuse hF hI (by decide) (by decide)) (fun r33 u34 p35 => ?_)
        obtain ⟨Iu34, Fu34_, O83_u34_, O0_u34_, p35_1, p35_2, p35_x0⟩ := p35
        have Fu34 : ∀ k, 101 ≤ k → u34 k = τ k := fun k hk => (Fu34_ k hk).trans (Fτ k hk)
        have O83_u34 : u34 83 1 = τ 83 1 := O83_u34_.trans O83_τ
        have O0_u34 : u34 0 7 = τ 0 7 := O0_u34_.trans O0_τ
        replace p35_x0 : r33.toInt = (-2 : Int) := p35_x0
        exact sf_ret ⟨Iu34, Fu34, O83_u34, O0_u34, ti_lo _, ti_hi _⟩
      have C30 : ¬ (0 : Int) = (0 : Int) := ti_ne c30
      exfalso; omega
    have C10 : (0 : Int) ≤ x1.toInt := ti_nlt c10
    refine sf_ite (fun c36 => ?_) (fun c36 => ?_)
    · have C36 : (6 : Int) ≤ x1.toInt := ti_le c36
      rw [j_X3_notBelow_13_e]
      refine sf_ret ?_
      refine sf_in ?_
      rw [f_X3_notBelow_e]
      have b37 := ti_lo x3
      have b38 := ti_hi x3
      refine sf_ite (fun c39 => ?_) (fun c39 => ?_)
      · have C39 : x3.toInt < (0 : Int) := ti_lt c39
        rw [j_X3_notBelow_13_e]
        refine sf_ret ?_
        refine sf_in ?_
        rw [f_X3_firstOf_e]
        refine sf_ite (fun c40 => ?_) (fun c40 => ?_)
        · have C40 : (-2 : Int) = (0 : Int) := ti_eq c40
          exfalso; omega
        have C40 : ¬ (-2 : Int) = (0 : Int) := ti_ne c40
        refine sf_ret ?_
        refine sf_in ?_
        rw [f_X3_firstOf_e]
        refine sf_ite (fun c41 => ?_) (fun c41 => ?_)
        · have C41 : (0 : Int) = (0 : Int) := ti_eq c41
          refine sf_ret ?_
          refine sf_ite (fun c42 => ?_) (fun c42 => ?_)
          · have C42 : (-2 : Int) = (0 : Int) := ti_eq c42
            exfalso; omega
          have C42 : ¬ (-2 : Int) = (0 : Int) := ti_ne c42
          rw [j_X3_newcomer_44_e]
          refine sf_ite (fun c43 => ?_) (fun c43 => ?_)
          · have C43 : (-2 : Int) = (0 : Int) := ti_eq c43
            exfalso; omega
          have C43 : ¬ (-2 : Int) = (0 : Int) := ti_ne c43
          refine sf_bnd (s_X3_refuse hF hI (by decide) (by decide)) (fun r44 u45 p46 => ?_)
          obtain ⟨Iu45, Fu45_, O83_u45_, O0_u45_, p46_1, p46_2, p46_x0⟩ := p46
          have Fu45 : ∀ k, 101 ≤ k → u45 k = τ k := fun k hk => (Fu45_ k hk).trans (Fτ k hk)
          have O83_u45 : u45 83 1 = τ 83 1 := O83_u45_.trans O83_τ
          have O0_u45 : u45 0 7 = τ 0 7 := O0_u45_.trans O0_τ
          replace p46_x0 : r44.toInt = (-2 : Int) := p46_x0
          exact sf_ret ⟨Iu45, Fu45, O83_u45, O0_u45, ti_lo _, ti_hi _⟩
        have C41 : ¬ (0 : Int) = (0 : Int) := ti_ne c41
        exfalso; omega
      have C39 : (0 : Int) ≤ x3.toInt := ti_nlt c39
      refine sf_ite (fun c47 => ?_) (fun c47 => ?_)
      · have C47 : (2 : Int) ≤ x3.toInt := ti_le c47
        rw [j_X3_notBelow_13_e]
        refine sf_ret ?_
        refine sf_in ?_
        rw [f_X3_firstOf_e]
        refine sf_ite (fun c48 => ?_) (fun c48 => ?_)
        · have C48 : (-2 : Int) = (0 : Int) := ti_eq c48
          exfalso; omega
        have C48 : ¬ (-2 : Int) = (0 : Int) := ti_ne c48
        refine sf_ret ?_
        refine sf_in ?_
        rw [f_X3_firstOf_e]
        refine sf_ite (fun c49 => ?_) (fun c49 => ?_)
        · have C49 : (0 : Int) = (0 : Int) := ti_eq c49
          refine sf_ret ?_
          refine sf_ite (fun c50 => ?_) (fun c50 => ?_)
          · have C50 : (-2 : Int) = (0 : Int) := ti_eq c50
            exfalso; omega
          have C50 : ¬ (-2 : Int) = (0 : Int) := ti_ne c50
          rw [j_X3_newcomer_44_e]
          refine sf_ite (fun c51 => ?_) (fun c51 => ?_)
          · have C51 : (-2 : Int) = (0 : Int) := ti_eq c51
            exfalso; omega
          have C51 : ¬ (-2 : Int) = (0 : Int) := ti_ne c51
          refine sf_bnd (s_X3_refuse hF hI (by decide) (by decide)) (fun r52 u53 p54 => ?_)
          obtain ⟨Iu53, Fu53_, O83_u53_, O0_u53_, p54_1, p54_2, p54_x0⟩ := p54
          have Fu53 : ∀ k, 101 ≤ k → u53 k = τ k := fun k hk => (Fu53_ k hk).trans (Fτ k hk)
          have O83_u53 : u53 83 1 = τ 83 1 := O83_u53_.trans O83_τ
          have O0_u53 : u53 0 7 = τ 0 7 := O0_u53_.trans O0_τ
          replace p54_x0 : r52.toInt = (-2 : Int) := p54_x0
          exact sf_ret ⟨Iu53, Fu53, O83_u53, O0_u53, ti_lo _, ti_hi _⟩
        have C49 : ¬ (0 : Int) = (0 : Int) := ti_ne c49
        exfalso; omega
      have C47 : x3.toInt < (2 : Int) := ti_nle c47
      refine sf_ret ?_
      refine sf_in ?_
      rw [f_X3_firstOf_e]
      refine sf_ite (fun c55 => ?_) (fun c55 => ?_)
      · have C55 : (-2 : Int) = (0 : Int) := ti_eq c55
        exfalso; omega
      have C55 : ¬ (-2 : Int) = (0 : Int) := ti_ne c55
      refine sf_ret ?_
      refine sf_in ?_
      rw [f_X3_firstOf_e]
      refine sf_ite (fun c56 => ?_) (fun c56 => ?_)
      · have C56 : (0 : Int) = (0 : Int) := ti_eq c56
        refine sf_ret ?_
        refine sf_ite (fun c57 => ?_) (fun c57 => ?_)
        · have C57 : (-2 : Int) = (0 : Int) := ti_eq c57
          exfalso; omega
        have C57 : ¬ (-2 : Int) = (0 : Int) := ti_ne c57
        rw [j_X3_newcomer_44_e]
        refine sf_ite (fun c58 => ?_) (fun c58 => ?_)
        · have C58 : (-2 : Int) = (0 : Int) := ti_eq c58
          exfalso; omega
        have C58 : ¬ (-2 : Int) = (0 : Int) := ti_ne c58
        refine sf_bnd (s_X3_refuse hF hI (by decide) (by decide)) (fun r59 u60 p61 => ?_)
        obtain ⟨Iu60, Fu60_, O83_u60_, O0_u60_, p61_1, p61_2, p61_x0⟩ := p61
        have Fu60 : ∀ k, 101 ≤ k → u60 k = τ k := fun k hk => (Fu60_ k hk).trans (Fτ k hk)
        have O83_u60 : u60 83 1 = τ 83 1 := O83_u60_.trans O83_τ
        have O0_u60 : u60 0 7 = τ 0 7 := O0_u60_.trans O0_τ
        replace p61_x0 : r59.toInt = (-2 : Int) := p61_x0
        exact sf_ret ⟨Iu60, Fu60, O83_u60, O0_u60, ti_lo _, ti_hi _⟩
      have C56 : ¬ (0 : Int) = (0 : Int) := ti_ne c56
      exfalso; omega
    have C36 : x1.toInt < (6 : Int) := ti_nle c36
    refine sf_ret ?_
    refine sf_in ?_
    rw [f_X3_notBelow_e]
    have b62 := ti_lo x3
    have b63 := ti_hi x3
    refine sf_ite (fun c64 => ?_) (fun c64 => ?_)
    · have C64 : x3.toInt < (0 : Int) := ti_lt c64
      rw [j_X3_notBelow_13_e]
      refine sf_ret ?_
      refine sf_in ?_
      rw [f_X3_firstOf_e]
      refine sf_ite (fun c65 => ?_) (fun c65 => ?_)
      · have C65 : (0 : Int) = (0 : Int) := ti_eq c65
        refine sf_ret ?_
        refine sf_in ?_
        rw [f_X3_firstOf_e]
        refine sf_ite (fun c66 => ?_) (fun c66 => ?_)
        · have C66 : (0 : Int) = (0 : Int) := ti_eq c66
          refine sf_ret ?_
          refine sf_ite (fun c67 => ?_) (fun c67 => ?_)
          · have C67 : (-2 : Int) = (0 : Int) := ti_eq c67
            exfalso; omega
          have C67 : ¬ (-2 : Int) = (0 : Int) := ti_ne c67
          rw [j_X3_newcomer_44_e]
          refine sf_ite (fun c68 => ?_) (fun c68 => ?_)
          · have C68 : (-2 : Int) = (0 : Int) := ti_eq c68
            exfalso; omega
          have C68 : ¬ (-2 : Int) = (0 : Int) := ti_ne c68
          refine sf_bnd (s_X3_refuse hF hI (by decide) (by decide)) (fun r69 u70 p71 => ?_)
          obtain ⟨Iu70, Fu70_, O83_u70_, O0_u70_, p71_1, p71_2, p71_x0⟩ := p71
          have Fu70 : ∀ k, 101 ≤ k → u70 k = τ k := fun k hk => (Fu70_ k hk).trans (Fτ k hk)
          have O83_u70 : u70 83 1 = τ 83 1 := O83_u70_.trans O83_τ
          have O0_u70 : u70 0 7 = τ 0 7 := O0_u70_.trans O0_τ
          replace p71_x0 : r69.toInt = (-2 : Int) := p71_x0
          exact sf_ret ⟨Iu70, Fu70, O83_u70, O0_u70, ti_lo _, ti_hi _⟩
        have C66 : ¬ (0 : Int) = (0 : Int) := ti_ne c66
        exfalso; omega
      have C65 : ¬ (0 : Int) = (0 : Int) := ti_ne c65
      exfalso; omega
    have C64 : (0 : Int) ≤ x3.toInt := ti_nlt c64
    refine sf_ite (fun c72 => ?_) (fun c72 => ?_)
    · have C72 : (2 : Int) ≤ x3.toInt := ti_le c72
      rw [j_X3_notBelow_13_e]
      refine sf_ret ?_
      refine sf_in ?_
      rw [f_X3_firstOf_e]
      refine sf_ite (fun c73 => ?_) (fun c73 => ?_)
      · have C73 : (0 : Int) = (0 : Int) := ti_eq c73
        refine sf_ret ?_
        refine sf_in ?_
        rw [f_X3_firstOf_e]
        refine sf_ite (fun c74 => ?_) (fun c74 => ?_)
        · have C74 : (0 : Int) = (0 : Int) := ti_eq c74
          refine sf_ret ?_
          refine sf_ite (fun c75 => ?_) (fun c75 => ?_)
          · have C75 : (-2 : Int) = (0 : Int) := ti_eq c75
            exfalso; omega
          have C75 : ¬ (-2 : Int) = (0 : Int) := ti_ne c75
          rw [j_X3_newcomer_44_e]
          refine sf_ite (fun c76 => ?_) (fun c76 => ?_)
          · have C76 : (-2 : Int) = (0 : Int) := ti_eq c76
            exfalso; omega
          have C76 : ¬ (-2 : Int) = (0 : Int) := ti_ne c76
          refine sf_bnd (s_X3_refuse hF hI (by decide) (by decide)) (fun r77 u78 p79 => ?_)
          obtain ⟨Iu78, Fu78_, O83_u78_, O0_u78_, p79_1, p79_2, p79_x0⟩ := p79
          have Fu78 : ∀ k, 101 ≤ k → u78 k = τ k := fun k hk => (Fu78_ k hk).trans (Fτ k hk)
          have O83_u78 : u78 83 1 = τ 83 1 := O83_u78_.trans O83_τ
          have O0_u78 : u78 0 7 = τ 0 7 := O0_u78_.trans O0_τ
          replace p79_x0 : r77.toInt = (-2 : Int) := p79_x0
          exact sf_ret ⟨Iu78, Fu78, O83_u78, O0_u78, ti_lo _, ti_hi _⟩
        have C74 : ¬ (0 : Int) = (0 : Int) := ti_ne c74
        exfalso; omega
      have C73 : ¬ (0 : Int) = (0 : Int) := ti_ne c73
      exfalso; omega
    have C72 : x3.toInt < (2 : Int) := ti_nle c72
    refine sf_ret ?_
    refine sf_in ?_
    rw [f_X3_firstOf_e]
    refine sf_ite (fun c80 => ?_) (fun c80 => ?_)
    · have C80 : (0 : Int) = (0 : Int) := ti_eq c80
      refine sf_ret ?_
      refine sf_in ?_
      rw [f_X3_firstOf_e]
      refine sf_ite (fun c81 => ?_) (fun c81 => ?_)
      · have C81 : (0 : Int) = (0 : Int) := ti_eq c81
        refine sf_ret ?_
        refine sf_ite (fun c82 => ?_) (fun c82 => ?_)
        · have C82 : (0 : Int) = (0 : Int) := ti_eq c82
          have m83 := wx_X0_2 hI wt_h1
          refine sf_ite (fun c84 => ?_) (fun c84 => ?_)
          · have C84 : (τ 1 2).toInt < (5 : Int) := ti_lt c84
            rw [j_X3_newcomer_44_e]
            refine sf_ite (fun c85 => ?_) (fun c85 => ?_)
            · have C85 : (0 : Int) = (0 : Int) := ti_eq c85
              refine sf_bnd (s_X0_takeFrom hF wt_h24 wt_h1 hI) (fun r86 u87 p88 => ?_)
              obtain ⟨Iu87, Fu87_, O83_u87_, O0_u87_, -⟩ := p88
              have Fu87 : ∀ k, 101 ≤ k → u87 k = τ k := fun k hk => (Fu87_ k hk).trans (Fτ k hk)
              have O83_u87 : u87 83 1 = τ 83 1 := O83_u87_.trans O83_τ
              have O0_u87 : u87 0 7 = τ 0 7 := O0_u87_.trans O0_τ
              refine sf_bnd (s_X0_addLooker hF wt_h24 Iu87) (fun r89 u90 p91 => ?_)
              obtain ⟨Iu90, Fu90_, O83_u90_, O0_u90_, p91_1, p91_2⟩ := p91
              have Fu90 : ∀ k, 101 ≤ k → u90 k = τ k := fun k hk => (Fu90_ k hk).trans (Fu87 k hk)
              have O83_u90 : u90 83 1 = τ 83 1 := O83_u90_.trans O83_u87
              have O0_u90 : u90 0 7 = τ 0 7 := O0_u90_.trans O0_u87
              have hb_r89 : r89 = 0 ∨ r89 = 1 := wi_bool p91_1 p91_2
              have m93 := wx_X0_2 Iu90 wt_h24
              have t94 : ((u90 24 2) - (1 : Int32)).toInt = (u90 24 2).toInt - (1 : Int) := ti_sub (show -2147483648 ≤ (u90 24 2).toInt - (1 : Int) by omega) (show (u90 24 2).toInt - (1 : Int) ≤ 2147483647 by omega)
              refine sf_lt (fun z92 hz92 => ?_)
              have hz92_ : z92.toInt = ((u90 24 2) - (1 : Int32)).toInt := (show z92.toInt = ((u90 24 2) - (1 : Int32)).toInt from congrArg Int32.toInt hz92)
              refine sf_bnd (s_X0_post hF wt_h24 Iu90) (fun r95 u96 p97 => ?_)
              obtain ⟨Iu96, Fu96_, O83_u96_, O0_u96_, p97_1, p97_2⟩ := p97
              have Fu96 : ∀ k, 101 ≤ k → u96 k = τ k := fun k hk => (Fu96_ k hk).trans (Fu90 k hk)
              have O83_u96 : u96 83 1 = τ 83 1 := O83_u96_.trans O83_u90
              have O0_u96 : u96 0 7 = τ 0 7 := O0_u96_.trans O0_u90
              have hb_r95 : r95 = 0 ∨ r95 = 1 := wi_bool p97_1 p97_2
              refine sf_bnd (s_X0_reckon hF wt_h24 Iu96) (fun r98 u99 p100 => ?_)
              obtain ⟨Iu99, Fu99_, O83_u99_, O0_u99_, -⟩ := p100
              have Fu99 : ∀ k, 101 ≤ k → u99 k = τ k := fun k hk => (Fu99_ k hk).trans (Fu96 k hk)
              have O83_u99 : u99 83 1 = τ 83 1 := O83_u99_.trans O83_u96
              have O0_u99 : u99 0 7 = τ 0 7 := O0_u99_.trans O0_u96
              have l_0 : (0 : Int32).toInt = 0 := rfl
              exact sl_X3_newcomer_112 hF (by omega) (by omega) (by omega) (by omega) _ _ _ Iu99 Fu99 O83_u99 O0_u99 (by omega) (by decide) (by decide)
            have C85 : ¬ (0 : Int) = (0 : Int) := ti_ne c85
            exfalso; omega
          have C84 : (5 : Int) ≤ (τ 1 2).toInt := ti_nlt c84
          rw [j_X3_newcomer_44_e]
          refine sf_ite (fun c101 => ?_) (fun c101 => ?_)
          · have C101 : (-3 : Int) = (0 : Int) := ti_eq c101
            exfalso; omega
          have C101 : ¬ (-3 : Int) = (0 : Int) := ti_ne c101
          refine sf_bnd (s_X3_refuse hF hI (by decide) (by decide)) (fun r102 u103 p104 => ?_)
          obtain ⟨Iu103, Fu103_, O83_u103_, O0_u103_, p104_1, p104_2, p104_x0⟩ := p104
          have Fu103 : ∀ k, 101 ≤ k → u103 k = τ k := fun k hk => (Fu103_ k hk).trans (Fτ k hk)
          have O83_u103 : u103 83 1 = τ 83 1 := O83_u103_.trans O83_τ
          have O0_u103 : u103 0 7 = τ 0 7 := O0_u103_.trans O0_τ
          replace p104_x0 : r102.toInt = (-3 : Int) := p104_x0
          exact sf_ret ⟨Iu103, Fu103, O83_u103, O0_u103, ti_lo _, ti_hi _⟩
        have C82 : ¬ (0 : Int) = (0 : Int) := ti_ne c82
        exfalso; omega
      have C81 : ¬ (0 : Int) = (0 : Int) := ti_ne c81
      exfalso; omega
    have C80 : ¬ (0 : Int) = (0 : Int) := ti_ne c80
    exfalso; omega
  obtain rfl := p5
  refine sf_in ?_
  rw [f_X3_notBelow_e]
  have b105 := ti_lo x1
  have b106 := ti_hi x1
  refine sf_ite (fun c107 => ?_) (fun c107 => ?_)
  · have C107 : x1.toInt < (0 : Int) := ti_lt c107
    rw [j_X3_notBelow_13_e]
    refine sf_ret ?_
    refine sf_in ?_
    rw [f_X3_notBelow_e]
    have b108 := ti_lo x3
    have b109 := ti_hi x3
    refine sf_ite (fun c110 => ?_) (fun c110 => ?_)
    · have C110 : x3.toInt < (0 : Int) := ti_lt c110
      rw [j_X3_notBelow_13_e]
      refine sf_ret ?_
      refine sf_in ?_
      rw [f_X3_firstOf_e]
      refine sf_ite (fun c111 => ?_) (fun c111 => ?_)
      · have C111 : (-2 : Int) = (0 : Int) := ti_eq c111
        exfalso; omega
      have C111 : ¬ (-2 : Int) = (0 : Int) := ti_ne c111
      refine sf_ret ?_
      refine sf_in ?_
      rw [f_X3_firstOf_e]
      refine sf_ite (fun c112 => ?_) (fun c112 => ?_)
      · have C112 : (-1 : Int) = (0 : Int) := ti_eq c112
        exfalso; omega
      have C112 : ¬ (-1 : Int) = (0 : Int) := ti_ne c112
      refine sf_ret ?_
      refine sf_ite (fun c113 => ?_) (fun c113 => ?_)
      · have C113 : (-1 : Int) = (0 : Int) := ti_eq c113
        exfalso; omega
      have C113 : ¬ (-1 : Int) = (0 : Int) := ti_ne c113
      rw [j_X3_newcomer_44_e]
      refine sf_ite (fun c114 => ?_) (fun c114 => ?_)
      · have C114 : (-1 : Int) = (0 : Int) := ti_eq c114
        exfalso; omega
      have C114 : ¬ (-1 : Int) = (0 : Int) := ti_ne c114
      refine sf_bnd (s_X3_refuse hF hI (by decide) (by decide)) (fun r115 u116 p117 => ?_)
      obtain ⟨Iu116, Fu116_, O83_u116_, O0_u116_, p117_1, p117_2, p117_x0⟩ := p117
      have Fu116 : ∀ k, 101 ≤ k → u116 k = τ k := fun k hk => (Fu116_ k hk).trans (Fτ k hk)
      have O83_u116 : u116 83 1 = τ 83 1 := O83_u116_.trans O83_τ
      have O0_u116 : u116 0 7 = τ 0 7 := O0_u116_.trans O0_τ
      replace p117_x0 : r115.toInt = (-1 : Int) := p117_x0
      exact sf_ret ⟨Iu116, Fu116, O83_u116, O0_u116, ti_lo _, ti_hi _⟩
    have C110 : (0 : Int) ≤ x3.toInt := ti_nlt c110
    refine sf_ite (fun c118 => ?_) (fun c118 => ?_)
    · have C118 : (2 : Int) ≤ x3.toInt := ti_le c118
      rw [j_X3_notBelow_13_e]
      refine sf_ret ?_
      refine sf_in ?_
      rw [f_X3_firstOf_e]
      refine sf_ite (fun c119 => ?_) (fun c119 => ?_)
      · have C119 : (-2 : Int) = (0 : Int) := ti_eq c119
        exfalso; omega
      have C119 : ¬ (-2 : Int) = (0 : Int) := ti_ne c119
      refine sf_ret ?_
      refine sf_in ?_
      rw [f_X3_firstOf_e]
      refine sf_ite (fun c120 => ?_) (fun c120 => ?_)
      · have C120 : (-1 : Int) = (0 : Int) := ti_eq c120
        exfalso; omega
      have C120 : ¬ (-1 : Int) = (0 : Int) := ti_ne c120
      refine sf_ret ?_
      refine sf_ite (fun c121 => ?_) (fun c121 => ?_)
      · have C121 : (-1 : Int) = (0 : Int) := ti_eq c121
        exfalso; omega
      have C121 : ¬ (-1 : Int) = (0 : Int) := ti_ne c121
      rw [j_X3_newcomer_44_e]
      refine sf_ite (fun c122 => ?_) (fun c122 => ?_)
      · have C122 : (-1 : Int) = (0 : Int) := ti_eq c122
        exfalso; omega
      have C122 : ¬ (-1 : Int) = (0 : Int) := ti_ne c122
      refine sf_bnd (s_X3_refuse hF hI (by decide) (by decide)) (fun r123 u124 p125 => ?_)
      obtain ⟨Iu124, Fu124_, O83_u124_, O0_u124_, p125_1, p125_2, p125_x0⟩ := p125
      have Fu124 : ∀ k, 101 ≤ k → u124 k = τ k := fun k hk => (Fu124_ k hk).trans (Fτ k hk)
      have O83_u124 : u124 83 1 = τ 83 1 := O83_u124_.trans O83_τ
      have O0_u124 : u124 0 7 = τ 0 7 := O0_u124_.trans O0_τ
      replace p125_x0 : r123.toInt = (-1 : Int) := p125_x0
      exact sf_ret ⟨Iu124, Fu124, O83_u124, O0_u124, ti_lo _, ti_hi _⟩
    have C118 : x3.toInt < (2 : Int) := ti_nle c118
    refine sf_ret ?_
    refine sf_in ?_
    rw [f_X3_firstOf_e]
    refine sf_ite (fun c126 => ?_) (fun c126 => ?_)
    · have C126 : (-2 : Int) = (0 : Int) := ti_eq c126
      exfalso; omega
    have C126 : ¬ (-2 : Int) = (0 : Int) := ti_ne c126
    refine sf_ret ?_
    refine sf_in ?_
    rw [f_X3_firstOf_e]
    refine sf_ite (fun c127 => ?_) (fun c127 => ?_)
    · have C127 : (-1 : Int) = (0 : Int) := ti_eq c127
      exfalso; omega
    have C127 : ¬ (-1 : Int) = (0 : Int) := ti_ne c127
    refine sf_ret ?_
    refine sf_ite (fun c128 => ?_) (fun c128 => ?_)
    · have C128 : (-1 : Int) = (0 : Int) := ti_eq c128
      exfalso; omega
    have C128 : ¬ (-1 : Int) = (0 : Int) := ti_ne c128
    rw [j_X3_newcomer_44_e]
    refine sf_ite (fun c129 => ?_) (fun c129 => ?_)
    · have C129 : (-1 : Int) = (0 : Int) := ti_eq c129
      exfalso; omega
    have C129 : ¬ (-1 : Int) = (0 : Int) := ti_ne c129
    refine sf_bnd (s_X3_refuse hF hI (by decide) (by decide)) (fun r130 u131 p132 => ?_)
    obtain ⟨Iu131, Fu131_, O83_u131_, O0_u131_, p132_1, p132_2, p132_x0⟩ := p132
    have Fu131 : ∀ k, 101 ≤ k → u131 k = τ k := fun k hk => (Fu131_ k hk).trans (Fτ k hk)
    have O83_u131 : u131 83 1 = τ 83 1 := O83_u131_.trans O83_τ
    have O0_u131 : u131 0 7 = τ 0 7 := O0_u131_.trans O0_τ
    replace p132_x0 : r130.toInt = (-1 : Int) := p132_x0
    exact sf_ret ⟨Iu131, Fu131, O83_u131, O0_u131, ti_lo _, ti_hi _⟩
  have C107 : (0 : Int) ≤ x1.toInt := ti_nlt c107
  refine sf_ite (fun c133 => ?_) (fun c133 => ?_)
  · have C133 : (6 : Int) ≤ x1.toInt := ti_le c133
    rw [j_X3_notBelow_13_e]
    refine sf_ret ?_
    refine sf_in ?_
    rw [f_X3_notBelow_e]
    have b134 := ti_lo x3
    have b135 := ti_hi x3
    refine sf_ite (fun c136 => ?_) (fun c136 => ?_)
    · have C136 : x3.toInt < (0 : Int) := ti_lt c136
      rw [j_X3_notBelow_13_e]
      refine sf_ret ?_
      refine sf_in ?_
      rw [f_X3_firstOf_e]
      refine sf_ite (fun c137 => ?_) (fun c137 => ?_)
      · have C137 : (-2 : Int) = (0 : Int) := ti_eq c137
        exfalso; omega
      have C137 : ¬ (-2 : Int) = (0 : Int) := ti_ne c137
      refine sf_ret ?_
      refine sf_in ?_
      rw [f_X3_firstOf_e]
      refine sf_ite (fun c138 => ?_) (fun c138 => ?_)
      · have C138 : (-1 : Int) = (0 : Int) := ti_eq c138
        exfalso; omega
      have C138 : ¬ (-1 : Int) = (0 : Int) := ti_ne c138
      refine sf_ret ?_
      refine sf_ite (fun c139 => ?_) (fun c139 => ?_)
      · have C139 : (-1 : Int) = (0 : Int) := ti_eq c139
        exfalso; omega
      have C139 : ¬ (-1 : Int) = (0 : Int) := ti_ne c139
      rw [j_X3_newcomer_44_e]
      refine sf_ite (fun c140 => ?_) (fun c140 => ?_)
      · have C140 : (-1 : Int) = (0 : Int) := ti_eq c140
        exfalso; omega
      have C140 : ¬ (-1 : Int) = (0 : Int) := ti_ne c140
      refine sf_bnd (s_X3_refuse hF hI (by decide) (by decide)) (fun r141 u142 p143 => ?_)
      obtain ⟨Iu142, Fu142_, O83_u142_, O0_u142_, p143_1, p143_2, p143_x0⟩ := p143
      have Fu142 : ∀ k, 101 ≤ k → u142 k = τ k := fun k hk => (Fu142_ k hk).trans (Fτ k hk)
      have O83_u142 : u142 83 1 = τ 83 1 := O83_u142_.trans O83_τ
      have O0_u142 : u142 0 7 = τ 0 7 := O0_u142_.trans O0_τ
      replace p143_x0 : r141.toInt = (-1 : Int) := p143_x0
      exact sf_ret ⟨Iu142, Fu142, O83_u142, O0_u142, ti_lo _, ti_hi _⟩
    have C136 : (0 : Int) ≤ x3.toInt := ti_nlt c136
    refine sf_ite (fun c144 => ?_) (fun c144 => ?_)
    · have C144 : (2 : Int) ≤ x3.toInt := ti_le c144
      rw [j_X3_notBelow_13_e]
      refine sf_ret ?_
      refine sf_in ?_
      rw [f_X3_firstOf_e]
      refine sf_ite (fun c145 => ?_) (fun c145 => ?_)
      · have C145 : (-2 : Int) = (0 : Int) := ti_eq c145
        exfalso; omega
      have C145 : ¬ (-2 : Int) = (0 : Int) := ti_ne c145
      refine sf_ret ?_
      refine sf_in ?_
      rw [f_X3_firstOf_e]
      refine sf_ite (fun c146 => ?_) (fun c146 => ?_)
      · have C146 : (-1 : Int) = (0 : Int) := ti_eq c146
        exfalso; omega
      have C146 : ¬ (-1 : Int) = (0 : Int) := ti_ne c146
      refine sf_ret ?_
      refine sf_ite (fun c147 => ?_) (fun c147 => ?_)
      · have C147 : (-1 : Int) = (0 : Int) := ti_eq c147
        exfalso; omega
      have C147 : ¬ (-1 : Int) = (0 : Int) := ti_ne c147
      rw [j_X3_newcomer_44_e]
      refine sf_ite (fun c148 => ?_) (fun c148 => ?_)
      · have C148 : (-1 : Int) = (0 : Int) := ti_eq c148
        exfalso; omega
      have C148 : ¬ (-1 : Int) = (0 : Int) := ti_ne c148
      refine sf_bnd (s_X3_refuse hF hI (by decide) (by decide)) (fun r149 u150 p151 => ?_)
      obtain ⟨Iu150, Fu150_, O83_u150_, O0_u150_, p151_1, p151_2, p151_x0⟩ := p151
      have Fu150 : ∀ k, 101 ≤ k → u150 k = τ k := fun k hk => (Fu150_ k hk).trans (Fτ k hk)
      have O83_u150 : u150 83 1 = τ 83 1 := O83_u150_.trans O83_τ
      have O0_u150 : u150 0 7 = τ 0 7 := O0_u150_.trans O0_τ
      replace p151_x0 : r149.toInt = (-1 : Int) := p151_x0
      exact sf_ret ⟨Iu150, Fu150, O83_u150, O0_u150, ti_lo _, ti_hi _⟩
    have C144 : x3.toInt < (2 : Int) := ti_nle c144
    refine sf_ret ?_
    refine sf_in ?_
    rw [f_X3_firstOf_e]
    refine sf_ite (fun c152 => ?_) (fun c152 => ?_)
    · have C152 : (-2 : Int) = (0 : Int) := ti_eq c152
      exfalso; omega
    have C152 : ¬ (-2 : Int) = (0 : Int) := ti_ne c152
    refine sf_ret ?_
    refine sf_in ?_
    rw [f_X3_firstOf_e]
    refine sf_ite (fun c153 => ?_) (fun c153 => ?_)
    · have C153 : (-1 : Int) = (0 : Int) := ti_eq c153
      exfalso; omega
    have C153 : ¬ (-1 : Int) = (0 : Int) := ti_ne c153
    refine sf_ret ?_
    refine sf_ite (fun c154 => ?_) (fun c154 => ?_)
    · have C154 : (-1 : Int) = (0 : Int) := ti_eq c154
      exfalso; omega
    have C154 : ¬ (-1 : Int) = (0 : Int) := ti_ne c154
    rw [j_X3_newcomer_44_e]
    refine sf_ite (fun c155 => ?_) (fun c155 => ?_)
    · have C155 : (-1 : Int) = (0 : Int) := ti_eq c155
      exfalso; omega
    have C155 : ¬ (-1 : Int) = (0 : Int) := ti_ne c155
    refine sf_bnd (s_X3_refuse hF hI (by decide) (by decide)) (fun r156 u157 p158 => ?_)
    obtain ⟨Iu157, Fu157_, O83_u157_, O0_u157_, p158_1, p158_2, p158_x0⟩ := p158
    have Fu157 : ∀ k, 101 ≤ k → u157 k = τ k := fun k hk => (Fu157_ k hk).trans (Fτ k hk)
    have O83_u157 : u157 83 1 = τ 83 1 := O83_u157_.trans O83_τ
    have O0_u157 : u157 0 7 = τ 0 7 := O0_u157_.trans O0_τ
    replace p158_x0 : r156.toInt = (-1 : Int) := p158_x0
    exact sf_ret ⟨Iu157, Fu157, O83_u157, O0_u157, ti_lo _, ti_hi _⟩
  have C133 : x1.toInt < (6 : Int) := ti_nle c133
  refine sf_ret ?_
  refine sf_in ?_
  rw [f_X3_notBelow_e]
  have b159 := ti_lo x3
  have b160 := ti_hi x3
  refine sf_ite (fun c161 => ?_) (fun c161 => ?_)
  · have C161 : x3.toInt < (0 : Int) := ti_lt c161
    rw [j_X3_notBelow_13_e]
    refine sf_ret ?_
    refine sf_in ?_
    rw [f_X3_firstOf_e]
    refine sf_ite (fun c162 => ?_) (fun c162 => ?_)
    · have C162 : (0 : Int) = (0 : Int) := ti_eq c162
      refine sf_ret ?_
      refine sf_in ?_
      rw [f_X3_firstOf_e]
      refine sf_ite (fun c163 => ?_) (fun c163 => ?_)
      · have C163 : (-1 : Int) = (0 : Int) := ti_eq c163
        exfalso; omega
      have C163 : ¬ (-1 : Int) = (0 : Int) := ti_ne c163
      refine sf_ret ?_
      refine sf_ite (fun c164 => ?_) (fun c164 => ?_)
      · have C164 : (-1 : Int) = (0 : Int) := ti_eq c164
        exfalso; omega
      have C164 : ¬ (-1 : Int) = (0 : Int) := ti_ne c164
      rw [j_X3_newcomer_44_e]
      refine sf_ite (fun c165 => ?_) (fun c165 => ?_)
      · have C165 : (-1 : Int) = (0 : Int) := ti_eq c165
        exfalso; omega
      have C165 : ¬ (-1 : Int) = (0 : Int) := ti_ne c165
      refine sf_bnd (s_X3_refuse hF hI (by decide) (by decide)) (fun r166 u167 p168 => ?_)
      obtain ⟨Iu167, Fu167_, O83_u167_, O0_u167_, p168_1, p168_2, p168_x0⟩ := p168
      have Fu167 : ∀ k, 101 ≤ k → u167 k = τ k := fun k hk => (Fu167_ k hk).trans (Fτ k hk)
      have O83_u167 : u167 83 1 = τ 83 1 := O83_u167_.trans O83_τ
      have O0_u167 : u167 0 7 = τ 0 7 := O0_u167_.trans O0_τ
      replace p168_x0 : r166.toInt = (-1 : Int) := p168_x0
      exact sf_ret ⟨Iu167, Fu167, O83_u167, O0_u167, ti_lo _, ti_hi _⟩
    have C162 : ¬ (0 : Int) = (0 : Int) := ti_ne c162
    exfalso; omega
  have C161 : (0 : Int) ≤ x3.toInt := ti_nlt c161
  refine sf_ite (fun c169 => ?_) (fun c169 => ?_)
  · have C169 : (2 : Int) ≤ x3.toInt := ti_le c169
    rw [j_X3_notBelow_13_e]
    refine sf_ret ?_
    refine sf_in ?_
    rw [f_X3_firstOf_e]
    refine sf_ite (fun c170 => ?_) (fun c170 => ?_)
    · have C170 : (0 : Int) = (0 : Int) := ti_eq c170
      refine sf_ret ?_
      refine sf_in ?_
      rw [f_X3_firstOf_e]
      refine sf_ite (fun c171 => ?_) (fun c171 => ?_)
      · have C171 : (-1 : Int) = (0 : Int) := ti_eq c171
        exfalso; omega
      have C171 : ¬ (-1 : Int) = (0 : Int) := ti_ne c171
      refine sf_ret ?_
      refine sf_ite (fun c172 => ?_) (fun c172 => ?_)
      · have C172 : (-1 : Int) = (0 : Int) := ti_eq c172
        exfalso; omega
      have C172 : ¬ (-1 : Int) = (0 : Int) := ti_ne c172
      rw [j_X3_newcomer_44_e]
      refine sf_ite (fun c173 => ?_) (fun c173 => ?_)
      · have C173 : (-1 : Int) = (0 : Int) := ti_eq c173
        exfalso; omega
      have C173 : ¬ (-1 : Int) = (0 : Int) := ti_ne c173
      refine sf_bnd (s_X3_refuse hF hI (by decide) (by decide)) (fun r174 u175 p176 => ?_)
      obtain ⟨Iu175, Fu175_, O83_u175_, O0_u175_, p176_1, p176_2, p176_x0⟩ := p176
      have Fu175 : ∀ k, 101 ≤ k → u175 k = τ k := fun k hk => (Fu175_ k hk).trans (Fτ k hk)
      have O83_u175 : u175 83 1 = τ 83 1 := O83_u175_.trans O83_τ
      have O0_u175 : u175 0 7 = τ 0 7 := O0_u175_.trans O0_τ
      replace p176_x0 : r174.toInt = (-1 : Int) := p176_x0
      exact sf_ret ⟨Iu175, Fu175, O83_u175, O0_u175, ti_lo _, ti_hi _⟩
    have C170 : ¬ (0 : Int) = (0 : Int) := ti_ne c170
    exfalso; omega
  have C169 : x3.toInt < (2 : Int) := ti_nle c169
  refine sf_ret ?_
  refine sf_in ?_
  rw [f_X3_firstOf_e]
  refine sf_ite (fun c177 => ?_) (fun c177 => ?_)
  · have C177 : (0 : Int) = (0 : Int) := ti_eq c177
    refine sf_ret ?_
    refine sf_in ?_
    rw [f_X3_firstOf_e]
    refine sf_ite (fun c178 => ?_) (fun c178 => ?_)
    · have C178 : (-1 : Int) = (0 : Int) := ti_eq c178
      exfalso; omega
    have C178 : ¬ (-1 : Int) = (0 : Int) := ti_ne c178
    refine sf_ret ?_
    refine sf_ite (fun c179 => ?_) (fun c179 => ?_)
    · have C179 : (-1 : Int) = (0 : Int) := ti_eq c179
      exfalso; omega
    have C179 : ¬ (-1 : Int) = (0 : Int) := ti_ne c179
    rw [j_X3_newcomer_44_e]
    refine sf_ite (fun c180 => ?_) (fun c180 => ?_)
    · have C180 : (-1 : Int) = (0 : Int) := ti_eq c180
      exfalso; omega
    have C180 : ¬ (-1 : Int) = (0 : Int) := ti_ne c180
    refine sf_bnd (s_X3_refuse hF hI (by decide) (by decide)) (fun r181 u182 p183 => ?_)
    obtain ⟨Iu182, Fu182_, O83_u182_, O0_u182_, p183_1, p183_2, p183_x0⟩ := p183
    have Fu182 : ∀ k, 101 ≤ k → u182 k = τ k := fun k hk => (Fu182_ k hk).trans (Fτ k hk)
    have O83_u182 : u182 83 1 = τ 83 1 := O83_u182_.trans O83_τ
    have O0_u182 : u182 0 7 = τ 0 7 := O0_u182_.trans O0_τ
    replace p183_x0 : r181.toInt = (-1 : Int) := p183_x0
    exact sf_ret ⟨Iu182, Fu182, O83_u182, O0_u182, ti_lo _, ti_hi _⟩
  have C177 : ¬ (0 : Int) = (0 : Int) := ti_ne c177
  exfalso; omega
