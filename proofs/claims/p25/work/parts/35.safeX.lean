set_option maxHeartbeats 4000000 in
set_option maxRecDepth 100000 in
theorem sl_X3_mostSeen_31 {F : Nat} (hF : 100000 ≤ F) {x1 : Int32} {τ : Mem} (x1_1 : 0 ≤ x1.toInt) (x1_2 : x1.toInt ≤ 1) : ∀ (N : Nat) (x3 : Int32) (x4 : Int32) (x5 : Int32) (σ : Mem), wiX σ → (∀ k, 101 ≤ k → σ k = τ k) → σ 83 1 = τ 83 1 → σ 0 7 = τ 0 7 → 8 < x5.toInt + N → 0 ≤ x3.toInt → x3.toInt ≤ 7 → 0 ≤ x4.toInt → x4.toInt ≤ 2147483647 → 0 ≤ x5.toInt → x5.toInt ≤ 8 → sf (lp_X3_mostSeen_31 F x1 N x3 x4 x5 σ) (fun r s => wiX s ∧ (∀ k, 101 ≤ k → s k = τ k) ∧ s 83 1 = τ 83 1 ∧ s 0 7 = τ 0 7 ∧ -2147483648 ≤ r.toInt ∧ r.toInt ≤ 2147483647) := by
  intro N
  induction N with
  | zero => intro x3 x4 x5 σ hI Fσ O83_σ O0_σ hN x3_1 x3_2 x4_1 x4_2 x5_1 x5_2; exfalso; omega
  | succ N ih =>
    intro x3 x4 x5 σ hI Fσ O83_σ O0_σ hN x3_1 x3_2 x4_1 x4_2 x5_1 x5_2
    rw [lp_X3_mostSeen_31_s]
    refine sf_ite (fun c1 => ?_) (fun c1 => ?_)
    · have C1 : (8 : Int) ≤ x5.toInt := ti_le c1
      refine sf_ite (fun c2 => ?_) (fun c2 => ?_)
      · have C2 : x1.toInt = (0 : Int) := ti_eq c2
        exact sf_ret ⟨hI, Fσ, O83_σ, O0_σ, ti_lo _, ti_hi _⟩
      have C2 : ¬ x1.toInt = (0 : Int) := ti_ne c2
      have b3 := ti_lo x4
      have b4 := ti_hi x4
      exact sf_ret ⟨hI, Fσ, O83_σ, O0_σ, ti_lo _, ti_hi _⟩
    have C1 : x5.toInt < (8 : Int) := ti_nle c1
    refine sf_bnd (s_X0_gainOfAll hF wt_h1 hI (by omega) (by omega)) (fun r5 u6 p7 => ?_)
    obtain ⟨e9, p7_1, p7_2⟩ := p7
    have e9 := e9.symm
    subst e9
    have b8 := ti_lo r5
    have b9 := ti_hi r5
    have b10 := ti_lo x4
    have b11 := ti_hi x4
    refine sf_ite (fun c12 => ?_) (fun c12 => ?_)
    · have C12 : r5.toInt ≤ x4.toInt := ti_le c12
      rw [j_X3_mostSeen_63_e]
      have t13 : (x5 + (1 : Int32)).toInt = x5.toInt + (1 : Int) := ti_add (show -2147483648 ≤ x5.toInt + (1 : Int) by omega) (show x5.toInt + (1 : Int) ≤ 2147483647 by omega)
      exact ih _ _ _ _ hI Fσ O83_σ O0_σ (by omega) (by omega) (by omega) (by omega) (by omega) (by omega) (by omega)
    have C12 : x4.toInt < r5.toInt := ti_nle c12
    rw [j_X3_mostSeen_63_e]
    have t14 : (x5 + (1 : Int32)).toInt = x5.toInt + (1 : Int) := ti_add (show -2147483648 ≤ x5.toInt + (1 : Int) by omega) (show x5.toInt + (1 : Int) ≤ 2147483647 by omega)
    exact ih _ _ _ _ hI Fσ O83_σ O0_σ (by omega) (by omega) (by omega) (by omega) (by omega) (by omega) (by omega)
set_option maxHeartbeats 4000000 in
set_option maxRecDepth 100000 in
theorem s_X3_mostSeen {F : Nat} (hF : 100000 ≤ F) {x1 : Int32} {τ : Mem} (hI : wiX τ) : sf (f_X3_mostSeen F x1 τ) (fun r s => wiX s ∧ (∀ k, 101 ≤ k → s k = τ k) ∧ s 83 1 = τ 83 1 ∧ s 0 7 = τ 0 7 ∧ -2147483648 ≤ r.toInt ∧ r.toInt ≤ 2147483647) := by
  have Fτ : ∀ k, 101 ≤ k → τ k = τ k := fun _ _ => rfl
  have O83_τ : τ 83 1 = τ 83 1 := rfl
  have O0_τ : τ 0 7 = τ 0 7 := rfl
  rw [f_X3_mostSeen_e]
  refine sf_in ?_
  rw [f_X3_notBelow_e]
  have b1 := ti_lo x1
  have b2 := ti_hi x1
  refine sf_ite (fun c3 => ?_) (fun c3 => ?_)
  · have C3 : x1.toInt < (0 : Int) := ti_lt c3
    rw [j_X3_notBelow_13_e]
    refine sf_ret ?_
    refine sf_ite (fun c4 => ?_) (fun c4 => ?_)
    · have C4 : (-2 : Int) = (0 : Int) := ti_eq c4
      exfalso; omega
    have C4 : ¬ (-2 : Int) = (0 : Int) := ti_ne c4
    refine sf_bnd (s_X3_refuse hF hI (by decide) (by decide)) (fun r5 u6 p7 => ?_)
    obtain ⟨Iu6, Fu6_, O83_u6_, O0_u6_, p7_1, p7_2, p7_x0⟩ := p7
    have Fu6 : ∀ k, 101 ≤ k → u6 k = τ k := fun k hk => (Fu6_ k hk).trans (Fτ k hk)
    have O83_u6 : u6 83 1 = τ 83 1 := O83_u6_.trans O83_τ
    have O0_u6 : u6 0 7 = τ 0 7 := O0_u6_.trans O0_τ
    replace p7_x0 : r5.toInt = (-2 : Int) := p7_x0
    exact sf_ret ⟨Iu6, Fu6, O83_u6, O0_u6, ti_lo _, ti_hi _⟩
  have C3 : (0 : Int) ≤ x1.toInt := ti_nlt c3
  refine sf_ite (fun c8 => ?_) (fun c8 => ?_)
  · have C8 : (2 : Int) ≤ x1.toInt := ti_le c8
    rw [j_X3_notBelow_13_e]
    refine sf_ret ?_
    refine sf_ite (fun c9 => ?_) (fun c9 => ?_)
    · have C9 : (-2 : Int) = (0 : Int) := ti_eq c9
      exfalso; omega
    have C9 : ¬ (-2 : Int) = (0 : Int) := ti_ne c9
    refine sf_bnd (s_X3_refuse hF hI (by decide) (by decide)) (fun r10 u11 p12 => ?_)
    obtain ⟨Iu11, Fu11_, O83_u11_, O0_u11_, p12_1, p12_2, p12_x0⟩ := p12
    have Fu11 : ∀ k, 101 ≤ k → u11 k = τ k := fun k hk => (Fu11_ k hk).trans (Fτ k hk)
    have O83_u11 : u11 83 1 = τ 83 1 := O83_u11_.trans O83_τ
    have O0_u11 : u11 0 7 = τ 0 7 := O0_u11_.trans O0_τ
    replace p12_x0 : r10.toInt = (-2 : Int) := p12_x0
    exact sf_ret ⟨Iu11, Fu11, O83_u11, O0_u11, ti_lo _, ti_hi _⟩
  have C8 : x1.toInt < (2 : Int) := ti_nle c8
  refine sf_ret ?_
  refine sf_ite (fun c13 => ?_) (fun c13 => ?_)
  · have C13 : (0 : Int) = (0 : Int) := ti_eq c13
    refine sf_bnd (s_X0_reckon hF wt_h1 hI) (fun r14 u15 p16 => ?_)
    obtain ⟨Iu15, Fu15_, O83_u15_, O0_u15_, -⟩ := p16
    have Fu15 : ∀ k, 101 ≤ k → u15 k = τ k := fun k hk => (Fu15_ k hk).trans (Fτ k hk)
    have O83_u15 : u15 83 1 = τ 83 1 := O83_u15_.trans O83_τ
    have O0_u15 : u15 0 7 = τ 0 7 := O0_u15_.trans O0_τ
    have l_0 : (0 : Int32).toInt = 0 := rfl
    exact sl_X3_mostSeen_31 hF (by omega) (by omega) _ _ _ _ _ Iu15 Fu15 O83_u15 O0_u15 (by omega) (by decide) (by decide) (by decide) (by decide) (by decide) (by decide)
  have C13 : ¬ (0 : Int) = (0 : Int) := ti_ne c13
  exfalso; omega
set_option maxHeartbeats 4000000 in
set_option maxRecDepth 100000 in
theorem sl_X3_duels_30 {F : Nat} (hF : 100000 ≤ F) {x1 : Int32} {x2 : Int32} {τ : Mem} (x1_1 : 0 ≤ x1.toInt) (x1_2 : x1.toInt ≤ 4) (x2_1 : 0 ≤ x2.toInt) (x2_2 : x2.toInt ≤ 4) : ∀ (N : Nat) (x4 : Int32) (x5 : Int32) (σ : Mem), wiX σ → (∀ k, 101 ≤ k → σ k = τ k) → σ 83 1 = τ 83 1 → σ 0 7 = τ 0 7 → 8 < x5.toInt + N → 0 ≤ x5.toInt → x5.toInt ≤ 8 → sf (lp_X3_duels_30 F x1 x2 N x4 x5 σ) (fun r s => wiX s ∧ (∀ k, 101 ≤ k → s k = τ k) ∧ s 83 1 = τ 83 1 ∧ s 0 7 = τ 0 7 ∧ -2147483648 ≤ r.toInt ∧ r.toInt ≤ 2147483647) := by
  intro N
  induction N with
  | zero => intro x4 x5 σ hI Fσ O83_σ O0_σ hN x5_1 x5_2; exfalso; omega
  | succ N ih =>
    intro x4 x5 σ hI Fσ O83_σ O0_σ hN x5_1 x5_2
    rw [lp_X3_duels_30_s]
    refine sf_ite (fun c1 => ?_) (fun c1 => ?_)
    · have C1 : (8 : Int) ≤ x5.toInt := ti_le c1
      have b2 := ti_lo x4
      have b3 := ti_hi x4
      exact sf_ret ⟨hI, Fσ, O83_σ, O0_σ, ti_lo _, ti_hi _⟩
    have C1 : x5.toInt < (8 : Int) := ti_nle c1
    refine sf_chk (ti_in (by omega) (by omega)) ?_
    have v4 : Int32.toNatClampNeg x1 = x1.toInt.toNat := rfl
    refine sf_chk (ti_in (by omega) (by omega)) ?_
    have v5 : Int32.toNatClampNeg x5 = x5.toInt.toNat := rfl
    have b6 := ti_lo (σ ((1 + 18) + (Int32.toNatClampNeg x1)) (Int32.toNatClampNeg x5))
    have b7 := ti_hi (σ ((1 + 18) + (Int32.toNatClampNeg x1)) (Int32.toNatClampNeg x5))
    refine sf_ite (fun c8 => ?_) (fun c8 => ?_)
    · have C8 : (σ ((1 + 18) + (Int32.toNatClampNeg x1)) (Int32.toNatClampNeg x5)).toInt ≤ (0 : Int) := ti_le c8
      rw [j_X3_duels_70_e]
      have b9 := ti_lo x4
      have b10 := ti_hi x4
      have t11 : (x5 + (1 : Int32)).toInt = x5.toInt + (1 : Int) := ti_add (show -2147483648 ≤ x5.toInt + (1 : Int) by omega) (show x5.toInt + (1 : Int) ≤ 2147483647 by omega)
      exact ih _ _ _ hI Fσ O83_σ O0_σ (by omega) (by omega) (by omega)
    have C8 : (0 : Int) < (σ ((1 + 18) + (Int32.toNatClampNeg x1)) (Int32.toNatClampNeg x5)).toInt := ti_nle c8
    refine sf_chk (ti_in (by omega) (by omega)) ?_
    have v12 : Int32.toNatClampNeg x2 = x2.toInt.toNat := rfl
    have b13 := ti_lo (σ ((1 + 18) + (Int32.toNatClampNeg x2)) (Int32.toNatClampNeg x5))
    have b14 := ti_hi (σ ((1 + 18) + (Int32.toNatClampNeg x2)) (Int32.toNatClampNeg x5))
    refine sf_ite (fun c15 => ?_) (fun c15 => ?_)
    · have C15 : (σ ((1 + 18) + (Int32.toNatClampNeg x2)) (Int32.toNatClampNeg x5)).toInt ≤ (0 : Int) := ti_le c15
      rw [j_X3_duels_70_e]
      have b16 := ti_lo x4
      have b17 := ti_hi x4
      have t18 : (x5 + (1 : Int32)).toInt = x5.toInt + (1 : Int) := ti_add (show -2147483648 ≤ x5.toInt + (1 : Int) by omega) (show x5.toInt + (1 : Int) ≤ 2147483647 by omega)
      exact ih _ _ _ hI Fσ O83_σ O0_σ (by omega) (by omega) (by omega)
    have C15 : (0 : Int) < (σ ((1 + 18) + (Int32.toNatClampNeg x2)) (Int32.toNatClampNeg x5)).toInt := ti_nle c15
    rw [j_X3_duels_70_e]
    have b19 := ti_lo x4
    have b20 := ti_hi x4
    have b21 := ti_lo (x4 + (1 : Int32))
    have b22 := ti_hi (x4 + (1 : Int32))
    have t23 : (x5 + (1 : Int32)).toInt = x5.toInt + (1 : Int) := ti_add (show -2147483648 ≤ x5.toInt + (1 : Int) by omega) (show x5.toInt + (1 : Int) ≤ 2147483647 by omega)
    exact ih _ _ _ hI Fσ O83_σ O0_σ (by omega) (by omega) (by omega)
set_option maxHeartbeats 4000000 in
set_option maxRecDepth 100000 in
theorem s_X3_duels {F : Nat} (hF : 100000 ≤ F) {x1 : Int32} {x2 : Int32} {τ : Mem} (hI : wiX τ) : sf (f_X3_duels F x1 x2 τ) (fun r s => wiX s ∧ (∀ k, 101 ≤ k → s k = τ k) ∧ s 83 1 = τ 83 1 ∧ s 0 7 = τ 0 7 ∧ -2147483648 ≤ r.toInt ∧ r.toInt ≤ 2147483647) := by
  have Fτ : ∀ k, 101 ≤ k → τ k = τ k := fun _ _ => rfl
  have O83_τ : τ 83 1 = τ 83 1 := rfl
  have O0_τ : τ 0 7 = τ 0 7 := rfl
  rw [f_X3_duels_e]
  have b1 := ti_lo x1
  have b2 := ti_hi x1
  have b3 := ti_lo x2
  have b4 := ti_hi x2
  refine sf_bnd (s_X3_noPair hF hI) (fun r5 u6 p7 => ?_)
  obtain ⟨e9, p7⟩ := p7
  have e9 := e9.symm
  subst e9
  rcases p7 with ⟨rfl, q8, q9, q10, q11⟩ | p7
  · refine sf_ite (fun c12 => ?_) (fun c12 => ?_)
    · have C12 : (0 : Int) = (0 : Int) := ti_eq c12
      refine sf_bnd (s_X0_reckon hF wt_h1 hI) (fun r13 u14 p15 => ?_)
      obtain ⟨Iu14, Fu14_, O83_u14_, O0_u14_, -⟩ := p15
      have Fu14 : ∀ k, 101 ≤ k → u14 k = τ k := fun k hk => (Fu14_ k hk).trans (Fτ k hk)
      have O83_u14 : u14 83 1 = τ 83 1 := O83_u14_.trans O83_τ
      have O0_u14 : u14 0 7 = τ 0 7 := O0_u14_.trans O0_τ
      have l_0 : (0 : Int32).toInt = 0 := rfl
      exact sl_X3_duels_30 hF (by omega) (by omega) (by omega) (by omega) _ _ _ _ Iu14 Fu14 O83_u14 O0_u14 (by omega) (by decide) (by decide)
    have C12 : ¬ (0 : Int) = (0 : Int) := ti_ne c12
    exfalso; omega
  obtain rfl := p7
  refine sf_ite (fun c16 => ?_) (fun c16 => ?_)
  · have C16 : (-1 : Int) = (0 : Int) := ti_eq c16
    exfalso; omega
  have C16 : ¬ (-1 : Int) = (0 : Int) := ti_ne c16
  refine sf_bnd (s_X3_refuse hF hI (by decide) (by decide)) (fun r17 u18 p19 => ?_)
  obtain ⟨Iu18, Fu18_, O83_u18_, O0_u18_, p19_1, p19_2, p19_x0⟩ := p19
  have Fu18 : ∀ k, 101 ≤ k → u18 k = τ k := fun k hk => (Fu18_ k hk).trans (Fτ k hk)
  have O83_u18 : u18 83 1 = τ 83 1 := O83_u18_.trans O83_τ
  have O0_u18 : u18 0 7 = τ 0 7 := O0_u18_.trans O0_τ
  replace p19_x0 : r17.toInt = (-1 : Int) := p19_x0
  exact sf_ret ⟨Iu18, Fu18, O83_u18, O0_u18, ti_lo _, ti_hi _⟩
set_option maxHeartbeats 4000000 in
set_option maxRecDepth 100000 in
theorem s_X3_row {F : Nat} (hF : 100000 ≤ F) {x1 : Int32} {τ : Mem} (hI : wiX τ) : sf (f_X3_row F x1 τ) (fun r s => wiX s ∧ (∀ k, 101 ≤ k → s k = τ k) ∧ s 83 1 = τ 83 1 ∧ -2147483648 ≤ r.toInt ∧ r.toInt ≤ 2147483647 ∧ ((0 ≤ x1.toInt ∧ x1.toInt ≤ 99 ∧ (τ 0 7).toInt ≤ 11 ∧ (s 0 7).toInt = (τ 0 7).toInt + 1 ∧ r.toInt = (s 0 7).toInt) ∨ (x1.toInt < 0 ∧ (s 0 7).toInt = (τ 0 7).toInt ∧ r.toInt = -4) ∨ (0 ≤ x1.toInt ∧ (99 < x1.toInt ∨ 12 ≤ (τ 0 7).toInt) ∧ (s 0 7).toInt = (τ 0 7).toInt ∧ r.toInt = -6))) := by
  have Fτ : ∀ k, 101 ≤ k → τ k = τ k := fun _ _ => rfl
  have O83_τ : τ 83 1 = τ 83 1 := rfl
  have O0_τ : τ 0 7 = τ 0 7 := rfl
  rw [f_X3_row_e]
  refine sf_in ?_
  rw [f_X3_outside_e]
  have b1 := ti_lo x1
  have b2 := ti_hi x1
  refine sf_ite (fun c3 => ?_) (fun c3 => ?_)
  · have C3 : (0 : Int) ≤ x1.toInt := ti_le c3
    refine sf_ite (fun c4 => ?_) (fun c4 => ?_)
    · have C4 : x1.toInt ≤ (99 : Int) := ti_le c4
      refine sf_ret ?_
      refine sf_ite (fun c5 => ?_) (fun c5 => ?_)
      · have C5 : (0 : Int) = (0 : Int) := ti_eq c5
        have m6 := wx_X3_7 hI
        refine sf_ite (fun c7 => ?_) (fun c7 => ?_)
        · have C7 : (τ 0 7).toInt < (12 : Int) := ti_lt c7
          rw [j_X3_row_24_e]
          refine sf_ite (fun c8 => ?_) (fun c8 => ?_)
          · have C8 : (0 : Int) = (0 : Int) := ti_eq c8
            refine sf_chk (ti_in (by omega) (by omega)) ?_
            have v9 : Int32.toNatClampNeg (τ 0 7) = (τ 0 7).toInt.toNat := rfl
            refine sf_lt (fun s10 hs10 => ?_)
            have Is10 : wiX s10 := by rw [hs10]; exact wx_oth hI (fun q hq e => by have := wt_Hcs hq; omega) (fun e => by omega) (fun e => by omega) (fun e => by omega)
            have Fs10 : ∀ k, 101 ≤ k → s10 k = τ k := fun k hk => (show s10 k = τ k by rw [hs10, up2_k (by omega)]).trans (Fτ k hk)
            have O83_s10 : s10 83 1 = τ 83 1 := (show s10 83 1 = τ 83 1 by rw [hs10, up2_k (by omega)]).trans O83_τ
            have O0_s10 : s10 0 7 = τ 0 7 := (show s10 0 7 = τ 0 7 by rw [hs10, up2_k (by omega)]).trans O0_τ
            refine sf_lt (fun s11 hs11 => ?_)
            have m12 := wx_X3_7 Is10
            have e13 : (s10 0 7).toInt = (τ 0 7).toInt := congrArg Int32.toInt (by rw [hs10, up2_k (by omega)])
            have t14 : ((s10 0 7) + (1 : Int32)).toInt = (s10 0 7).toInt + (1 : Int) := ti_add (show -2147483648 ≤ (s10 0 7).toInt + (1 : Int) by omega) (show (s10 0 7).toInt + (1 : Int) ≤ 2147483647 by omega)
            have Is11 : wiX s11 := by rw [hs11]; exact wx_put_X3_7 Is10 (by omega) (by omega)
            have Fs11 : ∀ k, 101 ≤ k → s11 k = τ k := fun k hk => (show s11 k = s10 k by rw [hs11, up2_k (by omega)]).trans (Fs10 k hk)
            have O83_s11 : s11 83 1 = τ 83 1 := (show s11 83 1 = s10 83 1 by rw [hs11, up2_k (by omega)]).trans O83_s10
            have m15 := wx_X3_7 Is11
            have e16 : (s11 0 7).toInt = ((s10 0 7) + (1 : Int32)).toInt := (show (s11 0 7).toInt = ((s10 0 7) + (1 : Int32)).toInt from congrArg Int32.toInt (by rw [hs11, up2_s]))
            exact sf_ret ⟨Is11, Fs11, O83_s11, ti_lo _, ti_hi _, (show (0 ≤ x1.toInt ∧ x1.toInt ≤ 99 ∧ (τ 0 7).toInt ≤ 11 ∧ (s11 0 7).toInt = (τ 0 7).toInt + 1 ∧ (s11 0 7).toInt = (s11 0 7).toInt) ∨ (x1.toInt < 0 ∧ (s11 0 7).toInt = (τ 0 7).toInt ∧ (s11 0 7).toInt = -4) ∨ (0 ≤ x1.toInt ∧ (99 < x1.toInt ∨ 12 ≤ (τ 0 7).toInt) ∧ (s11 0 7).toInt = (τ 0 7).toInt ∧ (s11 0 7).toInt = -6) from by omega)⟩
          have C8 : ¬ (0 : Int) = (0 : Int) := ti_ne c8
          exfalso; omega
        have C7 : (12 : Int) ≤ (τ 0 7).toInt := ti_nlt c7
        rw [j_X3_row_24_e]
        refine sf_ite (fun c17 => ?_) (fun c17 => ?_)
        · have C17 : (-6 : Int) = (0 : Int) := ti_eq c17
          exfalso; omega
        have C17 : ¬ (-6 : Int) = (0 : Int) := ti_ne c17
        refine sf_bnd (s_X3_refuse hF hI (by decide) (by decide)) (fun r18 u19 p20 => ?_)
        obtain ⟨Iu19, Fu19_, O83_u19_, O0_u19_, p20_1, p20_2, p20_x0⟩ := p20
        have Fu19 : ∀ k, 101 ≤ k → u19 k = τ k := fun k hk => (Fu19_ k hk).trans (Fτ k hk)
        have O83_u19 : u19 83 1 = τ 83 1 := O83_u19_.trans O83_τ
        have O0_u19 : u19 0 7 = τ 0 7 := O0_u19_.trans O0_τ
        replace p20_x0 : r18.toInt = (-6 : Int) := p20_x0
        have m21 := wx_X3_7 Iu19
        have e22 : (u19 0 7).toInt = (τ 0 7).toInt := congrArg Int32.toInt O0_u19_
        exact sf_ret ⟨Iu19, Fu19, O83_u19, ti_lo _, ti_hi _, (show (0 ≤ x1.toInt ∧ x1.toInt ≤ 99 ∧ (τ 0 7).toInt ≤ 11 ∧ (u19 0 7).toInt = (τ 0 7).toInt + 1 ∧ r18.toInt = (u19 0 7).toInt) ∨ (x1.toInt < 0 ∧ (u19 0 7).toInt = (τ 0 7).toInt ∧ r18.toInt = -4) ∨ (0 ≤ x1.toInt ∧ (99 < x1.toInt ∨ 12 ≤ (τ 0 7).toInt) ∧ (u19 0 7).toInt = (τ 0 7).toInt ∧ r18.toInt = -6) from by omega)⟩
      have C5 : ¬ (0 : Int) = (0 : Int) := ti_ne c5
      exfalso; omega
    have C4 : (99 : Int) < x1.toInt := ti_nle c4
    refine sf_ret ?_
    refine sf_ite (fun c23 => ?_) (fun c23 => ?_)
    · have C23 : (-6 : Int) = (0 : Int) := ti_eq c23
      exfalso; omega
    have C23 : ¬ (-6 : Int) = (0 : Int) := ti_ne c23
    rw [j_X3_row_24_e]
    refine sf_ite (fun c24 => ?_) (fun c24 => ?_)
    · have C24 : (-6 : Int) = (0 : Int) := ti_eq c24
      exfalso; omega
    have C24 : ¬ (-6 : Int) = (0 : Int) := ti_ne c24
    refine sf_bnd (s_X3_refuse hF hI (by decide) (by decide)) (fun r25 u26 p27 => ?_)
    obtain ⟨Iu26, Fu26_, O83_u26_, O0_u26_, p27_1, p27_2, p27_x0⟩ := p27
    have Fu26 : ∀ k, 101 ≤ k → u26 k = τ k := fun k hk => (Fu26_ k hk).trans (Fτ k hk)
    have O83_u26 : u26 83 1 = τ 83 1 := O83_u26_.trans O83_τ
    have O0_u26 : u26 0 7 = τ 0 7 := O0_u26_.trans O0_τ
    replace p27_x0 : r25.toInt = (-6 : Int) := p27_x0
    have m28 := wx_X3_7 Iu26
    have m29 := wx_X3_7 hI
    have e30 : (u26 0 7).toInt = (τ 0 7).toInt := congrArg Int32.toInt O0_u26_
    exact sf_ret ⟨Iu26, Fu26, O83_u26, ti_lo _, ti_hi _, (show (0 ≤ x1.toInt ∧ x1.toInt ≤ 99 ∧ (τ 0 7).toInt ≤ 11 ∧ (u26 0 7).toInt = (τ 0 7).toInt + 1 ∧ r25.toInt = (u26 0 7).toInt) ∨ (x1.toInt < 0 ∧ (u26 0 7).toInt = (τ 0 7).toInt ∧ r25.toInt = -4) ∨ (0 ≤ x1.toInt ∧ (99 < x1.toInt ∨ 12 ≤ (τ 0 7).toInt) ∧ (u26 0 7).toInt = (τ 0 7).toInt ∧ r25.toInt = -6) from by omega)⟩
  have C3 : x1.toInt < (0 : Int) := ti_nle c3
  refine sf_ret ?_
  refine sf_ite (fun c31 => ?_) (fun c31 => ?_)
  · have C31 : (-4 : Int) = (0 : Int) := ti_eq c31
    exfalso; omega
  have C31 : ¬ (-4 : Int) = (0 : Int) := ti_ne c31
  rw [j_X3_row_24_e]
  refine sf_ite (fun c32 => ?_) (fun c32 => ?_)
  · have C32 : (-4 : Int) = (0 : Int) := ti_eq c32
    exfalso; omega
  have C32 : ¬ (-4 : Int) = (0 : Int) := ti_ne c32
  refine sf_bnd (s_X3_refuse hF hI (by decide) (by decide)) (fun r33 u34 p35 => ?_)
  obtain ⟨Iu34, Fu34_, O83_u34_, O0_u34_, p35_1, p35_2, p35_x0⟩ := p35
  have Fu34 : ∀ k, 101 ≤ k → u34 k = τ k := fun k hk => (Fu34_ k hk).trans (Fτ k hk)
  have O83_u34 : u34 83 1 = τ 83 1 := O83_u34_.trans O83_τ
  have O0_u34 : u34 0 7 = τ 0 7 := O0_u34_.trans O0_τ
  replace p35_x0 : r33.toInt = (-4 : Int) := p35_x0
  have m36 := wx_X3_7 Iu34
  have m37 := wx_X3_7 hI
  have e38 : (u34 0 7).toInt = (τ 0 7).toInt := congrArg Int32.toInt O0_u34_
  exact sf_ret ⟨Iu34, Fu34, O83_u34, ti_lo _, ti_hi _, (show (0 ≤ x1.toInt ∧ x1.toInt ≤ 99 ∧ (τ 0 7).toInt ≤ 11 ∧ (u34 0 7).toInt = (τ 0 7).toInt + 1 ∧ r33.toInt = (u34 0 7).toInt) ∨ (x1.toInt < 0 ∧ (u34 0 7).toInt = (τ 0 7).toInt ∧ r33.toInt = -4) ∨ (0 ≤ x1.toInt ∧ (99 < x1.toInt ∨ 12 ≤ (τ 0 7).toInt) ∧ (u34 0 7).toInt = (τ 0 7).toInt ∧ r33.toInt = -6) from by omega)⟩
set_option maxHeartbeats 4000000 in
set_option maxRecDepth 100000 in
theorem sl_X3_judge_25 {F : Nat} (hF : 100000 ≤ F) {x1 : Int32} {τ : Mem} (x1_1 : 0 ≤ x1.toInt) (x1_2 : x1.toInt ≤ 7) : ∀ (N : Nat) (x2 : Int32) (x3 : Int32) (σ : Mem), wiX σ → (∀ k, 101 ≤ k → σ k = τ k) → σ 83 1 = τ 83 1 → 12 < x3.toInt + N → -9 ≤ x2.toInt → x2.toInt ≤ 11 → 0 ≤ x3.toInt → x3.toInt ≤ 12 → sf (lp_X3_judge_25 F x1 N x2 x3 σ) (fun r s => wiX s ∧ (∀ k, 101 ≤ k → s k = τ k) ∧ s 83 1 = τ 83 1 ∧ -2147483648 ≤ r.toInt ∧ r.toInt ≤ 2147483647 ∧ ((0 ≤ x1.toInt ∧ x1.toInt ≤ 7 ∧ (s 0 7).toInt = 0) ∨ ((x1.toInt < 0 ∨ 7 < x1.toInt) ∧ (s 0 7).toInt = (τ 0 7).toInt))) := by
  intro N
  induction N with
  | zero => intro x2 x3 σ hI Fσ O83_σ hN x2_1 x2_2 x3_1 x3_2; exfalso; omega
  | succ N ih =>
    intro x2 x3 σ hI Fσ O83_σ hN x2_1 x2_2 x3_1 x3_2
    rw [lp_X3_judge_25_s]
    have m1 := wx_X3_7 hI
    refine sf_ite (fun c2 => ?_) (fun c2 => ?_)
    · have C2 : (σ 0 7).toInt ≤ x3.toInt := ti_le c2
      rw [j_X3_judge_68_e]
      refine sf_lt (fun s3 hs3 => ?_)
      have Is3 : wiX s3 := by rw [hs3]; exact wx_put_X3_7 hI (by decide) (by decide)
      have Fs3 : ∀ k, 101 ≤ k → s3 k = τ k := fun k hk => (show s3 k = σ k by rw [hs3, up2_k (by omega)]).trans (Fσ k hk)
      have O83_s3 : s3 83 1 = τ 83 1 := (show s3 83 1 = σ 83 1 by rw [hs3, up2_k (by omega)]).trans O83_σ
      have m4 := wx_X3_7 Is3
      have e5 : (s3 0 7).toInt = (0 : Int) := (show (s3 0 7).toInt = (0 : Int32).toInt from congrArg Int32.toInt (by rw [hs3, up2_s]))
      have b6 := ti_lo (τ 0 7)
      have b7 := ti_hi (τ 0 7)
      exact sf_ret ⟨Is3, Fs3, O83_s3, ti_lo _, ti_hi _, (show (0 ≤ x1.toInt ∧ x1.toInt ≤ 7 ∧ (s3 0 7).toInt = 0) ∨ ((x1.toInt < 0 ∨ 7 < x1.toInt) ∧ (s3 0 7).toInt = (τ 0 7).toInt) from by omega)⟩
    have C2 : x3.toInt < (σ 0 7).toInt := ti_nle c2
    refine sf_ite (fun c8 => ?_) (fun c8 => ?_)
    · have C8 : x2.toInt = (-9 : Int) := ti_eq c8
      refine sf_chk (ti_in (by omega) (by omega)) ?_
      have v9 : Int32.toNatClampNeg x3 = x3.toInt.toNat := rfl
      refine sf_bnd (s_X0_holder hF wt_h1 hI (by omega) (by omega) (by omega) (by omega)) (fun r10 u11 p12 => ?_)
      obtain ⟨e9, p12_1, p12_2⟩ := p12
      have e9 := e9.symm
      subst e9
      refine sf_in ?_
      rw [f_X3_inRow_e]
      refine sf_ite (fun c13 => ?_) (fun c13 => ?_)
      · have C13 : r10.toInt = (-9 : Int) := ti_eq c13
        refine sf_ret ?_
        have b14 := ti_lo (σ 85 (Int32.toNatClampNeg x3))
        have b15 := ti_hi (σ 85 (Int32.toNatClampNeg x3))
        refine sf_ite (fun c16 => ?_) (fun c16 => ?_)
        · have C16 : (σ 85 (Int32.toNatClampNeg x3)).toInt = (99 : Int) := ti_eq c16
          rw [j_X3_judge_62_e]
          have t17 : (x3 + (1 : Int32)).toInt = x3.toInt + (1 : Int) := ti_add (show -2147483648 ≤ x3.toInt + (1 : Int) by omega) (show x3.toInt + (1 : Int) ≤ 2147483647 by omega)
          exact ih _ _ _ hI Fσ O83_σ (by omega) (by omega) (by omega) (by omega) (by omega)
        have C16 : ¬ (σ 85 (Int32.toNatClampNeg x3)).toInt = (99 : Int) := ti_ne c16
        rw [j_X3_judge_62_e]
        have t18 : (x3 + (1 : Int32)).toInt = x3.toInt + (1 : Int) := ti_add (show -2147483648 ≤ x3.toInt + (1 : Int) by omega) (show x3.toInt + (1 : Int) ≤ 2147483647 by omega)
        exact ih _ _ _ hI Fσ O83_σ (by omega) (by omega) (by omega) (by omega) (by omega)
      have C13 : ¬ r10.toInt = (-9 : Int) := ti_ne c13
      refine sf_ret ?_
      have b19 := ti_lo (σ 85 (Int32.toNatClampNeg x3))
      have b20 := ti_hi (σ 85 (Int32.toNatClampNeg x3))
      refine sf_ite (fun c21 => ?_) (fun c21 => ?_)
      · have C21 : (σ 85 (Int32.toNatClampNeg x3)).toInt = r10.toInt := ti_eq c21
        rw [j_X3_judge_62_e]
        have t22 : (x3 + (1 : Int32)).toInt = x3.toInt + (1 : Int) := ti_add (show -2147483648 ≤ x3.toInt + (1 : Int) by omega) (show x3.toInt + (1 : Int) ≤ 2147483647 by omega)
        exact ih _ _ _ hI Fσ O83_σ (by omega) (by omega) (by omega) (by omega) (by omega)
      have C21 : ¬ (σ 85 (Int32.toNatClampNeg x3)).toInt = r10.toInt := ti_ne c21
      rw [j_X3_judge_62_e]
      have t23 : (x3 + (1 : Int32)).toInt = x3.toInt + (1 : Int) := ti_add (show -2147483648 ≤ x3.toInt + (1 : Int) by omega) (show x3.toInt + (1 : Int) ≤ 2147483647 by omega)
      exact ih _ _ _ hI Fσ O83_σ (by omega) (by omega) (by omega) (by omega) (by omega)
    have C8 : ¬ x2.toInt = (-9 : Int) := ti_ne c8
    rw [j_X3_judge_68_e]
    refine sf_lt (fun s24 hs24 => ?_)
    have Is24 : wiX s24 := by rw [hs24]; exact wx_put_X3_7 hI (by decide) (by decide)
    have Fs24 : ∀ k, 101 ≤ k → s24 k = τ k := fun k hk => (show s24 k = σ k by rw [hs24, up2_k (by omega)]).trans (Fσ k hk)
    have O83_s24 : s24 83 1 = τ 83 1 := (show s24 83 1 = σ 83 1 by rw [hs24, up2_k (by omega)]).trans O83_σ
    have m25 := wx_X3_7 Is24
    have e26 : (s24 0 7).toInt = (0 : Int) := (show (s24 0 7).toInt = (0 : Int32).toInt from congrArg Int32.toInt (by rw [hs24, up2_s]))
    have b27 := ti_lo (τ 0 7)
    have b28 := ti_hi (τ 0 7)
    exact sf_ret ⟨Is24, Fs24, O83_s24, ti_lo _, ti_hi _, (show (0 ≤ x1.toInt ∧ x1.toInt ≤ 7 ∧ (s24 0 7).toInt = 0) ∨ ((x1.toInt < 0 ∨ 7 < x1.toInt) ∧ (s24 0 7).toInt = (τ 0 7).toInt) from by omega)⟩
set_option maxHeartbeats 4000000 in
set_option maxRecDepth 100000 in
theorem s_X3_judge {F : Nat} (hF : 100000 ≤ F) {x1 : Int32} {τ : Mem} (hI : wiX τ) : sf (f_X3_judge F x1 τ) (fun r s => wiX s ∧ (∀ k, 101 ≤ k → s k = τ k) ∧ s 83 1 = τ 83 1 ∧ -2147483648 ≤ r.toInt ∧ r.toInt ≤ 2147483647 ∧ ((0 ≤ x1.toInt ∧ x1.toInt ≤ 7 ∧ (s 0 7).toInt = 0) ∨ ((x1.toInt < 0 ∨ 7 < x1.toInt) ∧ (s 0 7).toInt = (τ 0 7).toInt))) := by
  have Fτ : ∀ k, 101 ≤ k → τ k = τ k := fun _ _ => rfl
  have O83_τ : τ 83 1 = τ 83 1 := rfl
  have O0_τ : τ 0 7 = τ 0 7 := rfl
  rw [f_X3_judge_e]
  have b1 := ti_lo x1
  have b2 := ti_hi x1
  refine sf_bnd (s_X0_isView hF hI) (fun r3 u4 p5 => ?_)
  obtain ⟨e9, p5⟩ := p5
  have e9 := e9.symm
  subst e9
  rcases p5 with ⟨rfl, q6, q7⟩ | p5
  · refine sf_ite (fun c8 => ?_) (fun c8 => ?_)
    · have C8 : (1 : Int) = (0 : Int) := ti_eq c8
      exfalso; omega
    have C8 : ¬ (1 : Int) = (0 : Int) := ti_ne c8
    refine sf_bnd (s_X0_reckon hF wt_h1 hI) (fun r9 u10 p11 => ?_)
    obtain ⟨Iu10, Fu10_, O83_u10_, O0_u10_, -⟩ := p11
    have Fu10 : ∀ k, 101 ≤ k → u10 k = τ k := fun k hk => (Fu10_ k hk).trans (Fτ k hk)
    have O83_u10 : u10 83 1 = τ 83 1 := O83_u10_.trans O83_τ
    have O0_u10 : u10 0 7 = τ 0 7 := O0_u10_.trans O0_τ
    have l_0 : (0 : Int32).toInt = 0 := rfl
    exact sl_X3_judge_25 hF (by omega) (by omega) _ _ _ _ Iu10 Fu10 O83_u10 (by omega) (by decide) (by decide) (by decide) (by decide)
  obtain ⟨rfl, q12⟩ := p5
  refine sf_ite (fun c13 => ?_) (fun c13 => ?_)
  · have C13 : (0 : Int) = (0 : Int) := ti_eq c13
    refine sf_bnd (s_X3_refuse hF hI (by decide) (by decide)) (fun r14 u15 p16 => ?_)
    obtain ⟨Iu15, Fu15_, O83_u15_, O0_u15_, p16_1, p16_2, p16_x0⟩ := p16
    have Fu15 : ∀ k, 101 ≤ k → u15 k = τ k := fun k hk => (Fu15_ k hk).trans (Fτ k hk)
    have O83_u15 : u15 83 1 = τ 83 1 := O83_u15_.trans O83_τ
    have O0_u15 : u15 0 7 = τ 0 7 := O0_u15_.trans O0_τ
    replace p16_x0 : r14.toInt = (-1 : Int) := p16_x0
    have m17 := wx_X3_7 Iu15
    have m18 := wx_X3_7 hI
    have e19 : (u15 0 7).toInt = (τ 0 7).toInt := congrArg Int32.toInt O0_u15_
    exact sf_ret ⟨Iu15, Fu15, O83_u15, ti_lo _, ti_hi _, (show (0 ≤ x1.toInt ∧ x1.toInt ≤ 7 ∧ (u15 0 7).toInt = 0) ∨ ((x1.toInt < 0 ∨ 7 < x1.toInt) ∧ (u15 0 7).toInt = (τ 0 7).toInt) from by omega)⟩
  have C13 : ¬ (0 : Int) = (0 : Int) := ti_ne c13
  exfalso; omega
set_option maxHeartbeats 4000000 in
set_option maxRecDepth 100000 in
theorem s_X3_clear {F : Nat} (hF : 100000 ≤ F) {τ : Mem} (hI : wiX τ) : sf (f_X3_clear F τ) (fun r s => wiX s ∧ (∀ k, 101 ≤ k → s k = τ k) ∧ s 83 1 = τ 83 1 ∧ 0 ≤ r.toInt ∧ r.toInt ≤ 12 ∧ (r.toInt = (τ 0 7).toInt ∧ (s 0 7).toInt = 0)) := by
  have Fτ : ∀ k, 101 ≤ k → τ k = τ k := fun _ _ => rfl
  have O83_τ : τ 83 1 = τ 83 1 := rfl
  have O0_τ : τ 0 7 = τ 0 7 := rfl
  rw [f_X3_clear_e]
  refine sf_lt (fun s1 hs1 => ?_)
  have Is1 : wiX s1 := by rw [hs1]; exact wx_put_X3_7 hI (by decide) (by decide)
  have Fs1 : ∀ k, 101 ≤ k → s1 k = τ k := fun k hk => (show s1 k = τ k by rw [hs1, up2_k (by omega)]).trans (Fτ k hk)
  have O83_s1 : s1 83 1 = τ 83 1 := (show s1 83 1 = τ 83 1 by rw [hs1, up2_k (by omega)]).trans O83_τ
  have m2 := wx_X3_7 hI
  have m3 := wx_X3_7 Is1
  have e4 : (s1 0 7).toInt = (0 : Int) := (show (s1 0 7).toInt = (0 : Int32).toInt from congrArg Int32.toInt (by rw [hs1, up2_s]))
  exact sf_ret ⟨Is1, Fs1, O83_s1, by omega, by omega, (show (τ 0 7).toInt = (τ 0 7).toInt ∧ (s1 0 7).toInt = 0 from by omega)⟩
set_option maxHeartbeats 4000000 in
set_option maxRecDepth 100000 in
theorem s_X3_nextSeed {F : Nat} (hF : 100000 ≤ F) {x0 : Int32} {τ : Mem} (hI : wiX τ) : sf (f_X3_nextSeed F x0 τ) (fun r s => s = τ ∧ -2147483648 ≤ r.toInt ∧ r.toInt ≤ 2147483647) := by
  rw [f_X3_nextSeed_e]
  have b1 := ti_lo x0
  have b2 := ti_hi x0
  have b3 := ti_lo (x0 * (1103515245 : Int32))
  have b4 := ti_hi (x0 * (1103515245 : Int32))
  have b5 := ti_lo ((x0 * (1103515245 : Int32)) + (12345 : Int32))
  have b6 := ti_hi ((x0 * (1103515245 : Int32)) + (12345 : Int32))
  exact sf_ret ⟨rfl, ti_lo _, ti_hi _⟩
set_option maxHeartbeats 4000000 in
set_option maxRecDepth 100000 in
theorem s_X3_drawBelow {F : Nat} (hF : 100000 ≤ F) {x0 : Int32} {x1 : Int32} {τ : Mem} (hI : wiX τ) (x1_1 : 0 ≤ x1.toInt) (x1_2 : x1.toInt ≤ 24) : sf (f_X3_drawBelow F x0 x1 τ) (fun r s => s = τ ∧ -2147483648 ≤ r.toInt ∧ r.toInt ≤ 2147483647) := by
  rw [f_X3_drawBelow_e]
  refine sf_ite (fun c1 => ?_) (fun c1 => ?_)
  · have C1 : (0 : Int) < x1.toInt := ti_lt c1
    refine sf_nz (fun q => by have q2 := ti_eq q; rw [show (0 : Int32).toInt = 0 from rfl] at q2; omega) ?_
    have b2 := ti_lo (x0 &&& (2147483647 : Int32))
    have b3 := ti_hi (x0 &&& (2147483647 : Int32))
    have b4 := ti_lo ((x0 &&& (2147483647 : Int32)) / (65536 : Int32))
    have b5 := ti_hi ((x0 &&& (2147483647 : Int32)) / (65536 : Int32))
    have b6 := ti_lo (((x0 &&& (2147483647 : Int32)) / (65536 : Int32)) / x1)
    have b7 := ti_hi (((x0 &&& (2147483647 : Int32)) / (65536 : Int32)) / x1)
    have b8 := ti_lo ((((x0 &&& (2147483647 : Int32)) / (65536 : Int32)) / x1) * x1)
    have b9 := ti_hi ((((x0 &&& (2147483647 : Int32)) / (65536 : Int32)) / x1) * x1)
    have b10 := ti_lo (((x0 &&& (2147483647 : Int32)) / (65536 : Int32)) - ((((x0 &&& (2147483647 : Int32)) / (65536 : Int32)) / x1) * x1))
    have b11 := ti_hi (((x0 &&& (2147483647 : Int32)) / (65536 : Int32)) - ((((x0 &&& (2147483647 : Int32)) / (65536 : Int32)) / x1) * x1))
    exact sf_ret ⟨rfl, ti_lo _, ti_hi _⟩
  have C1 : x1.toInt ≤ (0 : Int) := ti_nlt c1
  exact sf_ret ⟨rfl, ti_lo _, ti_hi _⟩
set_option maxHeartbeats 4000000 in
set_option maxRecDepth 100000 in
theorem sl_X3_castRosters_32 {F : Nat} (hF : 100000 ≤ F) {x3 : Int32} {k4 : Int32 → Int32 → Mem → Option (Int32 × Mem)} {τ : Mem} (x3_1 : 0 ≤ x3.toInt) (x3_2 : x3.toInt ≤ 4) {N4 : Nat} (hM4 : 5 < x3.toInt + (N4 + 1)) (hk4 : ∀ (x2 : Int32) (x3 : Int32) (σ : Mem), wiX σ → (∀ k, 101 ≤ k → σ k = τ k) → σ 83 1 = τ 83 1 → σ 0 7 = τ 0 7 → 5 < x3.toInt + N4 → 0 ≤ x3.toInt → x3.toInt ≤ 5 → sf (k4 x2 x3 σ) (fun r s => wiX s ∧ (∀ k, 101 ≤ k → s k = τ k) ∧ s 83 1 = τ 83 1 ∧ s 0 7 = τ 0 7 ∧ -2147483648 ≤ r.toInt ∧ r.toInt ≤ 2147483647)) : ∀ (N : Nat) (x2 : Int32) (x4 : Int32) (σ : Mem), wiX σ → (∀ k, 101 ≤ k → σ k = τ k) → σ 83 1 = τ 83 1 → σ 0 7 = τ 0 7 → 4 < x4.toInt + N → 0 ≤ x4.toInt → x4.toInt ≤ 4 → sf (lp_X3_castRosters_32 F k4 x3 N x2 x4 σ) (fun r s => wiX s ∧ (∀ k, 101 ≤ k → s k = τ k) ∧ s 83 1 = τ 83 1 ∧ s 0 7 = τ 0 7 ∧ -2147483648 ≤ r.toInt ∧ r.toInt ≤ 2147483647) := by
  intro N
  induction N with
  | zero => intro x2 x4 σ hI Fσ O83_σ O0_σ hN x4_1 x4_2; exfalso; omega
  | succ N ih =>
    intro x2 x4 σ hI Fσ O83_σ O0_σ hN x4_1 x4_2
    rw [lp_X3_castRosters_32_s]
    refine sf_ite (fun c1 => ?_) (fun c1 => ?_)
    · have C1 : (4 : Int) ≤ x4.toInt := ti_le c1
      have b2 := ti_lo x2
      have b3 := ti_hi x2
      have t4 : (x3 + (1 : Int32)).toInt = x3.toInt + (1 : Int) := ti_add (show -2147483648 ≤ x3.toInt + (1 : Int) by omega) (show x3.toInt + (1 : Int) ≤ 2147483647 by omega)
      exact hk4 _ _ _ hI Fσ O83_σ O0_σ (by omega) (by omega) (by omega)
    have C1 : x4.toInt < (4 : Int) := ti_nle c1
    have b5 := ti_lo x2
    have b6 := ti_hi x2
    refine sf_bnd (s_X3_nextSeed hF hI) (fun r7 u8 p9 => ?_)
    obtain ⟨e9, p9_1, p9_2⟩ := p9
    have e9 := e9.symm
    subst e9
    have b10 := ti_lo r7
    have b11 := ti_hi r7
    refine sf_bnd (s_X3_drawBelow hF hI (by decide) (by decide)) (fun r12 u13 p14 => ?_)
    obtain ⟨e9, p14_1, p14_2⟩ := p14
    have e9 := e9.symm
    subst e9
    refine sf_bnd (s_X3_nextSeed hF hI) (fun r15 u16 p17 => ?_)
    obtain ⟨e9, p17_1, p17_2⟩ := p17
    have e9 := e9.symm
    subst e9
    have b19 := ti_lo (wt_min ((r12 + (4 : Int32)) - (1 : Int32)) (23 : Int32))
    have b20 := ti_hi (wt_min ((r12 + (4 : Int32)) - (1 : Int32)) (23 : Int32))
    refine sf_lt (fun z18 hz18 => ?_)
    have hz18_ : z18.toInt = (wt_min ((r12 + (4 : Int32)) - (1 : Int32)) (23 : Int32)).toInt := (show z18.toInt = (wt_min ((r12 + (4 : Int32)) - (1 : Int32)) (23 : Int32)).toInt from congrArg Int32.toInt hz18)
    have b21 := ti_lo r15
    have b22 := ti_hi r15
    have m23 := wx_X0_0 hI wt_h24
    refine sf_bnd (s_X3_drawBelow hF hI (by omega) (by omega)) (fun r24 u25 p26 => ?_)
    obtain ⟨e9, p26_1, p26_2⟩ := p26
    have e9 := e9.symm
    subst e9
    have b27 := ti_lo r12
    have b28 := ti_hi r12
    have b29 := ti_lo z18
    have b30 := ti_hi z18
    have b31 := ti_lo r24
    have b32 := ti_hi r24
    refine sf_bnd (s_X0_post hF wt_h24 hI) (fun r33 u34 p35 => ?_)
    obtain ⟨Iu34, Fu34_, O83_u34_, O0_u34_, p35_1, p35_2⟩ := p35
    have Fu34 : ∀ k, 101 ≤ k → u34 k = τ k := fun k hk => (Fu34_ k hk).trans (Fσ k hk)
    have O83_u34 : u34 83 1 = τ 83 1 := O83_u34_.trans O83_σ
    have O0_u34 : u34 0 7 = τ 0 7 := O0_u34_.trans O0_σ
    have hb_r33 : r33 = 0 ∨ r33 = 1 := wi_bool p35_1 p35_2
    have t36 : (x4 + (1 : Int32)).toInt = x4.toInt + (1 : Int) := ti_add (show -2147483648 ≤ x4.toInt + (1 : Int) by omega) (show x4.toInt + (1 : Int) ≤ 2147483647 by omega)
    exact ih _ _ _ Iu34 Fu34 O83_u34 O0_u34 (by omega) (by omega) (by omega)
set_option maxHeartbeats 4000000 in
set_option maxRecDepth 100000 in
theorem sl_X3_castRosters_4 {F : Nat} (hF : 100000 ≤ F) {τ : Mem} : ∀ (N : Nat) (x2 : Int32) (x3 : Int32) (σ : Mem), wiX σ → (∀ k, 101 ≤ k → σ k = τ k) → σ 83 1 = τ 83 1 → σ 0 7 = τ 0 7 → 5 < x3.toInt + N → 0 ≤ x3.toInt → x3.toInt ≤ 5 → sf (lp_X3_castRosters_4 F N x2 x3 σ) (fun r s => wiX s ∧ (∀ k, 101 ≤ k → s k = τ k) ∧ s 83 1 = τ 83 1 ∧ s 0 7 = τ 0 7 ∧ -2147483648 ≤ r.toInt ∧ r.toInt ≤ 2147483647) := by
  intro N
  induction N with
  | zero => intro x2 x3 σ hI Fσ O83_σ O0_σ hN x3_1 x3_2; exfalso; omega
  | succ N ih =>
    intro x2 x3 σ hI Fσ O83_σ O0_σ hN x3_1 x3_2
    rw [lp_X3_castRosters_4_s]
    have m1 := wx_X0_2 hI wt_h24
    refine sf_ite (fun c2 => ?_) (fun c2 => ?_)
    · have C2 : (σ 24 2).toInt ≤ x3.toInt := ti_le c2
      have b3 := ti_lo x2
      have b4 := ti_hi x2
      exact sf_ret ⟨hI, Fσ, O83_σ, O0_σ, ti_lo _, ti_hi _⟩
    have C2 : x3.toInt < (σ 24 2).toInt := ti_nle c2
    refine sf_bnd (s_X0_post hF wt_h24 hI) (fun r5 u6 p7 => ?_)
    obtain ⟨Iu6, Fu6_, O83_u6_, O0_u6_, p7_1, p7_2⟩ := p7
    have Fu6 : ∀ k, 101 ≤ k → u6 k = τ k := fun k hk => (Fu6_ k hk).trans (Fσ k hk)
    have O83_u6 : u6 83 1 = τ 83 1 := O83_u6_.trans O83_σ
    have O0_u6 : u6 0 7 = τ 0 7 := O0_u6_.trans O0_σ
    have hb_r5 : r5 = 0 ∨ r5 = 1 := wi_bool p7_1 p7_2
    have b8 := ti_lo x2
    have b9 := ti_hi x2
    have l_0 : (0 : Int32).toInt = 0 := rfl
    exact sl_X3_castRosters_32 hF (by omega) (by omega) (by omega) ih _ _ _ _ Iu6 Fu6 O83_u6 O0_u6 (by omega) (by decide) (by decide)
set_option maxHeartbeats 4000000 in
set_option maxRecDepth 100000 in
theorem s_X3_castRosters {F : Nat} (hF : 100000 ≤ F) {x1 : Int32} {τ : Mem} (hI : wiX τ) : sf (f_X3_castRosters F x1 τ) (fun r s => wiX s ∧ (∀ k, 101 ≤ k → s k = τ k) ∧ s 83 1 = τ 83 1 ∧ s 0 7 = τ 0 7 ∧ -2147483648 ≤ r.toInt ∧ r.toInt ≤ 2147483647) := by
  have Fτ : ∀ k, 101 ≤ k → τ k = τ k := fun _ _ => rfl
  have O83_τ : τ 83 1 = τ 83 1 := rfl
  have O0_τ : τ 0 7 = τ 0 7 := rfl
  rw [f_X3_castRosters_e]
  have b1 := ti_lo x1
  have b2 := ti_hi x1
  have l_0 : (0 : Int32).toInt = 0 := rfl
  exact sl_X3_castRosters_4 hF _ _ _ _ hI Fτ O83_τ O0_τ (by omega) (by decide) (by decide)
set_option maxHeartbeats 4000000 in
set_option maxRecDepth 100000 in
theorem sl_X3_lots_61 {F : Nat} (hF : 100000 ≤ F) {x1 : Int32} {x3 : Int32} {τ : Mem} (x1_1 : 1 ≤ x1.toInt) (x1_2 : x1.toInt ≤ 20) (x3_1 : 0 ≤ x3.toInt) (x3_2 : x3.toInt ≤ 1) : ∀ (N : Nat) (x5 : Int32) (x6 : Int32) (x7 : Int32) (σ : Mem), wiX σ → (∀ k, 101 ≤ k → σ k = τ k) → σ 83 1 = τ 83 1 → σ 0 7 = τ 0 7 → 20 < x7.toInt + N → 0 ≤ x7.toInt → x7.toInt ≤ 20 → sf (lp_X3_lots_61 F x1 x3 N x5 x6 x7 σ) (fun r s => wiX s ∧ (∀ k, 101 ≤ k → s k = τ k) ∧ s 83 1 = τ 83 1 ∧ s 0 7 = τ 0 7 ∧ -2147483648 ≤ r.toInt ∧ r.toInt ≤ 2147483647) := by
  intro N
  induction N with
  | zero => intro x5 x6 x7 σ hI Fσ O83_σ O0_σ hN x7_1 x7_2; exfalso; omega
  | succ N ih =>
    intro x5 x6 x7 σ hI Fσ O83_σ O0_σ hN x7_1 x7_2
    rw [lp_X3_lots_61_s]
    refine sf_ite (fun c1 => ?_) (fun c1 => ?_)
    · have C1 : x1.toInt ≤ x7.toInt := ti_le c1
      have b2 := ti_lo x6
      have b3 := ti_hi x6
      exact sf_ret ⟨hI, Fσ, O83_σ, O0_σ, ti_lo _, ti_hi _⟩
    have C1 : x7.toInt < x1.toInt := ti_nle c1
    have b4 := ti_lo x5
    have b5 := ti_hi x5
    refine sf_bnd (s_X3_castRosters hF hI) (fun r6 u7 p8 => ?_)
    obtain ⟨Iu7, Fu7_, O83_u7_, O0_u7_, p8_1, p8_2⟩ := p8
    have Fu7 : ∀ k, 101 ≤ k → u7 k = τ k := fun k hk => (Fu7_ k hk).trans (Fσ k hk)
    have O83_u7 : u7 83 1 = τ 83 1 := O83_u7_.trans O83_σ
    have O0_u7 : u7 0 7 = τ 0 7 := O0_u7_.trans O0_σ
    refine sf_bnd (s_X0_reckon hF wt_h24 Iu7) (fun r9 u10 p11 => ?_)
    obtain ⟨Iu10, Fu10_, O83_u10_, O0_u10_, -⟩ := p11
    have Fu10 : ∀ k, 101 ≤ k → u10 k = τ k := fun k hk => (Fu10_ k hk).trans (Fu7 k hk)
    have O83_u10 : u10 83 1 = τ 83 1 := O83_u10_.trans O83_u7
    have O0_u10 : u10 0 7 = τ 0 7 := O0_u10_.trans O0_u7
    refine sf_bnd (s_X0_wealthiest hF wt_h24 Iu10 (by decide) (by decide)) (fun r12 u13 p14 => ?_)
    obtain ⟨e9, p14_1, p14_2⟩ := p14
    have e9 := e9.symm
    subst e9
    refine sf_ite (fun c15 => ?_) (fun c15 => ?_)
    · have C15 : x3.toInt = (0 : Int) := ti_eq c15
      refine sf_bnd (s_X0_held hF wt_h24 Iu10 (by decide) (by decide)) (fun r16 u17 p18 => ?_)
      obtain ⟨e9, p18_1, p18_2⟩ := p18
      have e9 := e9.symm
      subst e9
      have b19 := ti_lo r16
      have b20 := ti_hi r16
      refine sf_bnd (s_J6_bitCount_0f7a4 hF Iu10) (fun r21 u22 p23 => ?_)
      obtain ⟨e9, p23_1, p23_2⟩ := p23
      have e9 := e9.symm
      subst e9
      rw [j_X3_lots_140_e]
      have b24 := ti_lo r6
      have b25 := ti_hi r6
      have b26 := ti_lo x6
      have b27 := ti_hi x6
      have b28 := ti_lo r21
      have b29 := ti_hi r21
      have b30 := ti_lo (x6 + r21)
      have b31 := ti_hi (x6 + r21)
      have t32 : (x7 + (1 : Int32)).toInt = x7.toInt + (1 : Int) := ti_add (show -2147483648 ≤ x7.toInt + (1 : Int) by omega) (show x7.toInt + (1 : Int) ≤ 2147483647 by omega)
      exact ih _ _ _ _ Iu10 Fu10 O83_u10 O0_u10 (by omega) (by omega) (by omega)
    have C15 : ¬ x3.toInt = (0 : Int) := ti_ne c15
    refine sf_ite (fun c33 => ?_) (fun c33 => ?_)
    · have C33 : r12.toInt = (-9 : Int) := ti_eq c33
      rw [j_X3_lots_140_e]
      have b34 := ti_lo r6
      have b35 := ti_hi r6
      have b36 := ti_lo x6
      have b37 := ti_hi x6
      have t38 : (x7 + (1 : Int32)).toInt = x7.toInt + (1 : Int) := ti_add (show -2147483648 ≤ x7.toInt + (1 : Int) by omega) (show x7.toInt + (1 : Int) ≤ 2147483647 by omega)
      exact ih _ _ _ _ Iu10 Fu10 O83_u10 O0_u10 (by omega) (by omega) (by omega)
    have C33 : ¬ r12.toInt = (-9 : Int) := ti_ne c33
    refine sf_bnd (s_X0_wealth hF wt_h24 Iu10 (by decide) (by decide)) (fun r39 u40 p41 => ?_)
    obtain ⟨e9, p41_1, p41_2⟩ := p41
    have e9 := e9.symm
    subst e9
    rw [j_X3_lots_140_e]
    have b42 := ti_lo r6
    have b43 := ti_hi r6
    have b44 := ti_lo x6
    have b45 := ti_hi x6
    have b46 := ti_lo r39
    have b47 := ti_hi r39
    have b48 := ti_lo (x6 + r39)
    have b49 := ti_hi (x6 + r39)
    have t50 : (x7 + (1 : Int32)).toInt = x7.toInt + (1 : Int) := ti_add (show -2147483648 ≤ x7.toInt + (1 : Int) by omega) (show x7.toInt + (1 : Int) ≤ 2147483647 by omega)
    exact ih _ _ _ _ Iu10 Fu10 O83_u10 O0_u10 (by omega) (by omega) (by omega)
set_option maxHeartbeats 4000000 in
set_option maxRecDepth 100000 in
theorem s_X3_lots {F : Nat} (hF : 100000 ≤ F) {x1 : Int32} {x2 : Int32} {x3 : Int32} {τ : Mem} (hI : wiX τ) : sf (f_X3_lots F x1 x2 x3 τ) (fun r s => wiX s ∧ (∀ k, 101 ≤ k → s k = τ k) ∧ s 83 1 = τ 83 1 ∧ s 0 7 = τ 0 7 ∧ -2147483648 ≤ r.toInt ∧ r.toInt ≤ 2147483647) := by
  have Fτ : ∀ k, 101 ≤ k → τ k = τ k := fun _ _ => rfl
  have O83_τ : τ 83 1 = τ 83 1 := rfl
  have O0_τ : τ 0 7 = τ 0 7 := rfl
  rw [f_X3_lots_e]
  refine sf_in ?_
  rw [f_X3_outside_e]
  have b1 := ti_lo x1
  have b2 := ti_hi x1
  refine sf_ite (fun c3 => ?_) (fun c3 => ?_)
  · have C3 : (1 : Int) ≤ x1.toInt := ti_le c3
    refine sf_ite (fun c4 => ?_) (fun c4 => ?_)
    · have C4 : x1.toInt ≤ (20 : Int) := ti_le c4
      refine sf_ret ?_
      refine sf_in ?_
      rw [f_X3_notBelow_e]
      have b5 := ti_lo x3
      have b6 := ti_hi x3
      refine sf_ite (fun c7 => ?_) (fun c7 => ?_)
      · have C7 : x3.toInt < (0 : Int) := ti_lt c7
        rw [j_X3_notBelow_13_e]
        refine sf_ret ?_
        refine sf_in ?_
        rw [f_X3_firstOf_e]
        refine sf_ite (fun c8 => ?_) (fun c8 => ?_)
        · have C8 : (0 : Int) = (0 : Int) := ti_eq c8
          refine sf_ret ?_
          refine sf_ite (fun c9 => ?_) (fun c9 => ?_)
          · have C9 : (-2 : Int) = (0 : Int) := ti_eq c9
            exfalso; omega
          have C9 : ¬ (-2 : Int) = (0 : Int) := ti_ne c9
          refine sf_bnd (s_X3_refuse hF hI (by decide) (by decide)) (fun r10 u11 p12 => ?_)
          obtain ⟨Iu11, Fu11_, O83_u11_, O0_u11_, p12_1, p12_2, p12_x0⟩ := p12
          have Fu11 : ∀ k, 101 ≤ k → u11 k = τ k := fun k hk => (Fu11_ k hk).trans (Fτ k hk)
          have O83_u11 : u11 83 1 = τ 83 1 := O83_u11_.trans O83_τ
          have O0_u11 : u11 0 7 = τ 0 7 := O0_u11_.trans O0_τ
          replace p12_x0 : r10.toInt = (-2 : Int) := p12_x0
          exact sf_ret ⟨Iu11, Fu11, O83_u11, O0_u11, ti_lo _, ti_hi _⟩
        have C8 : ¬ (0 : Int) = (0 : Int) := ti_ne c8
        exfalso; omega
      have C7 : (0 : Int) ≤ x3.toInt := ti_nlt c7
      refine sf_ite (fun c13 => ?_) (fun c13 => ?_)
      · have C13 : (2 : Int) ≤ x3.toInt := ti_le c13
        rw [j_X3_notBelow_13_e]
        refine sf_ret ?_
        refine sf_in ?_
        rw [f_X3_firstOf_e]
        refine sf_ite (fun c14 => ?_) (fun c14 => ?_)
        · have C14 : (0 : Int) = (0 : Int) := ti_eq c14
          refine sf_ret ?_
          refine sf_ite (fun c15 => ?_) (fun c15 => ?_)
          · have C15 : (-2 : Int) = (0 : Int) := ti_eq c15
            exfalso; omega
          have C15 : ¬ (-2 : Int) = (0 : Int) := ti_ne c15
          refine sf_bnd (s_X3_refuse hF hI (by decide) (by decide)) (fun r16 u17 p18 => ?_)
          obtain ⟨Iu17, Fu17_, O83_u17_, O0_u17_, p18_1, p18_2, p18_x0⟩ := p18
          have Fu17 : ∀ k, 101 ≤ k → u17 k = τ k := fun k hk => (Fu17_ k hk).trans (Fτ k hk)
          have O83_u17 : u17 83 1 = τ 83 1 := O83_u17_.trans O83_τ
          have O0_u17 : u17 0 7 = τ 0 7 := O0_u17_.trans O0_τ
          replace p18_x0 : r16.toInt = (-2 : Int) := p18_x0
          exact sf_ret ⟨Iu17, Fu17, O83_u17, O0_u17, ti_lo _, ti_hi _⟩
        have C14 : ¬ (0 : Int) = (0 : Int) := ti_ne c14
        exfalso; omega
      have C13 : x3.toInt < (2 : Int) := ti_nle c13
      refine sf_ret ?_
      refine sf_in ?_
      rw [f_X3_firstOf_e]
      refine sf_ite (fun c19 => ?_) (fun c19 => ?_)
      · have C19 : (0 : Int) = (0 : Int) := ti_eq c19
        refine sf_ret ?_
        refine sf_ite (fun c20 => ?_) (fun c20 => ?_)
        · have C20 : (0 : Int) = (0 : Int) := ti_eq c20
          have m21 := wx_X0_0 hI wt_h1
          refine sf_ite (fun c22 => ?_) (fun c22 => ?_)
          · have C22 : (τ 1 0).toInt = (0 : Int) := ti_eq c22
            exact sf_ret ⟨hI, Fτ, O83_τ, O0_τ, ti_lo _, ti_hi _⟩
          have C22 : ¬ (τ 1 0).toInt = (0 : Int) := ti_ne c22
          refine sf_bnd (s_X0_takeFrom hF wt_h24 wt_h1 hI) (fun r23 u24 p25 => ?_)
          obtain ⟨Iu24, Fu24_, O83_u24_, O0_u24_, -⟩ := p25
          have Fu24 : ∀ k, 101 ≤ k → u24 k = τ k := fun k hk => (Fu24_ k hk).trans (Fτ k hk)
          have O83_u24 : u24 83 1 = τ 83 1 := O83_u24_.trans O83_τ
          have O0_u24 : u24 0 7 = τ 0 7 := O0_u24_.trans O0_τ
          have b26 := ti_lo x2
          have b27 := ti_hi x2
          have l_0 : (0 : Int32).toInt = 0 := rfl
          exact sl_X3_lots_61 hF (by omega) (by omega) (by omega) (by omega) _ _ _ _ _ Iu24 Fu24 O83_u24 O0_u24 (by omega) (by decide) (by decide)
        have C20 : ¬ (0 : Int) = (0 : Int) := ti_ne c20
        exfalso; omega
      have C19 : ¬ (0 : Int) = (0 : Int) := ti_ne c19
      exfalso; omega
    have C4 : (20 : Int) < x1.toInt := ti_nle c4
    refine sf_ret ?_
    refine sf_in ?_
    rw [f_X3_notBelow_e]
    have b28 := ti_lo x3
    have b29 := ti_hi x3
    refine sf_ite (fun c30 => ?_) (fun c30 => ?_)
    · have C30 : x3.toInt < (0 : Int) := ti_lt c30
      rw [j_X3_notBelow_13_e]
      refine sf_ret ?_
      refine sf_in ?_
      rw [f_X3_firstOf_e]
      refine sf_ite (fun c31 => ?_) (fun c31 => ?_)
      · have C31 : (-6 : Int) = (0 : Int) := ti_eq c31
        exfalso; omega
      have C31 : ¬ (-6 : Int) = (0 : Int) := ti_ne c31
      refine sf_ret ?_
      refine sf_ite (fun c32 => ?_) (fun c32 => ?_)
      · have C32 : (-6 : Int) = (0 : Int) := ti_eq c32
        exfalso; omega
      have C32 : ¬ (-6 : Int) = (0 : Int) := ti_ne c32
      refine sf_bnd (s_X3_refuse hF hI (by decide) (by decide)) (fun r33 u34 p35 => ?_)
      obtain ⟨Iu34, Fu34_, O83_u34_, O0_u34_, p35_1, p35_2, p35_x0⟩ := p35
      have Fu34 : ∀ k, 101 ≤ k → u34 k = τ k := fun k hk => (Fu34_ k hk).trans (Fτ k hk)
      have O83_u34 : u34 83 1 = τ 83 1 := O83_u34_.trans O83_τ
      have O0_u34 : u34 0 7 = τ 0 7 := O0_u34_.trans O0_τ
      replace p35_x0 : r33.toInt = (-6 : Int) := p35_x0
      exact sf_ret ⟨Iu34, Fu34, O83_u34, O0_u34, ti_lo _, ti_hi _⟩
    have C30 : (0 : Int) ≤ x3.toInt := ti_nlt c30
    refine sf_ite (fun c36 => ?_) (fun c36 => ?_)
    · have C36 : (2 : Int) ≤ x3.toInt := ti_le c36
      rw [j_X3_notBelow_13_e]
      refine sf_ret ?_
      refine sf_in ?_
      rw [f_X3_firstOf_e]
      refine sf_ite (fun c37 => ?_) (fun c37 => ?_)
      · have C37 : (-6 : Int) = (0 : Int) := ti_eq c37
        exfalso; omega
      have C37 : ¬ (-6 : Int) = (0 : Int) := ti_ne c37
      refine sf_ret ?_
      refine sf_ite (fun c38 => ?_) (fun c38 => ?_)
      · have C38 : (-6 : Int) = (0 : Int) := ti_eq c38
        exfalso; omega
      have C38 : ¬ (-6 : Int) = (0 : Int) := ti_ne c38
      refine sf_bnd (s_X3_refuse hF hI (by decide) (by decide)) (fun r39 u40 p41 => ?_)
      obtain ⟨Iu40, Fu40_, O83_u40_, O0_u40_, p41_1, p41_2, p41_x0⟩ := p41
      have Fu40 : ∀ k, 101 ≤ k → u40 k = τ k := fun k hk => (Fu40_ k hk).trans (Fτ k hk)
      have O83_u40 : u40 83 1 = τ 83 1 := O83_u40_.trans O83_τ
      have O0_u40 : u40 0 7 = τ 0 7 := O0_u40_.trans O0_τ
      replace p41_x0 : r39.toInt = (-6 : Int) := p41_x0
      exact sf_ret ⟨Iu40, Fu40, O83_u40, O0_u40, ti_lo _, ti_hi _⟩
    have C36 : x3.toInt < (2 : Int) := ti_nle c36
    refine sf_ret ?_
    refine sf_in ?_
    rw [f_X3_firstOf_e]
    refine sf_ite (fun c42 => ?_) (fun c42 => ?_)
    · have C42 : (-6 : Int) = (0 : Int) := ti_eq c42
      exfalso; omega
    have C42 : ¬ (-6 : Int) = (0 : Int) := ti_ne c42
    refine sf_ret ?_
    refine sf_ite (fun c43 => ?_) (fun c43 => ?_)
    · have C43 : (-6 : Int) = (0 : Int) := ti_eq c43
      exfalso; omega
    have C43 : ¬ (-6 : Int) = (0 : Int) := ti_ne c43
    refine sf_bnd (s_X3_refuse hF hI (by decide) (by decide)) (fun r44 u45 p46 => ?_)
    obtain ⟨Iu45, Fu45_, O83_u45_, O0_u45_, p46_1, p46_2, p46_x0⟩ := p46
    have Fu45 : ∀ k, 101 ≤ k → u45 k = τ k := fun k hk => (Fu45_ k hk).trans (Fτ k hk)
    have O83_u45 : u45 83 1 = τ 83 1 := O83_u45_.trans O83_τ
    have O0_u45 : u45 0 7 = τ 0 7 := O0_u45_.trans O0_τ
    replace p46_x0 : r44.toInt = (-6 : Int) := p46_x0
    exact sf_ret ⟨Iu45, Fu45, O83_u45, O0_u45, ti_lo _, ti_hi _⟩
  have C3 : x1.toInt < (1 : Int) := ti_nle c3
  refine sf_ret ?_
  refine sf_in ?_
  rw [f_X3_notBelow_e]
  have b47 := ti_lo x3
  have b48 := ti_hi x3
  refine sf_ite (fun c49 => ?_) (fun c49 => ?_)
  · have C49 : x3.toInt < (0 : Int) := ti_lt c49
    rw [j_X3_notBelow_13_e]
    refine sf_ret ?_
    refine sf_in ?_
    rw [f_X3_firstOf_e]
    refine sf_ite (fun c50 => ?_) (fun c50 => ?_)
    · have C50 : (-4 : Int) = (0 : Int) := ti_eq c50
      exfalso; omega
    have C50 : ¬ (-4 : Int) = (0 : Int) := ti_ne c50
    refine sf_ret ?_
    refine sf_ite (fun c51 => ?_) (fun c51 => ?_)
    · have C51 : (-4 : Int) = (0 : Int) := ti_eq c51
      exfalso; omega
    have C51 : ¬ (-4 : Int) = (0 : Int) := ti_ne c51
    refine sf_bnd (s_X3_refuse hF hI (by decide) (by decide)) (fun r52 u53 p54 => ?_)
    obtain ⟨Iu53, Fu53_, O83_u53_, O0_u53_, p54_1, p54_2, p54_x0⟩ := p54
    have Fu53 : ∀ k, 101 ≤ k → u53 k = τ k := fun k hk => (Fu53_ k hk).trans (Fτ k hk)
    have O83_u53 : u53 83 1 = τ 83 1 := O83_u53_.trans O83_τ
    have O0_u53 : u53 0 7 = τ 0 7 := O0_u53_.trans O0_τ
    replace p54_x0 : r52.toInt = (-4 : Int) := p54_x0
    exact sf_ret ⟨Iu53, Fu53, O83_u53, O0_u53, ti_lo _, ti_hi _⟩
  have C49 : (0 : Int) ≤ x3.toInt := ti_nlt c49
  refine sf_ite (fun c55 => ?_) (fun c55 => ?_)
  · have C55 : (2 : Int) ≤ x3.toInt := ti_le c55
    rw [j_X3_notBelow_13_e]
    refine sf_ret ?_
    refine sf_in ?_
    rw [f_X3_firstOf_e]
    refine sf_ite (fun c56 => ?_) (fun c56 => ?_)
    · have C56 : (-4 : Int) = (0 : Int) := ti_eq c56
      exfalso; omega
    have C56 : ¬ (-4 : Int) = (0 : Int) := ti_ne c56
    refine sf_ret ?_
    refine sf_ite (fun c57 => ?_) (fun c57 => ?_)
    · have C57 : (-4 : Int) = (0 : Int) := ti_eq c57
      exfalso; omega
    have C57 : ¬ (-4 : Int) = (0 : Int) := ti_ne c57
    refine sf_bnd (s_X3_refuse hF hI (by decide) (by decide)) (fun r58 u59 p60 => ?_)
    obtain ⟨Iu59, Fu59_, O83_u59_, O0_u59_, p60_1, p60_2, p60_x0⟩ := p60
    have Fu59 : ∀ k, 101 ≤ k → u59 k = τ k := fun k hk => (Fu59_ k hk).trans (Fτ k hk)
    have O83_u59 : u59 83 1 = τ 83 1 := O83_u59_.trans O83_τ
    have O0_u59 : u59 0 7 = τ 0 7 := O0_u59_.trans O0_τ
    replace p60_x0 : r58.toInt = (-4 : Int) := p60_x0
    exact sf_ret ⟨Iu59, Fu59, O83_u59, O0_u59, ti_lo _, ti_hi _⟩
  have C55 : x3.toInt < (2 : Int) := ti_nle c55
  refine sf_ret ?_
  refine sf_in ?_
  rw [f_X3_firstOf_e]
  refine sf_ite (fun c61 => ?_) (fun c61 => ?_)
  · have C61 : (-4 : Int) = (0 : Int) := ti_eq c61
    exfalso; omega
  have C61 : ¬ (-4 : Int) = (0 : Int) := ti_ne c61
  refine sf_ret ?_
  refine sf_ite (fun c62 => ?_) (fun c62 => ?_)
  · have C62 : (-4 : Int) = (0 : Int) := ti_eq c62
    exfalso; omega
  have C62 : ¬ (-4 : Int) = (0 : Int) := ti_ne c62
  refine sf_bnd (s_X3_refuse hF hI (by decide) (by decide)) (fun r63 u64 p65 => ?_)
  obtain ⟨Iu64, Fu64_, O83_u64_, O0_u64_, p65_1, p65_2, p65_x0⟩ := p65
  have Fu64 : ∀ k, 101 ≤ k → u64 k = τ k := fun k hk => (Fu64_ k hk).trans (Fτ k hk)
  have O83_u64 : u64 83 1 = τ 83 1 := O83_u64_.trans O83_τ
  have O0_u64 : u64 0 7 = τ 0 7 := O0_u64_.trans O0_τ
  replace p65_x0 : r63.toInt = (-4 : Int) := p65_x0
  exact sf_ret ⟨Iu64, Fu64, O83_u64, O0_u64, ti_lo _, ti_hi _⟩
set_option maxHeartbeats 4000000 in
set_option maxRecDepth 100000 in
theorem s_X3_image {F : Nat} (hF : 100000 ≤ F) {τ : Mem} (hI : wiX τ) : sf (f_X3_image F τ) (fun r s => wiX s ∧ (∀ k, 101 ≤ k → s k = τ k) ∧ s 83 1 = τ 83 1 ∧ s 0 7 = τ 0 7 ∧ -2147483648 ≤ r.toInt ∧ r.toInt ≤ 2147483647) := by
  have Fτ : ∀ k, 101 ≤ k → τ k = τ k := fun _ _ => rfl
  have O83_τ : τ 83 1 = τ 83 1 := rfl
  have O0_τ : τ 0 7 = τ 0 7 := rfl
  rw [f_X3_image_e]
  refine sf_bnd (s_X0_takeFrom hF wt_h47 wt_h1 hI) (fun r1 u2 p3 => ?_)
  obtain ⟨Iu2, Fu2_, O83_u2_, O0_u2_, -⟩ := p3
  have Fu2 : ∀ k, 101 ≤ k → u2 k = τ k := fun k hk => (Fu2_ k hk).trans (Fτ k hk)
  have O83_u2 : u2 83 1 = τ 83 1 := O83_u2_.trans O83_τ
  have O0_u2 : u2 0 7 = τ 0 7 := O0_u2_.trans O0_τ
  refine sf_lt (fun s4 hs4 => ?_)
  have Is4 : wiX s4 := by rw [hs4]; exact wx_oth Iu2 (fun q hq e => by have := wt_Hcs hq; omega) (fun e => by omega) (fun e => by omega) (fun e => by omega)
  have Fs4 : ∀ k, 101 ≤ k → s4 k = τ k := fun k hk => (show s4 k = u2 k by rw [hs4, up2_k (by omega)]).trans (Fu2 k hk)
  have O83_s4 : s4 83 1 = τ 83 1 := (show s4 83 1 = u2 83 1 by rw [hs4, up2_k (by omega)]).trans O83_u2
  have O0_s4 : s4 0 7 = τ 0 7 := (show s4 0 7 = u2 0 7 by rw [hs4, up2_i (by decide)]).trans O0_u2
  have b5 := ti_lo (u2 1 9)
  have b6 := ti_hi (u2 1 9)
  have e7 : (s4 1 9).toInt = (u2 1 9).toInt := congrArg Int32.toInt (by rw [hs4, up2_k (by omega)])
  have b8 := ti_lo (s4 1 9)
  have b9 := ti_hi (s4 1 9)
  exact sf_ret ⟨Is4, Fs4, O83_s4, O0_s4, ti_lo _, ti_hi _⟩
set_option maxHeartbeats 4000000 in
set_option maxRecDepth 100000 in
theorem s_X3_restore {F : Nat} (hF : 100000 ≤ F) {τ : Mem} (hI : wiX τ) : sf (f_X3_restore F τ) (fun r s => wiX s ∧ (∀ k, 101 ≤ k → s k = τ k) ∧ s 83 1 = τ 83 1 ∧ s 0 7 = τ 0 7 ∧ -2147483648 ≤ r.toInt ∧ r.toInt ≤ 2147483647) := by
  have Fτ : ∀ k, 101 ≤ k → τ k = τ k := fun _ _ => rfl
  have O83_τ : τ 83 1 = τ 83 1 := rfl
  have O0_τ : τ 0 7 = τ 0 7 := rfl
  rw [f_X3_restore_e]
  have b1 := ti_lo (τ 0 3)
  have b2 := ti_hi (τ 0 3)
  refine sf_ite (fun c3 => ?_) (fun c3 => ?_)
  · have C3 : (τ 0 3).toInt = (0 : Int) := ti_eq c3
    refine sf_bnd (s_X3_refuse hF hI (by decide) (by decide)) (fun r4 u5 p6 => ?_)
    obtain ⟨Iu5, Fu5_, O83_u5_, O0_u5_, p6_1, p6_2, p6_x0⟩ := p6
    have Fu5 : ∀ k, 101 ≤ k → u5 k = τ k := fun k hk => (Fu5_ k hk).trans (Fτ k hk)
    have O83_u5 : u5 83 1 = τ 83 1 := O83_u5_.trans O83_τ
    have O0_u5 : u5 0 7 = τ 0 7 := O0_u5_.trans O0_τ
    replace p6_x0 : r4.toInt = (-3 : Int) := p6_x0
    exact sf_ret ⟨Iu5, Fu5, O83_u5, O0_u5, ti_lo _, ti_hi _⟩
  have C3 : ¬ (τ 0 3).toInt = (0 : Int) := ti_ne c3
  refine sf_bnd (s_X0_takeFrom hF wt_h1 wt_h47 hI) (fun r7 u8 p9 => ?_)
  obtain ⟨Iu8, Fu8_, O83_u8_, O0_u8_, -⟩ := p9
  have Fu8 : ∀ k, 101 ≤ k → u8 k = τ k := fun k hk => (Fu8_ k hk).trans (Fτ k hk)
  have O83_u8 : u8 83 1 = τ 83 1 := O83_u8_.trans O83_τ
  have O0_u8 : u8 0 7 = τ 0 7 := O0_u8_.trans O0_τ
  refine sf_bnd (s_X2_forget hF Iu8) (fun r10 u11 p12 => ?_)
  obtain ⟨Iu11, Fu11_, O83_u11_, O0_u11_, -⟩ := p12
  have Fu11 : ∀ k, 101 ≤ k → u11 k = τ k := fun k hk => (Fu11_ k hk).trans (Fu8 k hk)
  have O83_u11 : u11 83 1 = τ 83 1 := O83_u11_.trans O83_u8
  have O0_u11 : u11 0 7 = τ 0 7 := O0_u11_.trans O0_u8
  have b13 := ti_lo (u11 1 9)
  have b14 := ti_hi (u11 1 9)
  exact sf_ret ⟨Iu11, Fu11, O83_u11, O0_u11, ti_lo _, ti_hi _⟩
set_option maxHeartbeats 4000000 in
set_option maxRecDepth 100000 in
theorem s_X3_count {F : Nat} (hF : 100000 ≤ F) {x1 : Int32} {τ : Mem} (hI : wiX τ) : sf (f_X3_count F x1 τ) (fun r s => wiX s ∧ (∀ k, 101 ≤ k → s k = τ k) ∧ s 83 1 = τ 83 1 ∧ s 0 7 = τ 0 7 ∧ -2147483648 ≤ r.toInt ∧ r.toInt ≤ 2147483647) := by
  have Fτ : ∀ k, 101 ≤ k → τ k = τ k := fun _ _ => rfl
  have O83_τ : τ 83 1 = τ 83 1 := rfl
  have O0_τ : τ 0 7 = τ 0 7 := rfl
  rw [f_X3_count_e]
  have b1 := ti_lo x1
  have b2 := ti_hi x1
  refine sf_ite (fun c3 => ?_) (fun c3 => ?_)
  · have C3 : x1.toInt < (11 : Int) := ti_lt c3
    rw [j_X3_count_22_e]
    refine sf_ite (fun c4 => ?_) (fun c4 => ?_)
    · have C4 : x1.toInt = (0 : Int) := ti_eq c4
      have m5 := wx_X0_0 hI wt_h1
      exact sf_ret ⟨hI, Fτ, O83_τ, O0_τ, ti_lo _, ti_hi _⟩
    have C4 : ¬ x1.toInt = (0 : Int) := ti_ne c4
    refine sf_ite (fun c6 => ?_) (fun c6 => ?_)
    · have C6 : x1.toInt = (1 : Int) := ti_eq c6
      have m7 := wx_X0_2 hI wt_h1
      exact sf_ret ⟨hI, Fτ, O83_τ, O0_τ, ti_lo _, ti_hi _⟩
    have C6 : ¬ x1.toInt = (1 : Int) := ti_ne c6
    refine sf_ite (fun c8 => ?_) (fun c8 => ?_)
    · have C8 : x1.toInt = (2 : Int) := ti_eq c8
      have b9 := ti_lo (τ 1 9)
      have b10 := ti_hi (τ 1 9)
      exact sf_ret ⟨hI, Fτ, O83_τ, O0_τ, ti_lo _, ti_hi _⟩
    have C8 : ¬ x1.toInt = (2 : Int) := ti_ne c8
    refine sf_ite (fun c11 => ?_) (fun c11 => ?_)
    · have C11 : x1.toInt = (3 : Int) := ti_eq c11
      have b12 := ti_lo (τ 1 8)
      have b13 := ti_hi (τ 1 8)
      exact sf_ret ⟨hI, Fτ, O83_τ, O0_τ, ti_lo _, ti_hi _⟩
    have C11 : ¬ x1.toInt = (3 : Int) := ti_ne c11
    refine sf_ite (fun c14 => ?_) (fun c14 => ?_)
    · have C14 : x1.toInt = (4 : Int) := ti_eq c14
      refine sf_bnd (s_X0_reckon hF wt_h1 hI) (fun r15 u16 p17 => ?_)
      obtain ⟨Iu16, Fu16_, O83_u16_, O0_u16_, -⟩ := p17
      have Fu16 : ∀ k, 101 ≤ k → u16 k = τ k := fun k hk => (Fu16_ k hk).trans (Fτ k hk)
      have O83_u16 : u16 83 1 = τ 83 1 := O83_u16_.trans O83_τ
      have O0_u16 : u16 0 7 = τ 0 7 := O0_u16_.trans O0_τ
      refine sf_bnd (s_X0_held hF wt_h1 Iu16 (by decide) (by decide)) (fun r18 u19 p20 => ?_)
      obtain ⟨e9, p20_1, p20_2⟩ := p20
      have e9 := e9.symm
      subst e9
      have b21 := ti_lo r18
      have b22 := ti_hi r18
      refine sf_bnd (s_J6_bitCount_0f7a4 hF Iu16) (fun r23 u24 p25 => ?_)
      obtain ⟨e9, p25_1, p25_2⟩ := p25
      have e9 := e9.symm
      subst e9
      have b26 := ti_lo r23
      have b27 := ti_hi r23
      exact sf_ret ⟨Iu16, Fu16, O83_u16, O0_u16, ti_lo _, ti_hi _⟩
    have C14 : ¬ x1.toInt = (4 : Int) := ti_ne c14
    refine sf_ite (fun c28 => ?_) (fun c28 => ?_)
    · have C28 : x1.toInt = (5 : Int) := ti_eq c28
      refine sf_bnd (s_X0_allShown hF wt_h1 hI) (fun r29 u30 p31 => ?_)
      obtain ⟨e9, p31_1, p31_2⟩ := p31
      have e9 := e9.symm
      subst e9
      have b32 := ti_lo r29
      have b33 := ti_hi r29
      refine sf_bnd (s_J6_bitCount_0f7a4 hF hI) (fun r34 u35 p36 => ?_)
      obtain ⟨e9, p36_1, p36_2⟩ := p36
      have e9 := e9.symm
      subst e9
      have b37 := ti_lo r34
      have b38 := ti_hi r34
      exact sf_ret ⟨hI, Fτ, O83_τ, O0_τ, ti_lo _, ti_hi _⟩
    have C28 : ¬ x1.toInt = (5 : Int) := ti_ne c28
    refine sf_ite (fun c39 => ?_) (fun c39 => ?_)
    · have C39 : x1.toInt = (6 : Int) := ti_eq c39
      refine sf_bnd (s_X0_hoursOfAll hF wt_h1 hI) (fun r40 u41 p42 => ?_)
      obtain ⟨e9, p42_1, p42_2⟩ := p42
      have e9 := e9.symm
      subst e9
      have b43 := ti_lo r40
      have b44 := ti_hi r40
      exact sf_ret ⟨hI, Fτ, O83_τ, O0_τ, ti_lo _, ti_hi _⟩
    have C39 : ¬ x1.toInt = (6 : Int) := ti_ne c39
    refine sf_ite (fun c45 => ?_) (fun c45 => ?_)
    · have C45 : x1.toInt = (7 : Int) := ti_eq c45
      have m46 := wx_X1_1 hI
      exact sf_ret ⟨hI, Fτ, O83_τ, O0_τ, ti_lo _, ti_hi _⟩
    have C45 : ¬ x1.toInt = (7 : Int) := ti_ne c45
    refine sf_ite (fun c47 => ?_) (fun c47 => ?_)
    · have C47 : x1.toInt = (8 : Int) := ti_eq c47
      have m48 := wx_X3_7 hI
      exact sf_ret ⟨hI, Fτ, O83_τ, O0_τ, ti_lo _, ti_hi _⟩
    have C47 : ¬ x1.toInt = (8 : Int) := ti_ne c47
    refine sf_ite (fun c49 => ?_) (fun c49 => ?_)
    · have C49 : x1.toInt = (9 : Int) := ti_eq c49
      have m50 := wx_X2_5 hI
      exact sf_ret ⟨hI, Fτ, O83_τ, O0_τ, ti_lo _, ti_hi _⟩
    have C49 : ¬ x1.toInt = (9 : Int) := ti_ne c49
    exact sf_ret ⟨hI, Fτ, O83_τ, O0_τ, ti_lo _, ti_hi _⟩
  have C3 : (11 : Int) ≤ x1.toInt := ti_nlt c3
  refine sf_ite (fun c51 => ?_) (fun c51 => ?_)
  · have C51 : (16 : Int) < x1.toInt := ti_lt c51
    rw [j_X3_count_22_e]
    refine sf_ite (fun c52 => ?_) (fun c52 => ?_)
    · have C52 : x1.toInt = (0 : Int) := ti_eq c52
      exfalso; omega
    have C52 : ¬ x1.toInt = (0 : Int) := ti_ne c52
    refine sf_ite (fun c53 => ?_) (fun c53 => ?_)
    · have C53 : x1.toInt = (1 : Int) := ti_eq c53
      exfalso; omega
    have C53 : ¬ x1.toInt = (1 : Int) := ti_ne c53
    refine sf_ite (fun c54 => ?_) (fun c54 => ?_)
    · have C54 : x1.toInt = (2 : Int) := ti_eq c54
      exfalso; omega
    have C54 : ¬ x1.toInt = (2 : Int) := ti_ne c54
    refine sf_ite (fun c55 => ?_) (fun c55 => ?_)
    · have C55 : x1.toInt = (3 : Int) := ti_eq c55
      exfalso; omega
    have C55 : ¬ x1.toInt = (3 : Int) := ti_ne c55
    refine sf_ite (fun c56 => ?_) (fun c56 => ?_)
    · have C56 : x1.toInt = (4 : Int) := ti_eq c56
      exfalso; omega
    have C56 : ¬ x1.toInt = (4 : Int) := ti_ne c56
    refine sf_ite (fun c57 => ?_) (fun c57 => ?_)
    · have C57 : x1.toInt = (5 : Int) := ti_eq c57
      exfalso; omega
    have C57 : ¬ x1.toInt = (5 : Int) := ti_ne c57
    refine sf_ite (fun c58 => ?_) (fun c58 => ?_)
    · have C58 : x1.toInt = (6 : Int) := ti_eq c58
      exfalso; omega
    have C58 : ¬ x1.toInt = (6 : Int) := ti_ne c58
    refine sf_ite (fun c59 => ?_) (fun c59 => ?_)
    · have C59 : x1.toInt = (7 : Int) := ti_eq c59
      exfalso; omega
    have C59 : ¬ x1.toInt = (7 : Int) := ti_ne c59
    refine sf_ite (fun c60 => ?_) (fun c60 => ?_)
    · have C60 : x1.toInt = (8 : Int) := ti_eq c60
      exfalso; omega
    have C60 : ¬ x1.toInt = (8 : Int) := ti_ne c60
    refine sf_ite (fun c61 => ?_) (fun c61 => ?_)
    · have C61 : x1.toInt = (9 : Int) := ti_eq c61
      exfalso; omega
    have C61 : ¬ x1.toInt = (9 : Int) := ti_ne c61
    exact sf_ret ⟨hI, Fτ, O83_τ, O0_τ, ti_lo _, ti_hi _⟩
  have C51 : x1.toInt ≤ (16 : Int) := ti_nlt c51
  have t62 : (x1 - (10 : Int32)).toInt = x1.toInt - (10 : Int) := ti_sub (show -2147483648 ≤ x1.toInt - (10 : Int) by omega) (show x1.toInt - (10 : Int) ≤ 2147483647 by omega)
  refine sf_chk (ti_in (by omega) (by omega)) ?_
  have v63 : Int32.toNatClampNeg (x1 - (10 : Int32)) = (x1 - (10 : Int32)).toInt.toNat := rfl
  have b64 := ti_lo (τ 86 (Int32.toNatClampNeg (x1 - (10 : Int32))))
  have b65 := ti_hi (τ 86 (Int32.toNatClampNeg (x1 - (10 : Int32))))
  exact sf_ret ⟨hI, Fτ, O83_τ, O0_τ, ti_lo _, ti_hi _⟩
