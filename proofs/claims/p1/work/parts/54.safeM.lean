set_option maxHeartbeats 4000000 in
set_option maxRecDepth 100000 in
theorem sl_X4_last_33 {F : Nat} (hF : 73786976294838206464 ≤ F) {x1 : Int32} {x2 : Int32} {x3 : Int32} {k13 : Int32 → Int32 → Mem → Option (Int32 × Mem)} {τ : Mem} (x1_1 : 0 ≤ x1.toInt) (x1_2 : x1.toInt ≤ 999) (x2_1 : 0 ≤ x2.toInt) (x2_2 : x2.toInt ≤ 7) {N13 : Nat} (hM13 : 8 < x2.toInt + (N13 + 1)) (hk13 : ∀ (x1 : Int32) (x2 : Int32) (σ : Mem), wiM σ → (∀ k, k < 101 → σ k = τ k) → σ 101 15 = τ 101 15 → σ 101 34 = τ 101 34 → σ 101 1 = τ 101 1 → σ 101 30 = τ 101 30 → σ 101 18 = τ 101 18 → 8 < x2.toInt + N13 → 0 ≤ x1.toInt → x1.toInt ≤ 999 → 0 ≤ x2.toInt → x2.toInt ≤ 8 → sf (k13 x1 x2 σ) (fun r s => wiM s ∧ (∀ k, k < 101 → s k = τ k) ∧ s 101 15 = τ 101 15 ∧ s 101 34 = τ 101 34 ∧ s 101 1 = τ 101 1 ∧ s 101 30 = τ 101 30 ∧ s 101 18 = τ 101 18 ∧ 0 ≤ r.toInt ∧ r.toInt ≤ 999)) : ∀ (N : Nat) (x4 : Int32) (σ : Mem), wiM σ → (∀ k, k < 101 → σ k = τ k) → σ 101 15 = τ 101 15 → σ 101 34 = τ 101 34 → σ 101 1 = τ 101 1 → σ 101 30 = τ 101 30 → σ 101 18 = τ 101 18 → x4.toInt < N → 0 ≤ x4.toInt → x4.toInt ≤ 999 → sf (lp_X4_last_33 F k13 x1 x2 x3 N x4 σ) (fun r s => wiM s ∧ (∀ k, k < 101 → s k = τ k) ∧ s 101 15 = τ 101 15 ∧ s 101 34 = τ 101 34 ∧ s 101 1 = τ 101 1 ∧ s 101 30 = τ 101 30 ∧ s 101 18 = τ 101 18 ∧ 0 ≤ r.toInt ∧ r.toInt ≤ 999) := by
  intro N
  induction N with
  | zero => intro x4 σ hI Fσ Of15_σ Of34_σ Of1_σ Of30_σ Of18_σ hN x4_1 x4_2; exfalso; omega
  | succ N ih =>
    intro x4 σ hI Fσ Of15_σ Of34_σ Of1_σ Of30_σ Of18_σ hN x4_1 x4_2
    rw [lp_X4_last_33_s]
    refine sf_ite (fun c1 => ?_) (fun c1 => ?_)
    · have C1 : x4.toInt ≤ (0 : Int) := ti_le c1
      rw [j_X4_last_57_e]
      refine sf_ite (fun c2 => ?_) (fun c2 => ?_)
      · have C2 : x4.toInt ≤ x1.toInt := ti_le c2
        rw [j_X4_last_69_e]
        have t3 : (x2 + (1 : Int32)).toInt = x2.toInt + (1 : Int) := ti_add (show -2147483648 ≤ x2.toInt + (1 : Int) by omega) (show x2.toInt + (1 : Int) ≤ 2147483647 by omega)
        exact hk13 _ _ _ hI Fσ Of15_σ Of34_σ Of1_σ Of30_σ Of18_σ (by omega) (by omega) (by omega) (by omega) (by omega)
      have C2 : x1.toInt < x4.toInt := ti_nle c2
      exfalso; omega
    have C1 : (0 : Int) < x4.toInt := ti_nle c1
    have t4 : (x4 - (1 : Int32)).toInt = x4.toInt - (1 : Int) := ti_sub (show -2147483648 ≤ x4.toInt - (1 : Int) by omega) (show x4.toInt - (1 : Int) ≤ 2147483647 by omega)
    refine sf_bnd (s_X4_ownerIn hF hI (by omega) (by omega) (by omega) (by omega)) (fun r5 u6 p7 => ?_)
    obtain ⟨Iu6, Fu6_, Of15_u6_, Of34_u6_, Of1_u6_, Of30_u6_, Of18_u6_, p7_1, p7_2⟩ := p7
    have Fu6 : ∀ k, k < 101 → u6 k = τ k := fun k hk => (Fu6_ k hk).trans (Fσ k hk)
    have Of15_u6 : u6 101 15 = τ 101 15 := Of15_u6_.trans Of15_σ
    have Of34_u6 : u6 101 34 = τ 101 34 := Of34_u6_.trans Of34_σ
    have Of1_u6 : u6 101 1 = τ 101 1 := Of1_u6_.trans Of1_σ
    have Of30_u6 : u6 101 30 = τ 101 30 := Of30_u6_.trans Of30_σ
    have Of18_u6 : u6 101 18 = τ 101 18 := Of18_u6_.trans Of18_σ
    have b8 := ti_lo x3
    have b9 := ti_hi x3
    refine sf_ite (fun c10 => ?_) (fun c10 => ?_)
    · have C10 : r5.toInt = x3.toInt := ti_eq c10
      have t11 : (x4 + (-1 : Int32)).toInt = x4.toInt + (-1 : Int) := ti_add (show -2147483648 ≤ x4.toInt + (-1 : Int) by omega) (show x4.toInt + (-1 : Int) ≤ 2147483647 by omega)
      exact ih _ _ Iu6 Fu6 Of15_u6 Of34_u6 Of1_u6 Of30_u6 Of18_u6 (by omega) (by omega) (by omega)
    have C10 : ¬ r5.toInt = x3.toInt := ti_ne c10
    rw [j_X4_last_57_e]
    refine sf_ite (fun c12 => ?_) (fun c12 => ?_)
    · have C12 : x4.toInt ≤ x1.toInt := ti_le c12
      rw [j_X4_last_69_e]
      have t13 : (x2 + (1 : Int32)).toInt = x2.toInt + (1 : Int) := ti_add (show -2147483648 ≤ x2.toInt + (1 : Int) by omega) (show x2.toInt + (1 : Int) ≤ 2147483647 by omega)
      exact hk13 _ _ _ Iu6 Fu6 Of15_u6 Of34_u6 Of1_u6 Of30_u6 Of18_u6 (by omega) (by omega) (by omega) (by omega) (by omega)
    have C12 : x1.toInt < x4.toInt := ti_nle c12
    rw [j_X4_last_69_e]
    have t14 : (x2 + (1 : Int32)).toInt = x2.toInt + (1 : Int) := ti_add (show -2147483648 ≤ x2.toInt + (1 : Int) by omega) (show x2.toInt + (1 : Int) ≤ 2147483647 by omega)
    exact hk13 _ _ _ Iu6 Fu6 Of15_u6 Of34_u6 Of1_u6 Of30_u6 Of18_u6 (by omega) (by omega) (by omega) (by omega) (by omega)
set_option maxHeartbeats 4000000 in
set_option maxRecDepth 100000 in
theorem sl_X4_last_13 {F : Nat} (hF : 73786976294838206464 ≤ F) {τ : Mem} : ∀ (N : Nat) (x1 : Int32) (x2 : Int32) (σ : Mem), wiM σ → (∀ k, k < 101 → σ k = τ k) → σ 101 15 = τ 101 15 → σ 101 34 = τ 101 34 → σ 101 1 = τ 101 1 → σ 101 30 = τ 101 30 → σ 101 18 = τ 101 18 → 8 < x2.toInt + N → 0 ≤ x1.toInt → x1.toInt ≤ 999 → 0 ≤ x2.toInt → x2.toInt ≤ 8 → sf (lp_X4_last_13 F N x1 x2 σ) (fun r s => wiM s ∧ (∀ k, k < 101 → s k = τ k) ∧ s 101 15 = τ 101 15 ∧ s 101 34 = τ 101 34 ∧ s 101 1 = τ 101 1 ∧ s 101 30 = τ 101 30 ∧ s 101 18 = τ 101 18 ∧ 0 ≤ r.toInt ∧ r.toInt ≤ 999) := by
  intro N
  induction N with
  | zero => intro x1 x2 σ hI Fσ Of15_σ Of34_σ Of1_σ Of30_σ Of18_σ hN x1_1 x1_2 x2_1 x2_2; exfalso; omega
  | succ N ih =>
    intro x1 x2 σ hI Fσ Of15_σ Of34_σ Of1_σ Of30_σ Of18_σ hN x1_1 x1_2 x2_1 x2_2
    rw [lp_X4_last_13_s]
    refine sf_ite (fun c1 => ?_) (fun c1 => ?_)
    · have C1 : (8 : Int) ≤ x2.toInt := ti_le c1
      exact sf_ret ⟨hI, Fσ, Of15_σ, Of34_σ, Of1_σ, Of30_σ, Of18_σ, by omega, by omega⟩
    have C1 : x2.toInt < (8 : Int) := ti_nle c1
    refine sf_bnd (s_X4_ownerIn hF hI (by omega) (by omega) (by decide) (by decide)) (fun r2 u3 p4 => ?_)
    obtain ⟨Iu3, Fu3_, Of15_u3_, Of34_u3_, Of1_u3_, Of30_u3_, Of18_u3_, p4_1, p4_2⟩ := p4
    have Fu3 : ∀ k, k < 101 → u3 k = τ k := fun k hk => (Fu3_ k hk).trans (Fσ k hk)
    have Of15_u3 : u3 101 15 = τ 101 15 := Of15_u3_.trans Of15_σ
    have Of34_u3 : u3 101 34 = τ 101 34 := Of34_u3_.trans Of34_σ
    have Of1_u3 : u3 101 1 = τ 101 1 := Of1_u3_.trans Of1_σ
    have Of30_u3 : u3 101 30 = τ 101 30 := Of30_u3_.trans Of30_σ
    have Of18_u3 : u3 101 18 = τ 101 18 := Of18_u3_.trans Of18_σ
    have l_999 : (999 : Int32).toInt = 999 := rfl
    exact sl_X4_last_33 hF (by omega) (by omega) (by omega) (by omega) (by omega) ih _ _ _ Iu3 Fu3 Of15_u3 Of34_u3 Of1_u3 Of30_u3 Of18_u3 (by omega) (by decide) (by decide)
set_option maxHeartbeats 4000000 in
set_option maxRecDepth 100000 in
theorem s_X4_last {F : Nat} (hF : 73786976294838206464 ≤ F) {τ : Mem} (hI : wiM τ) : sf (f_X4_last F τ) (fun r s => wiM s ∧ (∀ k, k < 101 → s k = τ k) ∧ s 101 15 = τ 101 15 ∧ s 101 34 = τ 101 34 ∧ s 101 1 = τ 101 1 ∧ s 101 30 = τ 101 30 ∧ s 101 18 = τ 101 18 ∧ 0 ≤ r.toInt ∧ r.toInt ≤ 999) := by
  have Fτ : ∀ k, k < 101 → τ k = τ k := fun _ _ => rfl
  have Of15_τ : τ 101 15 = τ 101 15 := rfl
  have Of34_τ : τ 101 34 = τ 101 34 := rfl
  have Of1_τ : τ 101 1 = τ 101 1 := rfl
  have Of30_τ : τ 101 30 = τ 101 30 := rfl
  have Of18_τ : τ 101 18 = τ 101 18 := rfl
  rw [f_X4_last_e]
  refine sf_lt (fun s1 hs1 => ?_)
  have Is1 : wiM s1 := by rw [hs1]; exact wm_fld hI (by decide) (by decide) (by decide) (by decide) (by decide) (by decide) (by decide)
  have Fs1 : ∀ k, k < 101 → s1 k = τ k := fun k hk => (show s1 k = τ k by rw [hs1, up2_k (by omega)]).trans (Fτ k hk)
  have Of15_s1 : s1 101 15 = τ 101 15 := (show s1 101 15 = τ 101 15 by rw [hs1, up2_i (by decide)]).trans Of15_τ
  have Of34_s1 : s1 101 34 = τ 101 34 := (show s1 101 34 = τ 101 34 by rw [hs1, up2_i (by decide)]).trans Of34_τ
  have Of1_s1 : s1 101 1 = τ 101 1 := (show s1 101 1 = τ 101 1 by rw [hs1, up2_i (by decide)]).trans Of1_τ
  have Of30_s1 : s1 101 30 = τ 101 30 := (show s1 101 30 = τ 101 30 by rw [hs1, up2_i (by decide)]).trans Of30_τ
  have Of18_s1 : s1 101 18 = τ 101 18 := (show s1 101 18 = τ 101 18 by rw [hs1, up2_i (by decide)]).trans Of18_τ
  refine sf_bnd (s_X4_layBrings hF Is1) (fun r2 u3 p4 => ?_)
  obtain ⟨Iu3, Fu3_, Of15_u3_, Of34_u3_, Of1_u3_, Of30_u3_, Of18_u3_, -⟩ := p4
  have Fu3 : ∀ k, k < 101 → u3 k = τ k := fun k hk => (Fu3_ k hk).trans (Fs1 k hk)
  have Of15_u3 : u3 101 15 = τ 101 15 := Of15_u3_.trans Of15_s1
  have Of34_u3 : u3 101 34 = τ 101 34 := Of34_u3_.trans Of34_s1
  have Of1_u3 : u3 101 1 = τ 101 1 := Of1_u3_.trans Of1_s1
  have Of30_u3 : u3 101 30 = τ 101 30 := Of30_u3_.trans Of30_s1
  have Of18_u3 : u3 101 18 = τ 101 18 := Of18_u3_.trans Of18_s1
  have l_0 : (0 : Int32).toInt = 0 := rfl
  exact sl_X4_last_13 hF _ _ _ _ Iu3 Fu3 Of15_u3 Of34_u3 Of1_u3 Of30_u3 Of18_u3 (by omega) (by decide) (by decide) (by decide) (by decide)
set_option maxHeartbeats 4000000 in
set_option maxRecDepth 100000 in
theorem s_X4_countIn {F : Nat} (hF : 73786976294838206464 ≤ F) {x1 : Int32} {x2 : Int32} {x3 : Int32} {τ : Mem} (hI : wiM τ) (x1_1 : 0 ≤ x1.toInt) (x1_2 : x1.toInt ≤ 4) (x2_1 : 0 ≤ x2.toInt) (x2_2 : x2.toInt ≤ 7) (x3_1 : 0 ≤ x3.toInt) (x3_2 : x3.toInt ≤ 999) : sf (f_X4_countIn F x1 x2 x3 τ) (fun r s => s = τ ∧ -2147483648 ≤ r.toInt ∧ r.toInt ≤ 2147483647) := by
  rw [f_X4_countIn_e]
  have t1 : ((8 : Int32) * x1).toInt = (8 : Int) * x1.toInt := ti_mul (show -2147483648 ≤ (8 : Int) * x1.toInt by omega) (show (8 : Int) * x1.toInt ≤ 2147483647 by omega)
  have t2 : (((8 : Int32) * x1) + x2).toInt = ((8 : Int32) * x1).toInt + x2.toInt := ti_add (show -2147483648 ≤ ((8 : Int32) * x1).toInt + x2.toInt by omega) (show ((8 : Int32) * x1).toInt + x2.toInt ≤ 2147483647 by omega)
  refine sf_chk (ti_in (by omega) (by omega)) ?_
  have v3 : Int32.toNatClampNeg (((8 : Int32) * x1) + x2) = (((8 : Int32) * x1) + x2).toInt.toNat := rfl
  have b4 := ti_lo (τ 107 (Int32.toNatClampNeg (((8 : Int32) * x1) + x2)))
  have b5 := ti_hi (τ 107 (Int32.toNatClampNeg (((8 : Int32) * x1) + x2)))
  have b6 := ti_lo (τ 109 (Int32.toNatClampNeg (((8 : Int32) * x1) + x2)))
  have b7 := ti_hi (τ 109 (Int32.toNatClampNeg (((8 : Int32) * x1) + x2)))
  have b8 := ti_lo (x3 * (τ 109 (Int32.toNatClampNeg (((8 : Int32) * x1) + x2))))
  have b9 := ti_hi (x3 * (τ 109 (Int32.toNatClampNeg (((8 : Int32) * x1) + x2))))
  have b10 := ti_lo ((τ 107 (Int32.toNatClampNeg (((8 : Int32) * x1) + x2))) + (x3 * (τ 109 (Int32.toNatClampNeg (((8 : Int32) * x1) + x2)))))
  have b11 := ti_hi ((τ 107 (Int32.toNatClampNeg (((8 : Int32) * x1) + x2))) + (x3 * (τ 109 (Int32.toNatClampNeg (((8 : Int32) * x1) + x2)))))
  refine sf_bnd (s_X4_held hF hI) (fun r12 u13 p14 => ?_)
  obtain ⟨e9, p14_1, p14_2⟩ := p14
  have e9 := e9.symm
  subst e9
  have b15 := ti_lo r12
  have b16 := ti_hi r12
  exact sf_ret ⟨rfl, ti_lo _, ti_hi _⟩
set_option maxHeartbeats 4000000 in
set_option maxRecDepth 100000 in
theorem sl_X4_joint_91 {F : Nat} (hF : 73786976294838206464 ≤ F) {x1 : Int32} {x2 : Int32} {x3 : Int32} {x5 : Int32} {x6 : Int32} {x7 : Int32} {k50 : Int32 → Int32 → Mem → Option (Int32 × Mem)} {τ : Mem} (x1_1 : 0 ≤ x1.toInt) (x1_2 : x1.toInt ≤ 4) (x2_1 : 0 ≤ x2.toInt) (x2_2 : x2.toInt ≤ 4) (x3_1 : 0 ≤ x3.toInt) (x3_2 : x3.toInt ≤ 999) (x6_1 : 0 ≤ x6.toInt) (x6_2 : x6.toInt ≤ 7) {N50 : Nat} (hM50 : 8 < x6.toInt + (N50 + 1)) (hk50 : ∀ (x5 : Int32) (x6 : Int32) (σ : Mem), wiM σ → (∀ k, k < 101 → σ k = τ k) → σ 101 15 = τ 101 15 → σ 101 34 = τ 101 34 → σ 101 1 = τ 101 1 → σ 101 30 = τ 101 30 → σ 101 18 = τ 101 18 → 8 < x6.toInt + N50 → 0 ≤ x6.toInt → x6.toInt ≤ 8 → sf (k50 x5 x6 σ) (fun r s => wiM s ∧ (∀ k, k < 101 → s k = τ k) ∧ s 101 15 = τ 101 15 ∧ s 101 34 = τ 101 34 ∧ s 101 1 = τ 101 1 ∧ s 101 30 = τ 101 30 ∧ s 101 18 = τ 101 18 ∧ -2147483648 ≤ r.toInt ∧ r.toInt ≤ 2147483647)) : ∀ (N : Nat) (x8 : Int32) (x9 : Int32) (σ : Mem), wiM σ → (∀ k, k < 101 → σ k = τ k) → σ 101 15 = τ 101 15 → σ 101 34 = τ 101 34 → σ 101 1 = τ 101 1 → σ 101 30 = τ 101 30 → σ 101 18 = τ 101 18 → 5 < x9.toInt + N → 0 ≤ x8.toInt → x8.toInt ≤ 1 → 0 ≤ x9.toInt → x9.toInt ≤ 5 → sf (lp_X4_joint_91 F k50 x1 x2 x3 x5 x6 x7 N x8 x9 σ) (fun r s => wiM s ∧ (∀ k, k < 101 → s k = τ k) ∧ s 101 15 = τ 101 15 ∧ s 101 34 = τ 101 34 ∧ s 101 1 = τ 101 1 ∧ s 101 30 = τ 101 30 ∧ s 101 18 = τ 101 18 ∧ -2147483648 ≤ r.toInt ∧ r.toInt ≤ 2147483647) := by
  intro N
  induction N with
  | zero => intro x8 x9 σ hI Fσ Of15_σ Of34_σ Of1_σ Of30_σ Of18_σ hN x8_1 x8_2 x9_1 x9_2; exfalso; omega
  | succ N ih =>
    intro x8 x9 σ hI Fσ Of15_σ Of34_σ Of1_σ Of30_σ Of18_σ hN x8_1 x8_2 x9_1 x9_2
    rw [lp_X4_joint_91_s]
    have m1 := wx_X4_3 hI
    refine sf_ite (fun c2 => ?_) (fun c2 => ?_)
    · have C2 : (σ 101 3).toInt ≤ x9.toInt := ti_le c2
      refine sf_ite (fun c3 => ?_) (fun c3 => ?_)
      · have C3 : x8.toInt = (0 : Int) := ti_eq c3
        rw [j_X4_joint_159_e]
        have b4 := ti_lo (x5 ||| (0 : Int32))
        have b5 := ti_hi (x5 ||| (0 : Int32))
        have t6 : (x6 + (1 : Int32)).toInt = x6.toInt + (1 : Int) := ti_add (show -2147483648 ≤ x6.toInt + (1 : Int) by omega) (show x6.toInt + (1 : Int) ≤ 2147483647 by omega)
        exact hk50 _ _ _ hI Fσ Of15_σ Of34_σ Of1_σ Of30_σ Of18_σ (by omega) (by omega) (by omega)
      have C3 : ¬ x8.toInt = (0 : Int) := ti_ne c3
      rw [j_X4_joint_159_e]
      have b7 := ti_lo (x5 ||| ((1 : Int32) <<< (x6 &&& 31)))
      have b8 := ti_hi (x5 ||| ((1 : Int32) <<< (x6 &&& 31)))
      have t9 : (x6 + (1 : Int32)).toInt = x6.toInt + (1 : Int) := ti_add (show -2147483648 ≤ x6.toInt + (1 : Int) by omega) (show x6.toInt + (1 : Int) ≤ 2147483647 by omega)
      exact hk50 _ _ _ hI Fσ Of15_σ Of34_σ Of1_σ Of30_σ Of18_σ (by omega) (by omega) (by omega)
    have C2 : x9.toInt < (σ 101 3).toInt := ti_nle c2
    refine sf_ite (fun c10 => ?_) (fun c10 => ?_)
    · have C10 : x8.toInt = (0 : Int) := ti_eq c10
      rw [j_X4_joint_135_e]
      rw [j_X4_joint_136_e]
      have t11 : (x9 + (1 : Int32)).toInt = x9.toInt + (1 : Int) := ti_add (show -2147483648 ≤ x9.toInt + (1 : Int) by omega) (show x9.toInt + (1 : Int) ≤ 2147483647 by omega)
      exact ih _ _ _ hI Fσ Of15_σ Of34_σ Of1_σ Of30_σ Of18_σ (by omega) (by decide) (by decide) (by omega) (by omega)
    have C10 : ¬ x8.toInt = (0 : Int) := ti_ne c10
    refine sf_ite (fun c12 => ?_) (fun c12 => ?_)
    · have C12 : x9.toInt = x1.toInt := ti_eq c12
      rw [j_X4_joint_131_e]
      rw [j_X4_joint_136_e]
      have t13 : (x9 + (1 : Int32)).toInt = x9.toInt + (1 : Int) := ti_add (show -2147483648 ≤ x9.toInt + (1 : Int) by omega) (show x9.toInt + (1 : Int) ≤ 2147483647 by omega)
      exact ih _ _ _ hI Fσ Of15_σ Of34_σ Of1_σ Of30_σ Of18_σ (by omega) (by decide) (by decide) (by omega) (by omega)
    have C12 : ¬ x9.toInt = x1.toInt := ti_ne c12
    refine sf_ite (fun c14 => ?_) (fun c14 => ?_)
    · have C14 : x9.toInt = x2.toInt := ti_eq c14
      rw [j_X4_joint_131_e]
      rw [j_X4_joint_136_e]
      have t15 : (x9 + (1 : Int32)).toInt = x9.toInt + (1 : Int) := ti_add (show -2147483648 ≤ x9.toInt + (1 : Int) by omega) (show x9.toInt + (1 : Int) ≤ 2147483647 by omega)
      exact ih _ _ _ hI Fσ Of15_σ Of34_σ Of1_σ Of30_σ Of18_σ (by omega) (by decide) (by decide) (by omega) (by omega)
    have C14 : ¬ x9.toInt = x2.toInt := ti_ne c14
    refine sf_bnd (s_X4_countIn hF hI (by omega) (by omega) (by omega) (by omega) (by omega) (by omega)) (fun r16 u17 p18 => ?_)
    obtain ⟨e9, p18_1, p18_2⟩ := p18
    have e9 := e9.symm
    subst e9
    have b19 := ti_lo x7
    have b20 := ti_hi x7
    have b21 := ti_lo r16
    have b22 := ti_hi r16
    refine sf_ite (fun c23 => ?_) (fun c23 => ?_)
    · have C23 : x7.toInt ≤ r16.toInt := ti_le c23
      rw [j_X4_joint_135_e]
      rw [j_X4_joint_136_e]
      have t24 : (x9 + (1 : Int32)).toInt = x9.toInt + (1 : Int) := ti_add (show -2147483648 ≤ x9.toInt + (1 : Int) by omega) (show x9.toInt + (1 : Int) ≤ 2147483647 by omega)
      exact ih _ _ _ hI Fσ Of15_σ Of34_σ Of1_σ Of30_σ Of18_σ (by omega) (by decide) (by decide) (by omega) (by omega)
    have C23 : r16.toInt < x7.toInt := ti_nle c23
    rw [j_X4_joint_131_e]
    rw [j_X4_joint_136_e]
    have t25 : (x9 + (1 : Int32)).toInt = x9.toInt + (1 : Int) := ti_add (show -2147483648 ≤ x9.toInt + (1 : Int) by omega) (show x9.toInt + (1 : Int) ≤ 2147483647 by omega)
    exact ih _ _ _ hI Fσ Of15_σ Of34_σ Of1_σ Of30_σ Of18_σ (by omega) (by decide) (by decide) (by omega) (by omega)
set_option maxHeartbeats 4000000 in
set_option maxRecDepth 100000 in
theorem sl_X4_joint_50 {F : Nat} (hF : 73786976294838206464 ≤ F) {x1 : Int32} {x2 : Int32} {x3 : Int32} {τ : Mem} (x1_1 : 0 ≤ x1.toInt) (x1_2 : x1.toInt ≤ 4) (x2_1 : 0 ≤ x2.toInt) (x2_2 : x2.toInt ≤ 4) (x3_1 : 0 ≤ x3.toInt) (x3_2 : x3.toInt ≤ 999) : ∀ (N : Nat) (x5 : Int32) (x6 : Int32) (σ : Mem), wiM σ → (∀ k, k < 101 → σ k = τ k) → σ 101 15 = τ 101 15 → σ 101 34 = τ 101 34 → σ 101 1 = τ 101 1 → σ 101 30 = τ 101 30 → σ 101 18 = τ 101 18 → 8 < x6.toInt + N → 0 ≤ x6.toInt → x6.toInt ≤ 8 → sf (lp_X4_joint_50 F x1 x2 x3 N x5 x6 σ) (fun r s => wiM s ∧ (∀ k, k < 101 → s k = τ k) ∧ s 101 15 = τ 101 15 ∧ s 101 34 = τ 101 34 ∧ s 101 1 = τ 101 1 ∧ s 101 30 = τ 101 30 ∧ s 101 18 = τ 101 18 ∧ -2147483648 ≤ r.toInt ∧ r.toInt ≤ 2147483647) := by
  intro N
  induction N with
  | zero => intro x5 x6 σ hI Fσ Of15_σ Of34_σ Of1_σ Of30_σ Of18_σ hN x6_1 x6_2; exfalso; omega
  | succ N ih =>
    intro x5 x6 σ hI Fσ Of15_σ Of34_σ Of1_σ Of30_σ Of18_σ hN x6_1 x6_2
    rw [lp_X4_joint_50_s]
    refine sf_ite (fun c1 => ?_) (fun c1 => ?_)
    · have C1 : (8 : Int) ≤ x6.toInt := ti_le c1
      have b2 := ti_lo x5
      have b3 := ti_hi x5
      exact sf_ret ⟨hI, Fσ, Of15_σ, Of34_σ, Of1_σ, Of30_σ, Of18_σ, ti_lo _, ti_hi _⟩
    have C1 : x6.toInt < (8 : Int) := ti_nle c1
    refine sf_bnd (s_X4_countIn hF hI (by omega) (by omega) (by omega) (by omega) (by omega) (by omega)) (fun r4 u5 p6 => ?_)
    obtain ⟨e9, p6_1, p6_2⟩ := p6
    have e9 := e9.symm
    subst e9
    refine sf_bnd (s_X4_countIn hF hI (by omega) (by omega) (by omega) (by omega) (by omega) (by omega)) (fun r7 u8 p9 => ?_)
    obtain ⟨e9, p9_1, p9_2⟩ := p9
    have e9 := e9.symm
    subst e9
    have b10 := ti_lo r4
    have b11 := ti_hi r4
    have b12 := ti_lo r7
    have b13 := ti_hi r7
    have b14 := ti_lo (r4 + r7)
    have b15 := ti_hi (r4 + r7)
    refine sf_ite (fun c16 => ?_) (fun c16 => ?_)
    · have C16 : (r4 + r7).toInt ≤ (0 : Int) := ti_le c16
      rw [j_X4_joint_86_e]
      have b17 := ti_lo x5
      have b18 := ti_hi x5
      have l_0 : (0 : Int32).toInt = 0 := rfl
      exact sl_X4_joint_91 hF (by omega) (by omega) (by omega) (by omega) (by omega) (by omega) (by omega) (by omega) (by omega) ih _ _ _ _ hI Fσ Of15_σ Of34_σ Of1_σ Of30_σ Of18_σ (by omega) (by decide) (by decide) (by decide) (by decide)
    have C16 : (0 : Int) < (r4 + r7).toInt := ti_nle c16
    rw [j_X4_joint_86_e]
    have b19 := ti_lo x5
    have b20 := ti_hi x5
    have l_0 : (0 : Int32).toInt = 0 := rfl
    exact sl_X4_joint_91 hF (by omega) (by omega) (by omega) (by omega) (by omega) (by omega) (by omega) (by omega) (by omega) ih _ _ _ _ hI Fσ Of15_σ Of34_σ Of1_σ Of30_σ Of18_σ (by omega) (by decide) (by decide) (by decide) (by decide)
set_option maxHeartbeats 4000000 in
set_option maxRecDepth 100000 in
theorem s_X4_joint {F : Nat} (hF : 73786976294838206464 ≤ F) {x1 : Int32} {x2 : Int32} {x3 : Int32} {τ : Mem} (hI : wiM τ) : sf (f_X4_joint F x1 x2 x3 τ) (fun r s => wiM s ∧ (∀ k, k < 101 → s k = τ k) ∧ s 101 15 = τ 101 15 ∧ s 101 34 = τ 101 34 ∧ s 101 1 = τ 101 1 ∧ s 101 30 = τ 101 30 ∧ s 101 18 = τ 101 18 ∧ -2147483648 ≤ r.toInt ∧ r.toInt ≤ 2147483647) := by
  have Fτ : ∀ k, k < 101 → τ k = τ k := fun _ _ => rfl
  have Of15_τ : τ 101 15 = τ 101 15 := rfl
  have Of34_τ : τ 101 34 = τ 101 34 := rfl
  have Of1_τ : τ 101 1 = τ 101 1 := rfl
  have Of30_τ : τ 101 30 = τ 101 30 := rfl
  have Of18_τ : τ 101 18 = τ 101 18 := rfl
  rw [f_X4_joint_e]
  refine sf_lt (fun s1 hs1 => ?_)
  have Is1 : wiM s1 := by rw [hs1]; exact wm_fld hI (by decide) (by decide) (by decide) (by decide) (by decide) (by decide) (by decide)
  have Fs1 : ∀ k, k < 101 → s1 k = τ k := fun k hk => (show s1 k = τ k by rw [hs1, up2_k (by omega)]).trans (Fτ k hk)
  have Of15_s1 : s1 101 15 = τ 101 15 := (show s1 101 15 = τ 101 15 by rw [hs1, up2_i (by decide)]).trans Of15_τ
  have Of34_s1 : s1 101 34 = τ 101 34 := (show s1 101 34 = τ 101 34 by rw [hs1, up2_i (by decide)]).trans Of34_τ
  have Of1_s1 : s1 101 1 = τ 101 1 := (show s1 101 1 = τ 101 1 by rw [hs1, up2_i (by decide)]).trans Of1_τ
  have Of30_s1 : s1 101 30 = τ 101 30 := (show s1 101 30 = τ 101 30 by rw [hs1, up2_i (by decide)]).trans Of30_τ
  have Of18_s1 : s1 101 18 = τ 101 18 := (show s1 101 18 = τ 101 18 by rw [hs1, up2_i (by decide)]).trans Of18_τ
  have b2 := ti_lo x1
  have b3 := ti_hi x1
  have b4 := ti_lo x2
  have b5 := ti_hi x2
  refine sf_bnd (s_X4_areTwo hF Is1) (fun r6 u7 p8 => ?_)
  obtain ⟨e9, p8⟩ := p8
  have e9 := e9.symm
  subst e9
  rcases p8 with ⟨rfl, q9, q10, q11, q12⟩ | p8
  · refine sf_ite (fun c13 => ?_) (fun c13 => ?_)
    · have C13 : (1 : Int) = (0 : Int) := ti_eq c13
      exfalso; omega
    have C13 : ¬ (1 : Int) = (0 : Int) := ti_ne c13
    refine sf_in ?_
    rw [f_X4_wrongNumber_e]
    have b14 := ti_lo x3
    have b15 := ti_hi x3
    refine sf_ite (fun c16 => ?_) (fun c16 => ?_)
    · have C16 : (0 : Int) ≤ x3.toInt := ti_le c16
      refine sf_ite (fun c17 => ?_) (fun c17 => ?_)
      · have C17 : x3.toInt ≤ (999 : Int) := ti_le c17
        refine sf_ret ?_
        rw [j_X4_joint_26_e]
        refine sf_ite (fun c18 => ?_) (fun c18 => ?_)
        · have C18 : (0 : Int) ≤ (0 : Int) := ti_le c18
          refine sf_bnd (s_X4_layBrings hF Is1) (fun r19 u20 p21 => ?_)
          obtain ⟨Iu20, Fu20_, Of15_u20_, Of34_u20_, Of1_u20_, Of30_u20_, Of18_u20_, -⟩ := p21
          have Fu20 : ∀ k, k < 101 → u20 k = τ k := fun k hk => (Fu20_ k hk).trans (Fs1 k hk)
          have Of15_u20 : u20 101 15 = τ 101 15 := Of15_u20_.trans Of15_s1
          have Of34_u20 : u20 101 34 = τ 101 34 := Of34_u20_.trans Of34_s1
          have Of1_u20 : u20 101 1 = τ 101 1 := Of1_u20_.trans Of1_s1
          have Of30_u20 : u20 101 30 = τ 101 30 := Of30_u20_.trans Of30_s1
          have Of18_u20 : u20 101 18 = τ 101 18 := Of18_u20_.trans Of18_s1
          have l_0 : (0 : Int32).toInt = 0 := rfl
          exact sl_X4_joint_50 hF (by omega) (by omega) (by omega) (by omega) (by omega) (by omega) _ _ _ _ Iu20 Fu20 Of15_u20 Of34_u20 Of1_u20 Of30_u20 Of18_u20 (by omega) (by decide) (by decide)
        have C18 : (0 : Int) < (0 : Int) := ti_nle c18
        exfalso; omega
      have C17 : (999 : Int) < x3.toInt := ti_nle c17
      refine sf_ret ?_
      rw [j_X4_joint_26_e]
      refine sf_ite (fun c22 => ?_) (fun c22 => ?_)
      · have C22 : (0 : Int) ≤ (-6 : Int) := ti_le c22
        exfalso; omega
      have C22 : (-6 : Int) < (0 : Int) := ti_nle c22
      refine sf_bnd (s_X4_refuse hF Is1 (by decide) (by decide)) (fun r23 u24 p25 => ?_)
      obtain ⟨Iu24, Fu24_, Of15_u24_, Of34_u24_, Of1_u24_, Of30_u24_, Of18_u24_, p25_1, p25_2, p25_x0⟩ := p25
      have Fu24 : ∀ k, k < 101 → u24 k = τ k := fun k hk => (Fu24_ k hk).trans (Fs1 k hk)
      have Of15_u24 : u24 101 15 = τ 101 15 := Of15_u24_.trans Of15_s1
      have Of34_u24 : u24 101 34 = τ 101 34 := Of34_u24_.trans Of34_s1
      have Of1_u24 : u24 101 1 = τ 101 1 := Of1_u24_.trans Of1_s1
      have Of30_u24 : u24 101 30 = τ 101 30 := Of30_u24_.trans Of30_s1
      have Of18_u24 : u24 101 18 = τ 101 18 := Of18_u24_.trans Of18_s1
      replace p25_x0 : r23.toInt = (-6 : Int) := p25_x0
      exact sf_ret ⟨Iu24, Fu24, Of15_u24, Of34_u24, Of1_u24, Of30_u24, Of18_u24, ti_lo _, ti_hi _⟩
    have C16 : x3.toInt < (0 : Int) := ti_nle c16
    refine sf_ret ?_
    rw [j_X4_joint_26_e]
    refine sf_ite (fun c26 => ?_) (fun c26 => ?_)
    · have C26 : (0 : Int) ≤ (-4 : Int) := ti_le c26
      exfalso; omega
    have C26 : (-4 : Int) < (0 : Int) := ti_nle c26
    refine sf_bnd (s_X4_refuse hF Is1 (by decide) (by decide)) (fun r27 u28 p29 => ?_)
    obtain ⟨Iu28, Fu28_, Of15_u28_, Of34_u28_, Of1_u28_, Of30_u28_, Of18_u28_, p29_1, p29_2, p29_x0⟩ := p29
    have Fu28 : ∀ k, k < 101 → u28 k = τ k := fun k hk => (Fu28_ k hk).trans (Fs1 k hk)
    have Of15_u28 : u28 101 15 = τ 101 15 := Of15_u28_.trans Of15_s1
    have Of34_u28 : u28 101 34 = τ 101 34 := Of34_u28_.trans Of34_s1
    have Of1_u28 : u28 101 1 = τ 101 1 := Of1_u28_.trans Of1_s1
    have Of30_u28 : u28 101 30 = τ 101 30 := Of30_u28_.trans Of30_s1
    have Of18_u28 : u28 101 18 = τ 101 18 := Of18_u28_.trans Of18_s1
    replace p29_x0 : r27.toInt = (-4 : Int) := p29_x0
    exact sf_ret ⟨Iu28, Fu28, Of15_u28, Of34_u28, Of1_u28, Of30_u28, Of18_u28, ti_lo _, ti_hi _⟩
  obtain rfl := p8
  refine sf_ite (fun c30 => ?_) (fun c30 => ?_)
  · have C30 : (0 : Int) = (0 : Int) := ti_eq c30
    rw [j_X4_joint_26_e]
    refine sf_ite (fun c31 => ?_) (fun c31 => ?_)
    · have C31 : (0 : Int) ≤ (-1 : Int) := ti_le c31
      exfalso; omega
    have C31 : (-1 : Int) < (0 : Int) := ti_nle c31
    refine sf_bnd (s_X4_refuse hF Is1 (by decide) (by decide)) (fun r32 u33 p34 => ?_)
    obtain ⟨Iu33, Fu33_, Of15_u33_, Of34_u33_, Of1_u33_, Of30_u33_, Of18_u33_, p34_1, p34_2, p34_x0⟩ := p34
    have Fu33 : ∀ k, k < 101 → u33 k = τ k := fun k hk => (Fu33_ k hk).trans (Fs1 k hk)
    have Of15_u33 : u33 101 15 = τ 101 15 := Of15_u33_.trans Of15_s1
    have Of34_u33 : u33 101 34 = τ 101 34 := Of34_u33_.trans Of34_s1
    have Of1_u33 : u33 101 1 = τ 101 1 := Of1_u33_.trans Of1_s1
    have Of30_u33 : u33 101 30 = τ 101 30 := Of30_u33_.trans Of30_s1
    have Of18_u33 : u33 101 18 = τ 101 18 := Of18_u33_.trans Of18_s1
    replace p34_x0 : r32.toInt = (-1 : Int) := p34_x0
    exact sf_ret ⟨Iu33, Fu33, Of15_u33, Of34_u33, Of1_u33, Of30_u33, Of18_u33, ti_lo _, ti_hi _⟩
  have C30 : ¬ (0 : Int) = (0 : Int) := ti_ne c30
  exfalso; omega
set_option maxHeartbeats 4000000 in
set_option maxRecDepth 100000 in
theorem sl_X4_rank_55 {F : Nat} (hF : 73786976294838206464 ≤ F) {x1 : Int32} {x2 : Int32} {x4 : Int32} {k40 : Int32 → Mem → Option (Int32 × Mem)} {τ : Mem} (x1_1 : 0 ≤ x1.toInt) (x1_2 : x1.toInt ≤ 7) (x2_1 : 0 ≤ x2.toInt) (x2_2 : x2.toInt ≤ 2147483647) (x4_1 : 0 ≤ x4.toInt) (x4_2 : x4.toInt ≤ 4) {N40 : Nat} (hM40 : 5 < x4.toInt + (N40 + 1)) (hk40 : ∀ (x4 : Int32) (σ : Mem), wiM σ → (∀ k, k < 101 → σ k = τ k) → σ 101 15 = τ 101 15 → σ 101 34 = τ 101 34 → σ 101 1 = τ 101 1 → σ 101 30 = τ 101 30 → σ 101 18 = τ 101 18 → 5 < x4.toInt + N40 → 0 ≤ x4.toInt → x4.toInt ≤ 5 → sf (k40 x4 σ) (fun r s => wiM s ∧ (∀ k, k < 101 → s k = τ k) ∧ s 101 15 = τ 101 15 ∧ s 101 34 = τ 101 34 ∧ s 101 1 = τ 101 1 ∧ s 101 30 = τ 101 30 ∧ s 101 18 = τ 101 18 ∧ -2147483648 ≤ r.toInt ∧ r.toInt ≤ 2147483647)) : ∀ (N : Nat) (x5 : Int32) (x6 : Int32) (σ : Mem), wiM σ → (∀ k, k < 101 → σ k = τ k) → σ 101 15 = τ 101 15 → σ 101 34 = τ 101 34 → σ 101 1 = τ 101 1 → σ 101 30 = τ 101 30 → σ 101 18 = τ 101 18 → 5 < x6.toInt + N → 0 ≤ x6.toInt → x6.toInt ≤ 5 → sf (lp_X4_rank_55 F k40 x1 x2 x4 N x5 x6 σ) (fun r s => wiM s ∧ (∀ k, k < 101 → s k = τ k) ∧ s 101 15 = τ 101 15 ∧ s 101 34 = τ 101 34 ∧ s 101 1 = τ 101 1 ∧ s 101 30 = τ 101 30 ∧ s 101 18 = τ 101 18 ∧ -2147483648 ≤ r.toInt ∧ r.toInt ≤ 2147483647) := by
  intro N
  induction N with
  | zero => intro x5 x6 σ hI Fσ Of15_σ Of34_σ Of1_σ Of30_σ Of18_σ hN x6_1 x6_2; exfalso; omega
  | succ N ih =>
    intro x5 x6 σ hI Fσ Of15_σ Of34_σ Of1_σ Of30_σ Of18_σ hN x6_1 x6_2
    rw [lp_X4_rank_55_s]
    have m1 := wx_X4_3 hI
    refine sf_ite (fun c2 => ?_) (fun c2 => ?_)
    · have C2 : (σ 101 3).toInt ≤ x6.toInt := ti_le c2
      have b3 := ti_lo x5
      have b4 := ti_hi x5
      have b5 := ti_lo x2
      have b6 := ti_hi x2
      refine sf_ite (fun c7 => ?_) (fun c7 => ?_)
      · have C7 : x5.toInt = x2.toInt := ti_eq c7
        exact sf_ret ⟨hI, Fσ, Of15_σ, Of34_σ, Of1_σ, Of30_σ, Of18_σ, ti_lo _, ti_hi _⟩
      have C7 : ¬ x5.toInt = x2.toInt := ti_ne c7
      have t8 : (x4 + (1 : Int32)).toInt = x4.toInt + (1 : Int) := ti_add (show -2147483648 ≤ x4.toInt + (1 : Int) by omega) (show x4.toInt + (1 : Int) ≤ 2147483647 by omega)
      exact hk40 _ _ hI Fσ Of15_σ Of34_σ Of1_σ Of30_σ Of18_σ (by omega) (by omega) (by omega)
    have C2 : x6.toInt < (σ 101 3).toInt := ti_nle c2
    have t9 : ((8 : Int32) * x6).toInt = (8 : Int) * x6.toInt := ti_mul (show -2147483648 ≤ (8 : Int) * x6.toInt by omega) (show (8 : Int) * x6.toInt ≤ 2147483647 by omega)
    have t10 : (((8 : Int32) * x6) + x1).toInt = ((8 : Int32) * x6).toInt + x1.toInt := ti_add (show -2147483648 ≤ ((8 : Int32) * x6).toInt + x1.toInt by omega) (show ((8 : Int32) * x6).toInt + x1.toInt ≤ 2147483647 by omega)
    refine sf_chk (ti_in (by omega) (by omega)) ?_
    have v11 : Int32.toNatClampNeg (((8 : Int32) * x6) + x1) = (((8 : Int32) * x6) + x1).toInt.toNat := rfl
    have t12 : ((8 : Int32) * x4).toInt = (8 : Int) * x4.toInt := ti_mul (show -2147483648 ≤ (8 : Int) * x4.toInt by omega) (show (8 : Int) * x4.toInt ≤ 2147483647 by omega)
    have t13 : (((8 : Int32) * x4) + x1).toInt = ((8 : Int32) * x4).toInt + x1.toInt := ti_add (show -2147483648 ≤ ((8 : Int32) * x4).toInt + x1.toInt by omega) (show ((8 : Int32) * x4).toInt + x1.toInt ≤ 2147483647 by omega)
    refine sf_chk (ti_in (by omega) (by omega)) ?_
    have v14 : Int32.toNatClampNeg (((8 : Int32) * x4) + x1) = (((8 : Int32) * x4) + x1).toInt.toNat := rfl
    have b16 := ti_lo (σ 107 (Int32.toNatClampNeg (((8 : Int32) * x6) + x1)))
    have b17 := ti_hi (σ 107 (Int32.toNatClampNeg (((8 : Int32) * x6) + x1)))
    have b18 := ti_lo (σ 107 (Int32.toNatClampNeg (((8 : Int32) * x4) + x1)))
    have b19 := ti_hi (σ 107 (Int32.toNatClampNeg (((8 : Int32) * x4) + x1)))
    have b20 := ti_lo ((σ 107 (Int32.toNatClampNeg (((8 : Int32) * x6) + x1))) - (σ 107 (Int32.toNatClampNeg (((8 : Int32) * x4) + x1))))
    have b21 := ti_hi ((σ 107 (Int32.toNatClampNeg (((8 : Int32) * x6) + x1))) - (σ 107 (Int32.toNatClampNeg (((8 : Int32) * x4) + x1))))
    refine sf_lt (fun z15 hz15 => ?_)
    have hz15_ : z15.toInt = ((σ 107 (Int32.toNatClampNeg (((8 : Int32) * x6) + x1))) - (σ 107 (Int32.toNatClampNeg (((8 : Int32) * x4) + x1)))).toInt := (show z15.toInt = ((σ 107 (Int32.toNatClampNeg (((8 : Int32) * x6) + x1))) - (σ 107 (Int32.toNatClampNeg (((8 : Int32) * x4) + x1)))).toInt from congrArg Int32.toInt hz15)
    have b22 := ti_lo z15
    have b23 := ti_hi z15
    refine sf_ite (fun c24 => ?_) (fun c24 => ?_)
    · have C24 : (0 : Int) < z15.toInt := ti_lt c24
      rw [j_X4_rank_110_e]
      rw [j_X4_rank_115_e]
      have b25 := ti_lo x5
      have b26 := ti_hi x5
      have b27 := ti_lo (x5 + (1 : Int32))
      have b28 := ti_hi (x5 + (1 : Int32))
      have t29 : (x6 + (1 : Int32)).toInt = x6.toInt + (1 : Int) := ti_add (show -2147483648 ≤ x6.toInt + (1 : Int) by omega) (show x6.toInt + (1 : Int) ≤ 2147483647 by omega)
      exact ih _ _ _ hI Fσ Of15_σ Of34_σ Of1_σ Of30_σ Of18_σ (by omega) (by omega) (by omega)
    have C24 : z15.toInt ≤ (0 : Int) := ti_nlt c24
    refine sf_ite (fun c30 => ?_) (fun c30 => ?_)
    · have C30 : z15.toInt = (0 : Int) := ti_eq c30
      refine sf_ite (fun c31 => ?_) (fun c31 => ?_)
      · have C31 : x4.toInt ≤ x6.toInt := ti_le c31
        rw [j_X4_rank_114_e]
        rw [j_X4_rank_115_e]
        have b32 := ti_lo x5
        have b33 := ti_hi x5
        have t34 : (x5 + (0 : Int32)).toInt = x5.toInt + (0 : Int) := ti_add (show -2147483648 ≤ x5.toInt + (0 : Int) by omega) (show x5.toInt + (0 : Int) ≤ 2147483647 by omega)
        have t35 : (x6 + (1 : Int32)).toInt = x6.toInt + (1 : Int) := ti_add (show -2147483648 ≤ x6.toInt + (1 : Int) by omega) (show x6.toInt + (1 : Int) ≤ 2147483647 by omega)
        exact ih _ _ _ hI Fσ Of15_σ Of34_σ Of1_σ Of30_σ Of18_σ (by omega) (by omega) (by omega)
      have C31 : x6.toInt < x4.toInt := ti_nle c31
      rw [j_X4_rank_110_e]
      rw [j_X4_rank_115_e]
      have b36 := ti_lo x5
      have b37 := ti_hi x5
      have b38 := ti_lo (x5 + (1 : Int32))
      have b39 := ti_hi (x5 + (1 : Int32))
      have t40 : (x6 + (1 : Int32)).toInt = x6.toInt + (1 : Int) := ti_add (show -2147483648 ≤ x6.toInt + (1 : Int) by omega) (show x6.toInt + (1 : Int) ≤ 2147483647 by omega)
      exact ih _ _ _ hI Fσ Of15_σ Of34_σ Of1_σ Of30_σ Of18_σ (by omega) (by omega) (by omega)
    have C30 : ¬ z15.toInt = (0 : Int) := ti_ne c30
    rw [j_X4_rank_114_e]
    rw [j_X4_rank_115_e]
    have b41 := ti_lo x5
    have b42 := ti_hi x5
    have t43 : (x5 + (0 : Int32)).toInt = x5.toInt + (0 : Int) := ti_add (show -2147483648 ≤ x5.toInt + (0 : Int) by omega) (show x5.toInt + (0 : Int) ≤ 2147483647 by omega)
    have t44 : (x6 + (1 : Int32)).toInt = x6.toInt + (1 : Int) := ti_add (show -2147483648 ≤ x6.toInt + (1 : Int) by omega) (show x6.toInt + (1 : Int) ≤ 2147483647 by omega)
    exact ih _ _ _ hI Fσ Of15_σ Of34_σ Of1_σ Of30_σ Of18_σ (by omega) (by omega) (by omega)
set_option maxHeartbeats 4000000 in
set_option maxRecDepth 100000 in
theorem sl_X4_rank_40 {F : Nat} (hF : 73786976294838206464 ≤ F) {x1 : Int32} {x2 : Int32} {τ : Mem} (x1_1 : 0 ≤ x1.toInt) (x1_2 : x1.toInt ≤ 7) (x2_1 : 0 ≤ x2.toInt) (x2_2 : x2.toInt ≤ 2147483647) : ∀ (N : Nat) (x4 : Int32) (σ : Mem), wiM σ → (∀ k, k < 101 → σ k = τ k) → σ 101 15 = τ 101 15 → σ 101 34 = τ 101 34 → σ 101 1 = τ 101 1 → σ 101 30 = τ 101 30 → σ 101 18 = τ 101 18 → 5 < x4.toInt + N → 0 ≤ x4.toInt → x4.toInt ≤ 5 → sf (lp_X4_rank_40 F x1 x2 N x4 σ) (fun r s => wiM s ∧ (∀ k, k < 101 → s k = τ k) ∧ s 101 15 = τ 101 15 ∧ s 101 34 = τ 101 34 ∧ s 101 1 = τ 101 1 ∧ s 101 30 = τ 101 30 ∧ s 101 18 = τ 101 18 ∧ -2147483648 ≤ r.toInt ∧ r.toInt ≤ 2147483647) := by
  intro N
  induction N with
  | zero => intro x4 σ hI Fσ Of15_σ Of34_σ Of1_σ Of30_σ Of18_σ hN x4_1 x4_2; exfalso; omega
  | succ N ih =>
    intro x4 σ hI Fσ Of15_σ Of34_σ Of1_σ Of30_σ Of18_σ hN x4_1 x4_2
    rw [lp_X4_rank_40_s]
    have m1 := wx_X4_3 hI
    refine sf_ite (fun c2 => ?_) (fun c2 => ?_)
    · have C2 : (σ 101 3).toInt ≤ x4.toInt := ti_le c2
      exact sf_ret ⟨hI, Fσ, Of15_σ, Of34_σ, Of1_σ, Of30_σ, Of18_σ, ti_lo _, ti_hi _⟩
    have C2 : x4.toInt < (σ 101 3).toInt := ti_nle c2
    have b3 := ti_lo x2
    have b4 := ti_hi x2
    have l_0 : (0 : Int32).toInt = 0 := rfl
    exact sl_X4_rank_55 hF (by omega) (by omega) (by omega) (by omega) (by omega) (by omega) (by omega) ih _ _ _ _ hI Fσ Of15_σ Of34_σ Of1_σ Of30_σ Of18_σ (by omega) (by decide) (by decide)
set_option maxHeartbeats 4000000 in
set_option maxRecDepth 100000 in
theorem s_X4_rank {F : Nat} (hF : 73786976294838206464 ≤ F) {x1 : Int32} {x2 : Int32} {τ : Mem} (hI : wiM τ) : sf (f_X4_rank F x1 x2 τ) (fun r s => wiM s ∧ (∀ k, k < 101 → s k = τ k) ∧ s 101 15 = τ 101 15 ∧ s 101 34 = τ 101 34 ∧ s 101 1 = τ 101 1 ∧ s 101 30 = τ 101 30 ∧ s 101 18 = τ 101 18 ∧ -2147483648 ≤ r.toInt ∧ r.toInt ≤ 2147483647) := by
  have Fτ : ∀ k, k < 101 → τ k = τ k := fun _ _ => rfl
  have Of15_τ : τ 101 15 = τ 101 15 := rfl
  have Of34_τ : τ 101 34 = τ 101 34 := rfl
  have Of1_τ : τ 101 1 = τ 101 1 := rfl
  have Of30_τ : τ 101 30 = τ 101 30 := rfl
  have Of18_τ : τ 101 18 = τ 101 18 := rfl
  rw [f_X4_rank_e]
  refine sf_lt (fun s1 hs1 => ?_)
  have Is1 : wiM s1 := by rw [hs1]; exact wm_fld hI (by decide) (by decide) (by decide) (by decide) (by decide) (by decide) (by decide)
  have Fs1 : ∀ k, k < 101 → s1 k = τ k := fun k hk => (show s1 k = τ k by rw [hs1, up2_k (by omega)]).trans (Fτ k hk)
  have Of15_s1 : s1 101 15 = τ 101 15 := (show s1 101 15 = τ 101 15 by rw [hs1, up2_i (by decide)]).trans Of15_τ
  have Of34_s1 : s1 101 34 = τ 101 34 := (show s1 101 34 = τ 101 34 by rw [hs1, up2_i (by decide)]).trans Of34_τ
  have Of1_s1 : s1 101 1 = τ 101 1 := (show s1 101 1 = τ 101 1 by rw [hs1, up2_i (by decide)]).trans Of1_τ
  have Of30_s1 : s1 101 30 = τ 101 30 := (show s1 101 30 = τ 101 30 by rw [hs1, up2_i (by decide)]).trans Of30_τ
  have Of18_s1 : s1 101 18 = τ 101 18 := (show s1 101 18 = τ 101 18 by rw [hs1, up2_i (by decide)]).trans Of18_τ
  have b2 := ti_lo x1
  have b3 := ti_hi x1
  refine sf_bnd (s_X4_isView hF Is1) (fun r4 u5 p6 => ?_)
  obtain ⟨e9, p6⟩ := p6
  have e9 := e9.symm
  subst e9
  rcases p6 with ⟨rfl, q7, q8⟩ | p6
  · refine sf_ite (fun c9 => ?_) (fun c9 => ?_)
    · have C9 : (1 : Int) = (0 : Int) := ti_eq c9
      exfalso; omega
    have C9 : ¬ (1 : Int) = (0 : Int) := ti_ne c9
    have b10 := ti_lo x2
    have b11 := ti_hi x2
    refine sf_ite (fun c12 => ?_) (fun c12 => ?_)
    · have C12 : (0 : Int) ≤ x2.toInt := ti_le c12
      rw [j_X4_rank_26_e]
      refine sf_ite (fun c13 => ?_) (fun c13 => ?_)
      · have C13 : (0 : Int) ≤ (0 : Int) := ti_le c13
        have l_0 : (0 : Int32).toInt = 0 := rfl
        exact sl_X4_rank_40 hF (by omega) (by omega) (by omega) (by omega) _ _ _ Is1 Fs1 Of15_s1 Of34_s1 Of1_s1 Of30_s1 Of18_s1 (by omega) (by decide) (by decide)
      have C13 : (0 : Int) < (0 : Int) := ti_nle c13
      exfalso; omega
    have C12 : x2.toInt < (0 : Int) := ti_nle c12
    rw [j_X4_rank_26_e]
    refine sf_ite (fun c14 => ?_) (fun c14 => ?_)
    · have C14 : (0 : Int) ≤ (-4 : Int) := ti_le c14
      exfalso; omega
    have C14 : (-4 : Int) < (0 : Int) := ti_nle c14
    refine sf_bnd (s_X4_refuse hF Is1 (by decide) (by decide)) (fun r15 u16 p17 => ?_)
    obtain ⟨Iu16, Fu16_, Of15_u16_, Of34_u16_, Of1_u16_, Of30_u16_, Of18_u16_, p17_1, p17_2, p17_x0⟩ := p17
    have Fu16 : ∀ k, k < 101 → u16 k = τ k := fun k hk => (Fu16_ k hk).trans (Fs1 k hk)
    have Of15_u16 : u16 101 15 = τ 101 15 := Of15_u16_.trans Of15_s1
    have Of34_u16 : u16 101 34 = τ 101 34 := Of34_u16_.trans Of34_s1
    have Of1_u16 : u16 101 1 = τ 101 1 := Of1_u16_.trans Of1_s1
    have Of30_u16 : u16 101 30 = τ 101 30 := Of30_u16_.trans Of30_s1
    have Of18_u16 : u16 101 18 = τ 101 18 := Of18_u16_.trans Of18_s1
    replace p17_x0 : r15.toInt = (-4 : Int) := p17_x0
    exact sf_ret ⟨Iu16, Fu16, Of15_u16, Of34_u16, Of1_u16, Of30_u16, Of18_u16, ti_lo _, ti_hi _⟩
  obtain ⟨rfl, q18⟩ := p6
  refine sf_ite (fun c19 => ?_) (fun c19 => ?_)
  · have C19 : (0 : Int) = (0 : Int) := ti_eq c19
    rw [j_X4_rank_26_e]
    refine sf_ite (fun c20 => ?_) (fun c20 => ?_)
    · have C20 : (0 : Int) ≤ (-1 : Int) := ti_le c20
      exfalso; omega
    have C20 : (-1 : Int) < (0 : Int) := ti_nle c20
    refine sf_bnd (s_X4_refuse hF Is1 (by decide) (by decide)) (fun r21 u22 p23 => ?_)
    obtain ⟨Iu22, Fu22_, Of15_u22_, Of34_u22_, Of1_u22_, Of30_u22_, Of18_u22_, p23_1, p23_2, p23_x0⟩ := p23
    have Fu22 : ∀ k, k < 101 → u22 k = τ k := fun k hk => (Fu22_ k hk).trans (Fs1 k hk)
    have Of15_u22 : u22 101 15 = τ 101 15 := Of15_u22_.trans Of15_s1
    have Of34_u22 : u22 101 34 = τ 101 34 := Of34_u22_.trans Of34_s1
    have Of1_u22 : u22 101 1 = τ 101 1 := Of1_u22_.trans Of1_s1
    have Of30_u22 : u22 101 30 = τ 101 30 := Of30_u22_.trans Of30_s1
    have Of18_u22 : u22 101 18 = τ 101 18 := Of18_u22_.trans Of18_s1
    replace p23_x0 : r21.toInt = (-1 : Int) := p23_x0
    exact sf_ret ⟨Iu22, Fu22, Of15_u22, Of34_u22, Of1_u22, Of30_u22, Of18_u22, ti_lo _, ti_hi _⟩
  have C19 : ¬ (0 : Int) = (0 : Int) := ti_ne c19
  exfalso; omega
set_option maxHeartbeats 4000000 in
set_option maxRecDepth 100000 in
theorem sl_X4_gap_48 {F : Nat} (hF : 73786976294838206464 ≤ F) {x1 : Int32} {x2 : Int32} {τ : Mem} (x1_1 : 0 ≤ x1.toInt) (x1_2 : x1.toInt ≤ 7) (x2_1 : 0 ≤ x2.toInt) (x2_2 : x2.toInt ≤ 999) : ∀ (N : Nat) (x4 : Int32) (x5 : Int32) (x6 : Int32) (σ : Mem), wiM σ → (∀ k, k < 101 → σ k = τ k) → σ 101 15 = τ 101 15 → σ 101 34 = τ 101 34 → σ 101 1 = τ 101 1 → σ 101 30 = τ 101 30 → σ 101 18 = τ 101 18 → 5 < x6.toInt + N → 0 ≤ x4.toInt → x4.toInt ≤ 2147483647 → 0 ≤ x5.toInt → x5.toInt ≤ 2147483647 → 0 ≤ x6.toInt → x6.toInt ≤ 5 → sf (lp_X4_gap_48 F x1 x2 N x4 x5 x6 σ) (fun r s => wiM s ∧ (∀ k, k < 101 → s k = τ k) ∧ s 101 15 = τ 101 15 ∧ s 101 34 = τ 101 34 ∧ s 101 1 = τ 101 1 ∧ s 101 30 = τ 101 30 ∧ s 101 18 = τ 101 18 ∧ -2147483648 ≤ r.toInt ∧ r.toInt ≤ 2147483647) := by
  intro N
  induction N with
  | zero => intro x4 x5 x6 σ hI Fσ Of15_σ Of34_σ Of1_σ Of30_σ Of18_σ hN x4_1 x4_2 x5_1 x5_2 x6_1 x6_2; exfalso; omega
  | succ N ih =>
    intro x4 x5 x6 σ hI Fσ Of15_σ Of34_σ Of1_σ Of30_σ Of18_σ hN x4_1 x4_2 x5_1 x5_2 x6_1 x6_2
    rw [lp_X4_gap_48_s]
    have m1 := wx_X4_3 hI
    refine sf_ite (fun c2 => ?_) (fun c2 => ?_)
    · have C2 : (σ 101 3).toInt ≤ x6.toInt := ti_le c2
      have b3 := ti_lo x4
      have b4 := ti_hi x4
      have b5 := ti_lo x5
      have b6 := ti_hi x5
      have t7 : (x4 - x5).toInt = x4.toInt - x5.toInt := ti_sub (show -2147483648 ≤ x4.toInt - x5.toInt by omega) (show x4.toInt - x5.toInt ≤ 2147483647 by omega)
      exact sf_ret ⟨hI, Fσ, Of15_σ, Of34_σ, Of1_σ, Of30_σ, Of18_σ, ti_lo _, ti_hi _⟩
    have C2 : x6.toInt < (σ 101 3).toInt := ti_nle c2
    refine sf_bnd (s_X4_countIn hF hI (by omega) (by omega) (by omega) (by omega) (by omega) (by omega)) (fun r8 u9 p10 => ?_)
    obtain ⟨e9, p10_1, p10_2⟩ := p10
    have e9 := e9.symm
    subst e9
    have b11 := ti_lo r8
    have b12 := ti_hi r8
    have b13 := ti_lo x4
    have b14 := ti_hi x4
    refine sf_ite (fun c15 => ?_) (fun c15 => ?_)
    · have C15 : r8.toInt ≤ x4.toInt := ti_le c15
      have b16 := ti_lo x5
      have b17 := ti_hi x5
      refine sf_ite (fun c18 => ?_) (fun c18 => ?_)
      · have C18 : r8.toInt ≤ x5.toInt := ti_le c18
        rw [j_X4_gap_93_e]
        refine sf_ite (fun c19 => ?_) (fun c19 => ?_)
        · have C19 : r8.toInt ≤ x4.toInt := ti_le c19
          rw [j_X4_gap_109_e]
          have t20 : (x6 + (1 : Int32)).toInt = x6.toInt + (1 : Int) := ti_add (show -2147483648 ≤ x6.toInt + (1 : Int) by omega) (show x6.toInt + (1 : Int) ≤ 2147483647 by omega)
          exact ih _ _ _ _ hI Fσ Of15_σ Of34_σ Of1_σ Of30_σ Of18_σ (by omega) (by omega) (by omega) (by omega) (by omega) (by omega) (by omega)
        have C19 : x4.toInt < r8.toInt := ti_nle c19
        rw [j_X4_gap_109_e]
        have t21 : (x6 + (1 : Int32)).toInt = x6.toInt + (1 : Int) := ti_add (show -2147483648 ≤ x6.toInt + (1 : Int) by omega) (show x6.toInt + (1 : Int) ≤ 2147483647 by omega)
        exact ih _ _ _ _ hI Fσ Of15_σ Of34_σ Of1_σ Of30_σ Of18_σ (by omega) (by omega) (by omega) (by omega) (by omega) (by omega) (by omega)
      have C18 : x5.toInt < r8.toInt := ti_nle c18
      rw [j_X4_gap_93_e]
      refine sf_ite (fun c22 => ?_) (fun c22 => ?_)
      · have C22 : r8.toInt ≤ x4.toInt := ti_le c22
        rw [j_X4_gap_109_e]
        have t23 : (x6 + (1 : Int32)).toInt = x6.toInt + (1 : Int) := ti_add (show -2147483648 ≤ x6.toInt + (1 : Int) by omega) (show x6.toInt + (1 : Int) ≤ 2147483647 by omega)
        exact ih _ _ _ _ hI Fσ Of15_σ Of34_σ Of1_σ Of30_σ Of18_σ (by omega) (by omega) (by omega) (by omega) (by omega) (by omega) (by omega)
      have C22 : x4.toInt < r8.toInt := ti_nle c22
      rw [j_X4_gap_109_e]
      have t24 : (x6 + (1 : Int32)).toInt = x6.toInt + (1 : Int) := ti_add (show -2147483648 ≤ x6.toInt + (1 : Int) by omega) (show x6.toInt + (1 : Int) ≤ 2147483647 by omega)
      exact ih _ _ _ _ hI Fσ Of15_σ Of34_σ Of1_σ Of30_σ Of18_σ (by omega) (by omega) (by omega) (by omega) (by omega) (by omega) (by omega)
    have C15 : x4.toInt < r8.toInt := ti_nle c15
    rw [j_X4_gap_93_e]
    refine sf_ite (fun c25 => ?_) (fun c25 => ?_)
    · have C25 : r8.toInt ≤ x4.toInt := ti_le c25
      rw [j_X4_gap_109_e]
      have t26 : (x6 + (1 : Int32)).toInt = x6.toInt + (1 : Int) := ti_add (show -2147483648 ≤ x6.toInt + (1 : Int) by omega) (show x6.toInt + (1 : Int) ≤ 2147483647 by omega)
      exact ih _ _ _ _ hI Fσ Of15_σ Of34_σ Of1_σ Of30_σ Of18_σ (by omega) (by omega) (by omega) (by omega) (by omega) (by omega) (by omega)
    have C25 : x4.toInt < r8.toInt := ti_nle c25
    rw [j_X4_gap_109_e]
    have t27 : (x6 + (1 : Int32)).toInt = x6.toInt + (1 : Int) := ti_add (show -2147483648 ≤ x6.toInt + (1 : Int) by omega) (show x6.toInt + (1 : Int) ≤ 2147483647 by omega)
    exact ih _ _ _ _ hI Fσ Of15_σ Of34_σ Of1_σ Of30_σ Of18_σ (by omega) (by omega) (by omega) (by omega) (by omega) (by omega) (by omega)
set_option maxHeartbeats 4000000 in
set_option maxRecDepth 100000 in
theorem s_X4_gap {F : Nat} (hF : 73786976294838206464 ≤ F) {x1 : Int32} {x2 : Int32} {τ : Mem} (hI : wiM τ) : sf (f_X4_gap F x1 x2 τ) (fun r s => wiM s ∧ (∀ k, k < 101 → s k = τ k) ∧ s 101 15 = τ 101 15 ∧ s 101 34 = τ 101 34 ∧ s 101 1 = τ 101 1 ∧ s 101 30 = τ 101 30 ∧ s 101 18 = τ 101 18 ∧ -2147483648 ≤ r.toInt ∧ r.toInt ≤ 2147483647) := by
  have Fτ : ∀ k, k < 101 → τ k = τ k := fun _ _ => rfl
  have Of15_τ : τ 101 15 = τ 101 15 := rfl
  have Of34_τ : τ 101 34 = τ 101 34 := rfl
  have Of1_τ : τ 101 1 = τ 101 1 := rfl
  have Of30_τ : τ 101 30 = τ 101 30 := rfl
  have Of18_τ : τ 101 18 = τ 101 18 := rfl
  rw [f_X4_gap_e]
  refine sf_lt (fun s1 hs1 => ?_)
  have Is1 : wiM s1 := by rw [hs1]; exact wm_fld hI (by decide) (by decide) (by decide) (by decide) (by decide) (by decide) (by decide)
  have Fs1 : ∀ k, k < 101 → s1 k = τ k := fun k hk => (show s1 k = τ k by rw [hs1, up2_k (by omega)]).trans (Fτ k hk)
  have Of15_s1 : s1 101 15 = τ 101 15 := (show s1 101 15 = τ 101 15 by rw [hs1, up2_i (by decide)]).trans Of15_τ
  have Of34_s1 : s1 101 34 = τ 101 34 := (show s1 101 34 = τ 101 34 by rw [hs1, up2_i (by decide)]).trans Of34_τ
  have Of1_s1 : s1 101 1 = τ 101 1 := (show s1 101 1 = τ 101 1 by rw [hs1, up2_i (by decide)]).trans Of1_τ
  have Of30_s1 : s1 101 30 = τ 101 30 := (show s1 101 30 = τ 101 30 by rw [hs1, up2_i (by decide)]).trans Of30_τ
  have Of18_s1 : s1 101 18 = τ 101 18 := (show s1 101 18 = τ 101 18 by rw [hs1, up2_i (by decide)]).trans Of18_τ
  have b2 := ti_lo x1
  have b3 := ti_hi x1
  refine sf_bnd (s_X4_isView hF Is1) (fun r4 u5 p6 => ?_)
  obtain ⟨e9, p6⟩ := p6
  have e9 := e9.symm
  subst e9
  rcases p6 with ⟨rfl, q7, q8⟩ | p6
  · refine sf_ite (fun c9 => ?_) (fun c9 => ?_)
    · have C9 : (1 : Int) = (0 : Int) := ti_eq c9
      exfalso; omega
    have C9 : ¬ (1 : Int) = (0 : Int) := ti_ne c9
    refine sf_in ?_
    rw [f_X4_wrongNumber_e]
    have b10 := ti_lo x2
    have b11 := ti_hi x2
    refine sf_ite (fun c12 => ?_) (fun c12 => ?_)
    · have C12 : (0 : Int) ≤ x2.toInt := ti_le c12
      refine sf_ite (fun c13 => ?_) (fun c13 => ?_)
      · have C13 : x2.toInt ≤ (999 : Int) := ti_le c13
        refine sf_ret ?_
        rw [j_X4_gap_24_e]
        refine sf_ite (fun c14 => ?_) (fun c14 => ?_)
        · have C14 : (0 : Int) ≤ (0 : Int) := ti_le c14
          refine sf_bnd (s_X4_layBrings hF Is1) (fun r15 u16 p17 => ?_)
          obtain ⟨Iu16, Fu16_, Of15_u16_, Of34_u16_, Of1_u16_, Of30_u16_, Of18_u16_, -⟩ := p17
          have Fu16 : ∀ k, k < 101 → u16 k = τ k := fun k hk => (Fu16_ k hk).trans (Fs1 k hk)
          have Of15_u16 : u16 101 15 = τ 101 15 := Of15_u16_.trans Of15_s1
          have Of34_u16 : u16 101 34 = τ 101 34 := Of34_u16_.trans Of34_s1
          have Of1_u16 : u16 101 1 = τ 101 1 := Of1_u16_.trans Of1_s1
          have Of30_u16 : u16 101 30 = τ 101 30 := Of30_u16_.trans Of30_s1
          have Of18_u16 : u16 101 18 = τ 101 18 := Of18_u16_.trans Of18_s1
          have l_0 : (0 : Int32).toInt = 0 := rfl
          exact sl_X4_gap_48 hF (by omega) (by omega) (by omega) (by omega) _ _ _ _ _ Iu16 Fu16 Of15_u16 Of34_u16 Of1_u16 Of30_u16 Of18_u16 (by omega) (by decide) (by decide) (by decide) (by decide) (by decide) (by decide)
        have C14 : (0 : Int) < (0 : Int) := ti_nle c14
        exfalso; omega
      have C13 : (999 : Int) < x2.toInt := ti_nle c13
      refine sf_ret ?_
      rw [j_X4_gap_24_e]
      refine sf_ite (fun c18 => ?_) (fun c18 => ?_)
      · have C18 : (0 : Int) ≤ (-6 : Int) := ti_le c18
        exfalso; omega
      have C18 : (-6 : Int) < (0 : Int) := ti_nle c18
      refine sf_bnd (s_X4_refuse hF Is1 (by decide) (by decide)) (fun r19 u20 p21 => ?_)
      obtain ⟨Iu20, Fu20_, Of15_u20_, Of34_u20_, Of1_u20_, Of30_u20_, Of18_u20_, p21_1, p21_2, p21_x0⟩ := p21
      have Fu20 : ∀ k, k < 101 → u20 k = τ k := fun k hk => (Fu20_ k hk).trans (Fs1 k hk)
      have Of15_u20 : u20 101 15 = τ 101 15 := Of15_u20_.trans Of15_s1
      have Of34_u20 : u20 101 34 = τ 101 34 := Of34_u20_.trans Of34_s1
      have Of1_u20 : u20 101 1 = τ 101 1 := Of1_u20_.trans Of1_s1
      have Of30_u20 : u20 101 30 = τ 101 30 := Of30_u20_.trans Of30_s1
      have Of18_u20 : u20 101 18 = τ 101 18 := Of18_u20_.trans Of18_s1
      replace p21_x0 : r19.toInt = (-6 : Int) := p21_x0
      exact sf_ret ⟨Iu20, Fu20, Of15_u20, Of34_u20, Of1_u20, Of30_u20, Of18_u20, ti_lo _, ti_hi _⟩
    have C12 : x2.toInt < (0 : Int) := ti_nle c12
    refine sf_ret ?_
    rw [j_X4_gap_24_e]
    refine sf_ite (fun c22 => ?_) (fun c22 => ?_)
    · have C22 : (0 : Int) ≤ (-4 : Int) := ti_le c22
      exfalso; omega
    have C22 : (-4 : Int) < (0 : Int) := ti_nle c22
    refine sf_bnd (s_X4_refuse hF Is1 (by decide) (by decide)) (fun r23 u24 p25 => ?_)
    obtain ⟨Iu24, Fu24_, Of15_u24_, Of34_u24_, Of1_u24_, Of30_u24_, Of18_u24_, p25_1, p25_2, p25_x0⟩ := p25
    have Fu24 : ∀ k, k < 101 → u24 k = τ k := fun k hk => (Fu24_ k hk).trans (Fs1 k hk)
    have Of15_u24 : u24 101 15 = τ 101 15 := Of15_u24_.trans Of15_s1
    have Of34_u24 : u24 101 34 = τ 101 34 := Of34_u24_.trans Of34_s1
    have Of1_u24 : u24 101 1 = τ 101 1 := Of1_u24_.trans Of1_s1
    have Of30_u24 : u24 101 30 = τ 101 30 := Of30_u24_.trans Of30_s1
    have Of18_u24 : u24 101 18 = τ 101 18 := Of18_u24_.trans Of18_s1
    replace p25_x0 : r23.toInt = (-4 : Int) := p25_x0
    exact sf_ret ⟨Iu24, Fu24, Of15_u24, Of34_u24, Of1_u24, Of30_u24, Of18_u24, ti_lo _, ti_hi _⟩
  obtain ⟨rfl, q26⟩ := p6
  refine sf_ite (fun c27 => ?_) (fun c27 => ?_)
  · have C27 : (0 : Int) = (0 : Int) := ti_eq c27
    rw [j_X4_gap_24_e]
    refine sf_ite (fun c28 => ?_) (fun c28 => ?_)
    · have C28 : (0 : Int) ≤ (-1 : Int) := ti_le c28
      exfalso; omega
    have C28 : (-1 : Int) < (0 : Int) := ti_nle c28
    refine sf_bnd (s_X4_refuse hF Is1 (by decide) (by decide)) (fun r29 u30 p31 => ?_)
    obtain ⟨Iu30, Fu30_, Of15_u30_, Of34_u30_, Of1_u30_, Of30_u30_, Of18_u30_, p31_1, p31_2, p31_x0⟩ := p31
    have Fu30 : ∀ k, k < 101 → u30 k = τ k := fun k hk => (Fu30_ k hk).trans (Fs1 k hk)
    have Of15_u30 : u30 101 15 = τ 101 15 := Of15_u30_.trans Of15_s1
    have Of34_u30 : u30 101 34 = τ 101 34 := Of34_u30_.trans Of34_s1
    have Of1_u30 : u30 101 1 = τ 101 1 := Of1_u30_.trans Of1_s1
    have Of30_u30 : u30 101 30 = τ 101 30 := Of30_u30_.trans Of30_s1
    have Of18_u30 : u30 101 18 = τ 101 18 := Of18_u30_.trans Of18_s1
    replace p31_x0 : r29.toInt = (-1 : Int) := p31_x0
    exact sf_ret ⟨Iu30, Fu30, Of15_u30, Of34_u30, Of1_u30, Of30_u30, Of18_u30, ti_lo _, ti_hi _⟩
  have C27 : ¬ (0 : Int) = (0 : Int) := ti_ne c27
  exfalso; omega
set_option maxHeartbeats 4000000 in
set_option maxRecDepth 100000 in
theorem sl_X4_wasted_40 {F : Nat} (hF : 73786976294838206464 ≤ F) {x1 : Int32} {x2 : Int32} {τ : Mem} (x1_1 : 0 ≤ x1.toInt) (x1_2 : x1.toInt ≤ 4) (x2_1 : 0 ≤ x2.toInt) (x2_2 : x2.toInt ≤ 1) : ∀ (N : Nat) (x4 : Int32) (x5 : Int32) (σ : Mem), wiM σ → (∀ k, k < 101 → σ k = τ k) → σ 101 15 = τ 101 15 → σ 101 34 = τ 101 34 → σ 101 1 = τ 101 1 → σ 101 30 = τ 101 30 → σ 101 18 = τ 101 18 → 24 < x5.toInt + N → 0 ≤ x5.toInt → x5.toInt ≤ 24 → sf (lp_X4_wasted_40 F x1 x2 N x4 x5 σ) (fun r s => wiM s ∧ (∀ k, k < 101 → s k = τ k) ∧ s 101 15 = τ 101 15 ∧ s 101 34 = τ 101 34 ∧ s 101 1 = τ 101 1 ∧ s 101 30 = τ 101 30 ∧ s 101 18 = τ 101 18 ∧ -2147483648 ≤ r.toInt ∧ r.toInt ≤ 2147483647) := by
  intro N
  induction N with
  | zero => intro x4 x5 σ hI Fσ Of15_σ Of34_σ Of1_σ Of30_σ Of18_σ hN x5_1 x5_2; exfalso; omega
  | succ N ih =>
    intro x4 x5 σ hI Fσ Of15_σ Of34_σ Of1_σ Of30_σ Of18_σ hN x5_1 x5_2
    rw [lp_X4_wasted_40_s]
    refine sf_ite (fun c1 => ?_) (fun c1 => ?_)
    · have C1 : (24 : Int) ≤ x5.toInt := ti_le c1
      have b2 := ti_lo x4
      have b3 := ti_hi x4
      exact sf_ret ⟨hI, Fσ, Of15_σ, Of34_σ, Of1_σ, Of30_σ, Of18_σ, ti_lo _, ti_hi _⟩
    have C1 : x5.toInt < (24 : Int) := ti_nle c1
    have t4 : ((24 : Int32) * x1).toInt = (24 : Int) * x1.toInt := ti_mul (show -2147483648 ≤ (24 : Int) * x1.toInt by omega) (show (24 : Int) * x1.toInt ≤ 2147483647 by omega)
    have t5 : (((24 : Int32) * x1) + x5).toInt = ((24 : Int32) * x1).toInt + x5.toInt := ti_add (show -2147483648 ≤ ((24 : Int32) * x1).toInt + x5.toInt by omega) (show ((24 : Int32) * x1).toInt + x5.toInt ≤ 2147483647 by omega)
    refine sf_chk (ti_in (by omega) (by omega)) ?_
    have v6 : Int32.toNatClampNeg (((24 : Int32) * x1) + x5) = (((24 : Int32) * x1) + x5).toInt.toNat := rfl
    have m7 := wx_106 hI (Int32.toNatClampNeg (((24 : Int32) * x1) + x5))
    refine sf_ite (fun c8 => ?_) (fun c8 => ?_)
    · have C8 : (σ 106 (Int32.toNatClampNeg (((24 : Int32) * x1) + x5))).toInt < (0 : Int) := ti_lt c8
      rw [j_X4_wasted_67_e]
      refine sf_bnd (s_X4_pullOf hF hI (by omega) (by omega) (by omega) (by omega)) (fun r9 u10 p11 => ?_)
      obtain ⟨e9, p11_1, p11_2⟩ := p11
      have e9 := e9.symm
      subst e9
      have b12 := ti_lo r9
      have b13 := ti_hi r9
      refine sf_ite (fun c14 => ?_) (fun c14 => ?_)
      · have C14 : r9.toInt ≤ (0 : Int) := ti_le c14
        rw [j_X4_wasted_84_e]
        refine sf_ite (fun c15 => ?_) (fun c15 => ?_)
        · have C15 : x2.toInt = (0 : Int) := ti_eq c15
          rw [j_X4_wasted_99_e]
          refine sf_ite (fun c16 => ?_) (fun c16 => ?_)
          · have C16 : (0 : Int) = (1 : Int) := ti_eq c16
            exfalso; omega
          have C16 : ¬ (0 : Int) = (1 : Int) := ti_ne c16
          rw [j_X4_wasted_124_e]
          rw [j_X4_wasted_125_e]
          have b17 := ti_lo (x4 ||| (0 : Int32))
          have b18 := ti_hi (x4 ||| (0 : Int32))
          have t19 : (x5 + (1 : Int32)).toInt = x5.toInt + (1 : Int) := ti_add (show -2147483648 ≤ x5.toInt + (1 : Int) by omega) (show x5.toInt + (1 : Int) ≤ 2147483647 by omega)
          exact ih _ _ _ hI Fσ Of15_σ Of34_σ Of1_σ Of30_σ Of18_σ (by omega) (by omega) (by omega)
        have C15 : ¬ x2.toInt = (0 : Int) := ti_ne c15
        rw [j_X4_wasted_99_e]
        refine sf_ite (fun c20 => ?_) (fun c20 => ?_)
        · have C20 : (0 : Int) = (0 : Int) := ti_eq c20
          refine sf_ite (fun c21 => ?_) (fun c21 => ?_)
          · have C21 : x2.toInt = (1 : Int) := ti_eq c21
            rw [j_X4_wasted_114_e]
            refine sf_ite (fun c22 => ?_) (fun c22 => ?_)
            · have C22 : (0 : Int) = (1 : Int) := ti_eq c22
              exfalso; omega
            have C22 : ¬ (0 : Int) = (1 : Int) := ti_ne c22
            rw [j_X4_wasted_124_e]
            rw [j_X4_wasted_125_e]
            have b23 := ti_lo (x4 ||| (0 : Int32))
            have b24 := ti_hi (x4 ||| (0 : Int32))
            have t25 : (x5 + (1 : Int32)).toInt = x5.toInt + (1 : Int) := ti_add (show -2147483648 ≤ x5.toInt + (1 : Int) by omega) (show x5.toInt + (1 : Int) ≤ 2147483647 by omega)
            exact ih _ _ _ hI Fσ Of15_σ Of34_σ Of1_σ Of30_σ Of18_σ (by omega) (by omega) (by omega)
          have C21 : ¬ x2.toInt = (1 : Int) := ti_ne c21
          exfalso; omega
        have C20 : ¬ (0 : Int) = (0 : Int) := ti_ne c20
        exfalso; omega
      have C14 : (0 : Int) < r9.toInt := ti_nle c14
      rw [j_X4_wasted_84_e]
      refine sf_ite (fun c26 => ?_) (fun c26 => ?_)
      · have C26 : x2.toInt = (0 : Int) := ti_eq c26
        rw [j_X4_wasted_99_e]
        refine sf_ite (fun c27 => ?_) (fun c27 => ?_)
        · have C27 : (0 : Int) = (1 : Int) := ti_eq c27
          exfalso; omega
        have C27 : ¬ (0 : Int) = (1 : Int) := ti_ne c27
        rw [j_X4_wasted_124_e]
        rw [j_X4_wasted_125_e]
        have b28 := ti_lo (x4 ||| (0 : Int32))
        have b29 := ti_hi (x4 ||| (0 : Int32))
        have t30 : (x5 + (1 : Int32)).toInt = x5.toInt + (1 : Int) := ti_add (show -2147483648 ≤ x5.toInt + (1 : Int) by omega) (show x5.toInt + (1 : Int) ≤ 2147483647 by omega)
        exact ih _ _ _ hI Fσ Of15_σ Of34_σ Of1_σ Of30_σ Of18_σ (by omega) (by omega) (by omega)
      have C26 : ¬ x2.toInt = (0 : Int) := ti_ne c26
      rw [j_X4_wasted_99_e]
      refine sf_ite (fun c31 => ?_) (fun c31 => ?_)
      · have C31 : (0 : Int) = (0 : Int) := ti_eq c31
        refine sf_ite (fun c32 => ?_) (fun c32 => ?_)
        · have C32 : x2.toInt = (1 : Int) := ti_eq c32
          rw [j_X4_wasted_114_e]
          refine sf_ite (fun c33 => ?_) (fun c33 => ?_)
          · have C33 : (1 : Int) = (1 : Int) := ti_eq c33
            rw [j_X4_wasted_125_e]
            have b34 := ti_lo (x4 ||| ((1 : Int32) <<< (x5 &&& 31)))
            have b35 := ti_hi (x4 ||| ((1 : Int32) <<< (x5 &&& 31)))
            have t36 : (x5 + (1 : Int32)).toInt = x5.toInt + (1 : Int) := ti_add (show -2147483648 ≤ x5.toInt + (1 : Int) by omega) (show x5.toInt + (1 : Int) ≤ 2147483647 by omega)
            exact ih _ _ _ hI Fσ Of15_σ Of34_σ Of1_σ Of30_σ Of18_σ (by omega) (by omega) (by omega)
          have C33 : ¬ (1 : Int) = (1 : Int) := ti_ne c33
          exfalso; omega
        have C32 : ¬ x2.toInt = (1 : Int) := ti_ne c32
        exfalso; omega
      have C31 : ¬ (0 : Int) = (0 : Int) := ti_ne c31
      exfalso; omega
    have C8 : (0 : Int) ≤ (σ 106 (Int32.toNatClampNeg (((24 : Int32) * x1) + x5))).toInt := ti_nlt c8
    rw [j_X4_wasted_67_e]
    refine sf_bnd (s_X4_pullOf hF hI (by omega) (by omega) (by omega) (by omega)) (fun r37 u38 p39 => ?_)
    obtain ⟨e9, p39_1, p39_2⟩ := p39
    have e9 := e9.symm
    subst e9
    have b40 := ti_lo r37
    have b41 := ti_hi r37
    refine sf_ite (fun c42 => ?_) (fun c42 => ?_)
    · have C42 : r37.toInt ≤ (0 : Int) := ti_le c42
      rw [j_X4_wasted_84_e]
      refine sf_ite (fun c43 => ?_) (fun c43 => ?_)
      · have C43 : x2.toInt = (0 : Int) := ti_eq c43
        rw [j_X4_wasted_99_e]
        refine sf_ite (fun c44 => ?_) (fun c44 => ?_)
        · have C44 : (1 : Int) = (1 : Int) := ti_eq c44
          refine sf_ite (fun c45 => ?_) (fun c45 => ?_)
          · have C45 : x2.toInt = (1 : Int) := ti_eq c45
            exfalso; omega
          have C45 : ¬ x2.toInt = (1 : Int) := ti_ne c45
          rw [j_X4_wasted_114_e]
          refine sf_ite (fun c46 => ?_) (fun c46 => ?_)
          · have C46 : (0 : Int) = (0 : Int) := ti_eq c46
            rw [j_X4_wasted_125_e]
            have b47 := ti_lo (x4 ||| ((1 : Int32) <<< (x5 &&& 31)))
            have b48 := ti_hi (x4 ||| ((1 : Int32) <<< (x5 &&& 31)))
            have t49 : (x5 + (1 : Int32)).toInt = x5.toInt + (1 : Int) := ti_add (show -2147483648 ≤ x5.toInt + (1 : Int) by omega) (show x5.toInt + (1 : Int) ≤ 2147483647 by omega)
            exact ih _ _ _ hI Fσ Of15_σ Of34_σ Of1_σ Of30_σ Of18_σ (by omega) (by omega) (by omega)
          have C46 : ¬ (0 : Int) = (0 : Int) := ti_ne c46
          exfalso; omega
        have C44 : ¬ (1 : Int) = (1 : Int) := ti_ne c44
        exfalso; omega
      have C43 : ¬ x2.toInt = (0 : Int) := ti_ne c43
      rw [j_X4_wasted_99_e]
      refine sf_ite (fun c50 => ?_) (fun c50 => ?_)
      · have C50 : (1 : Int) = (0 : Int) := ti_eq c50
        exfalso; omega
      have C50 : ¬ (1 : Int) = (0 : Int) := ti_ne c50
      rw [j_X4_wasted_124_e]
      rw [j_X4_wasted_125_e]
      have b51 := ti_lo (x4 ||| (0 : Int32))
      have b52 := ti_hi (x4 ||| (0 : Int32))
      have t53 : (x5 + (1 : Int32)).toInt = x5.toInt + (1 : Int) := ti_add (show -2147483648 ≤ x5.toInt + (1 : Int) by omega) (show x5.toInt + (1 : Int) ≤ 2147483647 by omega)
      exact ih _ _ _ hI Fσ Of15_σ Of34_σ Of1_σ Of30_σ Of18_σ (by omega) (by omega) (by omega)
    have C42 : (0 : Int) < r37.toInt := ti_nle c42
    rw [j_X4_wasted_84_e]
    refine sf_ite (fun c54 => ?_) (fun c54 => ?_)
    · have C54 : x2.toInt = (0 : Int) := ti_eq c54
      rw [j_X4_wasted_99_e]
      refine sf_ite (fun c55 => ?_) (fun c55 => ?_)
      · have C55 : (1 : Int) = (1 : Int) := ti_eq c55
        refine sf_ite (fun c56 => ?_) (fun c56 => ?_)
        · have C56 : x2.toInt = (1 : Int) := ti_eq c56
          exfalso; omega
        have C56 : ¬ x2.toInt = (1 : Int) := ti_ne c56
        rw [j_X4_wasted_114_e]
        refine sf_ite (fun c57 => ?_) (fun c57 => ?_)
        · have C57 : (1 : Int) = (0 : Int) := ti_eq c57
          exfalso; omega
        have C57 : ¬ (1 : Int) = (0 : Int) := ti_ne c57
        rw [j_X4_wasted_124_e]
        rw [j_X4_wasted_125_e]
        have b58 := ti_lo (x4 ||| (0 : Int32))
        have b59 := ti_hi (x4 ||| (0 : Int32))
        have t60 : (x5 + (1 : Int32)).toInt = x5.toInt + (1 : Int) := ti_add (show -2147483648 ≤ x5.toInt + (1 : Int) by omega) (show x5.toInt + (1 : Int) ≤ 2147483647 by omega)
        exact ih _ _ _ hI Fσ Of15_σ Of34_σ Of1_σ Of30_σ Of18_σ (by omega) (by omega) (by omega)
      have C55 : ¬ (1 : Int) = (1 : Int) := ti_ne c55
      exfalso; omega
    have C54 : ¬ x2.toInt = (0 : Int) := ti_ne c54
    rw [j_X4_wasted_99_e]
    refine sf_ite (fun c61 => ?_) (fun c61 => ?_)
    · have C61 : (1 : Int) = (0 : Int) := ti_eq c61
      exfalso; omega
    have C61 : ¬ (1 : Int) = (0 : Int) := ti_ne c61
    rw [j_X4_wasted_124_e]
    rw [j_X4_wasted_125_e]
    have b62 := ti_lo (x4 ||| (0 : Int32))
    have b63 := ti_hi (x4 ||| (0 : Int32))
    have t64 : (x5 + (1 : Int32)).toInt = x5.toInt + (1 : Int) := ti_add (show -2147483648 ≤ x5.toInt + (1 : Int) by omega) (show x5.toInt + (1 : Int) ≤ 2147483647 by omega)
    exact ih _ _ _ hI Fσ Of15_σ Of34_σ Of1_σ Of30_σ Of18_σ (by omega) (by omega) (by omega)
set_option maxHeartbeats 4000000 in
set_option maxRecDepth 100000 in
theorem s_X4_wasted {F : Nat} (hF : 73786976294838206464 ≤ F) {x1 : Int32} {x2 : Int32} {τ : Mem} (hI : wiM τ) : sf (f_X4_wasted F x1 x2 τ) (fun r s => wiM s ∧ (∀ k, k < 101 → s k = τ k) ∧ s 101 15 = τ 101 15 ∧ s 101 34 = τ 101 34 ∧ s 101 1 = τ 101 1 ∧ s 101 30 = τ 101 30 ∧ s 101 18 = τ 101 18 ∧ -2147483648 ≤ r.toInt ∧ r.toInt ≤ 2147483647) := by
  have Fτ : ∀ k, k < 101 → τ k = τ k := fun _ _ => rfl
  have Of15_τ : τ 101 15 = τ 101 15 := rfl
  have Of34_τ : τ 101 34 = τ 101 34 := rfl
  have Of1_τ : τ 101 1 = τ 101 1 := rfl
  have Of30_τ : τ 101 30 = τ 101 30 := rfl
  have Of18_τ : τ 101 18 = τ 101 18 := rfl
  rw [f_X4_wasted_e]
  refine sf_lt (fun s1 hs1 => ?_)
  have Is1 : wiM s1 := by rw [hs1]; exact wm_fld hI (by decide) (by decide) (by decide) (by decide) (by decide) (by decide) (by decide)
  have Fs1 : ∀ k, k < 101 → s1 k = τ k := fun k hk => (show s1 k = τ k by rw [hs1, up2_k (by omega)]).trans (Fτ k hk)
  have Of15_s1 : s1 101 15 = τ 101 15 := (show s1 101 15 = τ 101 15 by rw [hs1, up2_i (by decide)]).trans Of15_τ
  have Of34_s1 : s1 101 34 = τ 101 34 := (show s1 101 34 = τ 101 34 by rw [hs1, up2_i (by decide)]).trans Of34_τ
  have Of1_s1 : s1 101 1 = τ 101 1 := (show s1 101 1 = τ 101 1 by rw [hs1, up2_i (by decide)]).trans Of1_τ
  have Of30_s1 : s1 101 30 = τ 101 30 := (show s1 101 30 = τ 101 30 by rw [hs1, up2_i (by decide)]).trans Of30_τ
  have Of18_s1 : s1 101 18 = τ 101 18 := (show s1 101 18 = τ 101 18 by rw [hs1, up2_i (by decide)]).trans Of18_τ
  have b2 := ti_lo x1
  have b3 := ti_hi x1
  refine sf_bnd (s_X4_isLooker hF Is1) (fun r4 u5 p6 => ?_)
  obtain ⟨e9, p6⟩ := p6
  have e9 := e9.symm
  subst e9
  rcases p6 with ⟨rfl, q7, q8⟩ | p6
  · refine sf_ite (fun c9 => ?_) (fun c9 => ?_)
    · have C9 : (1 : Int) = (0 : Int) := ti_eq c9
      exfalso; omega
    have C9 : ¬ (1 : Int) = (0 : Int) := ti_ne c9
    refine sf_in ?_
    rw [f_X4_wrongBit_e]
    refine sf_ite (fun c10 => ?_) (fun c10 => ?_)
    · have C10 : (0 : Int) = (0 : Int) := ti_eq c10
      refine sf_in ?_
      rw [f_X4_in_e]
      have b11 := ti_lo x2
      have b12 := ti_hi x2
      have b13 := ti_lo (lg_cmp (Int32.toInt64 x2) (0 : Int64))
      have b14 := ti_hi (lg_cmp (Int32.toInt64 x2) (0 : Int64))
      refine sf_ite (fun c15 => ?_) (fun c15 => ?_)
      · have C15 : (lg_cmp (Int32.toInt64 x2) (0 : Int64)).toInt < (0 : Int) := ti_lt c15
        have L15 : x2.toInt < (0 : Int) := by have q := lg_ltl c15; (repeat (rw [Int32.toInt_toInt64] at q)); exact q
        rw [j_X4_in_17_e]
        refine sf_ret ?_
        refine sf_ite (fun c16 => ?_) (fun c16 => ?_)
        · have C16 : (0 : Int) = (0 : Int) := ti_eq c16
          refine sf_ret ?_
          rw [j_X4_wasted_23_e]
          refine sf_ite (fun c17 => ?_) (fun c17 => ?_)
          · have C17 : (0 : Int) ≤ (-2 : Int) := ti_le c17
            exfalso; omega
          have C17 : (-2 : Int) < (0 : Int) := ti_nle c17
          refine sf_bnd (s_X4_refuse hF Is1 (by decide) (by decide)) (fun r18 u19 p20 => ?_)
          obtain ⟨Iu19, Fu19_, Of15_u19_, Of34_u19_, Of1_u19_, Of30_u19_, Of18_u19_, p20_1, p20_2, p20_x0⟩ := p20
          have Fu19 : ∀ k, k < 101 → u19 k = τ k := fun k hk => (Fu19_ k hk).trans (Fs1 k hk)
          have Of15_u19 : u19 101 15 = τ 101 15 := Of15_u19_.trans Of15_s1
          have Of34_u19 : u19 101 34 = τ 101 34 := Of34_u19_.trans Of34_s1
          have Of1_u19 : u19 101 1 = τ 101 1 := Of1_u19_.trans Of1_s1
          have Of30_u19 : u19 101 30 = τ 101 30 := Of30_u19_.trans Of30_s1
          have Of18_u19 : u19 101 18 = τ 101 18 := Of18_u19_.trans Of18_s1
          replace p20_x0 : r18.toInt = (-2 : Int) := p20_x0
          exact sf_ret ⟨Iu19, Fu19, Of15_u19, Of34_u19, Of1_u19, Of30_u19, Of18_u19, ti_lo _, ti_hi _⟩
        have C16 : ¬ (0 : Int) = (0 : Int) := ti_ne c16
        exfalso; omega
      have C15 : (0 : Int) ≤ (lg_cmp (Int32.toInt64 x2) (0 : Int64)).toInt := ti_nlt c15
      have L15 : (0 : Int) ≤ x2.toInt := by have q := lg_ltln c15; (repeat (rw [Int32.toInt_toInt64] at q)); exact q
      have b21 := ti_lo (lg_cmp (Int32.toInt64 x2) (Int32.toInt64 (1 : Int32)))
      have b22 := ti_hi (lg_cmp (Int32.toInt64 x2) (Int32.toInt64 (1 : Int32)))
      refine sf_ite (fun c23 => ?_) (fun c23 => ?_)
      · have C23 : (0 : Int) < (lg_cmp (Int32.toInt64 x2) (Int32.toInt64 (1 : Int32))).toInt := ti_lt c23
        have L23 : (1 : Int) < x2.toInt := by have q := lg_ltr c23; (repeat (rw [Int32.toInt_toInt64] at q)); exact q
        rw [j_X4_in_17_e]
        refine sf_ret ?_
        refine sf_ite (fun c24 => ?_) (fun c24 => ?_)
        · have C24 : (0 : Int) = (0 : Int) := ti_eq c24
          refine sf_ret ?_
          rw [j_X4_wasted_23_e]
          refine sf_ite (fun c25 => ?_) (fun c25 => ?_)
          · have C25 : (0 : Int) ≤ (-2 : Int) := ti_le c25
            exfalso; omega
          have C25 : (-2 : Int) < (0 : Int) := ti_nle c25
          refine sf_bnd (s_X4_refuse hF Is1 (by decide) (by decide)) (fun r26 u27 p28 => ?_)
          obtain ⟨Iu27, Fu27_, Of15_u27_, Of34_u27_, Of1_u27_, Of30_u27_, Of18_u27_, p28_1, p28_2, p28_x0⟩ := p28
          have Fu27 : ∀ k, k < 101 → u27 k = τ k := fun k hk => (Fu27_ k hk).trans (Fs1 k hk)
          have Of15_u27 : u27 101 15 = τ 101 15 := Of15_u27_.trans Of15_s1
          have Of34_u27 : u27 101 34 = τ 101 34 := Of34_u27_.trans Of34_s1
          have Of1_u27 : u27 101 1 = τ 101 1 := Of1_u27_.trans Of1_s1
          have Of30_u27 : u27 101 30 = τ 101 30 := Of30_u27_.trans Of30_s1
          have Of18_u27 : u27 101 18 = τ 101 18 := Of18_u27_.trans Of18_s1
          replace p28_x0 : r26.toInt = (-2 : Int) := p28_x0
          exact sf_ret ⟨Iu27, Fu27, Of15_u27, Of34_u27, Of1_u27, Of30_u27, Of18_u27, ti_lo _, ti_hi _⟩
        have C24 : ¬ (0 : Int) = (0 : Int) := ti_ne c24
        exfalso; omega
      have C23 : (lg_cmp (Int32.toInt64 x2) (Int32.toInt64 (1 : Int32))).toInt ≤ (0 : Int) := ti_nlt c23
      have L23 : x2.toInt ≤ (1 : Int) := by have q := lg_ltrn c23; (repeat (rw [Int32.toInt_toInt64] at q)); exact q
      refine sf_ret ?_
      refine sf_ite (fun c29 => ?_) (fun c29 => ?_)
      · have C29 : (1 : Int) = (0 : Int) := ti_eq c29
        exfalso; omega
      have C29 : ¬ (1 : Int) = (0 : Int) := ti_ne c29
      rw [j_X4_wrongBit_20_e]
      refine sf_ret ?_
      rw [j_X4_wasted_23_e]
      refine sf_ite (fun c30 => ?_) (fun c30 => ?_)
      · have C30 : (0 : Int) ≤ (0 : Int) := ti_le c30
        have l_0 : (0 : Int32).toInt = 0 := rfl
        exact sl_X4_wasted_40 hF (by omega) (by omega) (by omega) (by omega) _ _ _ _ Is1 Fs1 Of15_s1 Of34_s1 Of1_s1 Of30_s1 Of18_s1 (by omega) (by decide) (by decide)
      have C30 : (0 : Int) < (0 : Int) := ti_nle c30
      exfalso; omega
    have C10 : ¬ (0 : Int) = (0 : Int) := ti_ne c10
    exfalso; omega
  obtain rfl := p6
  refine sf_ite (fun c31 => ?_) (fun c31 => ?_)
  · have C31 : (0 : Int) = (0 : Int) := ti_eq c31
    rw [j_X4_wasted_23_e]
    refine sf_ite (fun c32 => ?_) (fun c32 => ?_)
    · have C32 : (0 : Int) ≤ (-1 : Int) := ti_le c32
      exfalso; omega
    have C32 : (-1 : Int) < (0 : Int) := ti_nle c32
    refine sf_bnd (s_X4_refuse hF Is1 (by decide) (by decide)) (fun r33 u34 p35 => ?_)
    obtain ⟨Iu34, Fu34_, Of15_u34_, Of34_u34_, Of1_u34_, Of30_u34_, Of18_u34_, p35_1, p35_2, p35_x0⟩ := p35
    have Fu34 : ∀ k, k < 101 → u34 k = τ k := fun k hk => (Fu34_ k hk).trans (Fs1 k hk)
    have Of15_u34 : u34 101 15 = τ 101 15 := Of15_u34_.trans Of15_s1
    have Of34_u34 : u34 101 34 = τ 101 34 := Of34_u34_.trans Of34_s1
    have Of1_u34 : u34 101 1 = τ 101 1 := Of1_u34_.trans Of1_s1
    have Of30_u34 : u34 101 30 = τ 101 30 := Of30_u34_.trans Of30_s1
    have Of18_u34 : u34 101 18 = τ 101 18 := Of18_u34_.trans Of18_s1
    replace p35_x0 : r33.toInt = (-1 : Int) := p35_x0
    exact sf_ret ⟨Iu34, Fu34, Of15_u34, Of34_u34, Of1_u34, Of30_u34, Of18_u34, ti_lo _, ti_hi _⟩
  have C31 : ¬ (0 : Int) = (0 : Int) := ti_ne c31
  exfalso; omega
