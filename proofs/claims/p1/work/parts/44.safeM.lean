set_option maxHeartbeats 4000000 in
set_option maxRecDepth 100000 in
theorem sl_X4_ownerIn_2 {F : Nat} (hF : 73786976294838206464 ≤ F) {x1 : Int32} {x2 : Int32} {τ : Mem} (x1_1 : 0 ≤ x1.toInt) (x1_2 : x1.toInt ≤ 7) (x2_1 : 0 ≤ x2.toInt) (x2_2 : x2.toInt ≤ 999) : ∀ (N : Nat) (x3 : Int32) (σ : Mem), wiM σ → (∀ k, k < 101 → σ k = τ k) → σ 101 15 = τ 101 15 → σ 101 34 = τ 101 34 → σ 101 1 = τ 101 1 → σ 101 30 = τ 101 30 → σ 101 18 = τ 101 18 → 5 < x3.toInt + N → 0 ≤ x3.toInt → x3.toInt ≤ 5 → sf (lp_X4_ownerIn_2 F x1 x2 N x3 σ) (fun r s => wiM s ∧ (∀ k, k < 101 → s k = τ k) ∧ s 101 15 = τ 101 15 ∧ s 101 34 = τ 101 34 ∧ s 101 1 = τ 101 1 ∧ s 101 30 = τ 101 30 ∧ s 101 18 = τ 101 18 ∧ -9 ≤ r.toInt ∧ r.toInt ≤ 4) := by
  intro N
  induction N with
  | zero => intro x3 σ hI Fσ Of15_σ Of34_σ Of1_σ Of30_σ Of18_σ hN x3_1 x3_2; exfalso; omega
  | succ N ih =>
    intro x3 σ hI Fσ Of15_σ Of34_σ Of1_σ Of30_σ Of18_σ hN x3_1 x3_2
    rw [lp_X4_ownerIn_2_s]
    have m1 := wx_X4_3 hI
    refine sf_ite (fun c2 => ?_) (fun c2 => ?_)
    · have C2 : (σ 101 3).toInt ≤ x3.toInt := ti_le c2
      refine sf_bnd (s_X4_ownerLooked hF hI) (fun r3 u4 p5 => ?_)
      obtain ⟨e9, p5_1, p5_2⟩ := p5
      have e9 := e9.symm
      subst e9
      exact sf_ret ⟨hI, Fσ, Of15_σ, Of34_σ, Of1_σ, Of30_σ, Of18_σ, by omega, by omega⟩
    have C2 : x3.toInt < (σ 101 3).toInt := ti_nle c2
    have t6 : ((8 : Int32) * x3).toInt = (8 : Int) * x3.toInt := ti_mul (show -2147483648 ≤ (8 : Int) * x3.toInt by omega) (show (8 : Int) * x3.toInt ≤ 2147483647 by omega)
    have t7 : (((8 : Int32) * x3) + x1).toInt = ((8 : Int32) * x3).toInt + x1.toInt := ti_add (show -2147483648 ≤ ((8 : Int32) * x3).toInt + x1.toInt by omega) (show ((8 : Int32) * x3).toInt + x1.toInt ≤ 2147483647 by omega)
    refine sf_chk (ti_in (by omega) (by omega)) ?_
    have v8 : Int32.toNatClampNeg (((8 : Int32) * x3) + x1) = (((8 : Int32) * x3) + x1).toInt.toNat := rfl
    have b9 := ti_lo (σ 107 (Int32.toNatClampNeg (((8 : Int32) * x3) + x1)))
    have b10 := ti_hi (σ 107 (Int32.toNatClampNeg (((8 : Int32) * x3) + x1)))
    have b11 := ti_lo (σ 109 (Int32.toNatClampNeg (((8 : Int32) * x3) + x1)))
    have b12 := ti_hi (σ 109 (Int32.toNatClampNeg (((8 : Int32) * x3) + x1)))
    have b13 := ti_lo (x2 * (σ 109 (Int32.toNatClampNeg (((8 : Int32) * x3) + x1))))
    have b14 := ti_hi (x2 * (σ 109 (Int32.toNatClampNeg (((8 : Int32) * x3) + x1))))
    have b15 := ti_lo ((σ 107 (Int32.toNatClampNeg (((8 : Int32) * x3) + x1))) + (x2 * (σ 109 (Int32.toNatClampNeg (((8 : Int32) * x3) + x1)))))
    have b16 := ti_hi ((σ 107 (Int32.toNatClampNeg (((8 : Int32) * x3) + x1))) + (x2 * (σ 109 (Int32.toNatClampNeg (((8 : Int32) * x3) + x1)))))
    refine sf_bnd (s_X4_held hF hI) (fun r17 u18 p19 => ?_)
    obtain ⟨e9, p19_1, p19_2⟩ := p19
    have e9 := e9.symm
    subst e9
    refine sf_chk (ti_in (by omega) (by omega)) ?_
    have v20 : Int32.toNatClampNeg x3 = x3.toInt.toNat := rfl
    refine sf_lt (fun s21 hs21 => ?_)
    have Is21 : wiM s21 := by rw [hs21]; exact wm_oth hI (by decide) (by decide) (by decide) (by decide)
    have Fs21 : ∀ k, k < 101 → s21 k = τ k := fun k hk => (show s21 k = σ k by rw [hs21, up2_k (by omega)]).trans (Fσ k hk)
    have Of15_s21 : s21 101 15 = τ 101 15 := (show s21 101 15 = σ 101 15 by rw [hs21, up2_k (by omega)]).trans Of15_σ
    have Of34_s21 : s21 101 34 = τ 101 34 := (show s21 101 34 = σ 101 34 by rw [hs21, up2_k (by omega)]).trans Of34_σ
    have Of1_s21 : s21 101 1 = τ 101 1 := (show s21 101 1 = σ 101 1 by rw [hs21, up2_k (by omega)]).trans Of1_σ
    have Of30_s21 : s21 101 30 = τ 101 30 := (show s21 101 30 = σ 101 30 by rw [hs21, up2_k (by omega)]).trans Of30_σ
    have Of18_s21 : s21 101 18 = τ 101 18 := (show s21 101 18 = σ 101 18 by rw [hs21, up2_k (by omega)]).trans Of18_σ
    have t22 : (x3 + (1 : Int32)).toInt = x3.toInt + (1 : Int) := ti_add (show -2147483648 ≤ x3.toInt + (1 : Int) by omega) (show x3.toInt + (1 : Int) ≤ 2147483647 by omega)
    exact ih _ _ Is21 Fs21 Of15_s21 Of34_s21 Of1_s21 Of30_s21 Of18_s21 (by omega) (by omega) (by omega)
set_option maxHeartbeats 4000000 in
set_option maxRecDepth 100000 in
theorem s_X4_ownerIn {F : Nat} (hF : 73786976294838206464 ≤ F) {x1 : Int32} {x2 : Int32} {τ : Mem} (hI : wiM τ) (x1_1 : 0 ≤ x1.toInt) (x1_2 : x1.toInt ≤ 7) (x2_1 : 0 ≤ x2.toInt) (x2_2 : x2.toInt ≤ 999) : sf (f_X4_ownerIn F x1 x2 τ) (fun r s => wiM s ∧ (∀ k, k < 101 → s k = τ k) ∧ s 101 15 = τ 101 15 ∧ s 101 34 = τ 101 34 ∧ s 101 1 = τ 101 1 ∧ s 101 30 = τ 101 30 ∧ s 101 18 = τ 101 18 ∧ -9 ≤ r.toInt ∧ r.toInt ≤ 4) := by
  have Fτ : ∀ k, k < 101 → τ k = τ k := fun _ _ => rfl
  have Of15_τ : τ 101 15 = τ 101 15 := rfl
  have Of34_τ : τ 101 34 = τ 101 34 := rfl
  have Of1_τ : τ 101 1 = τ 101 1 := rfl
  have Of30_τ : τ 101 30 = τ 101 30 := rfl
  have Of18_τ : τ 101 18 = τ 101 18 := rfl
  rw [f_X4_ownerIn_e]
  have l_0 : (0 : Int32).toInt = 0 := rfl
  exact sl_X4_ownerIn_2 hF (by omega) (by omega) (by omega) (by omega) _ _ _ hI Fτ Of15_τ Of34_τ Of1_τ Of30_τ Of18_τ (by omega) (by decide) (by decide)
set_option maxHeartbeats 4000000 in
set_option maxRecDepth 100000 in
theorem sl_X4_viewsIn_5 {F : Nat} (hF : 73786976294838206464 ≤ F) {x1 : Int32} {x2 : Int32} {τ : Mem} (x1_1 : -9 ≤ x1.toInt) (x1_2 : x1.toInt ≤ 2147483647) (x2_1 : 0 ≤ x2.toInt) (x2_2 : x2.toInt ≤ 999) : ∀ (N : Nat) (x3 : Int32) (x4 : Int32) (σ : Mem), wiM σ → (∀ k, k < 101 → σ k = τ k) → σ 101 15 = τ 101 15 → σ 101 34 = τ 101 34 → σ 101 1 = τ 101 1 → σ 101 30 = τ 101 30 → σ 101 18 = τ 101 18 → 8 < x4.toInt + N → 0 ≤ x4.toInt → x4.toInt ≤ 8 → sf (lp_X4_viewsIn_5 F x1 x2 N x3 x4 σ) (fun r s => wiM s ∧ (∀ k, k < 101 → s k = τ k) ∧ s 101 15 = τ 101 15 ∧ s 101 34 = τ 101 34 ∧ s 101 1 = τ 101 1 ∧ s 101 30 = τ 101 30 ∧ s 101 18 = τ 101 18 ∧ -2147483648 ≤ r.toInt ∧ r.toInt ≤ 2147483647) := by
  intro N
  induction N with
  | zero => intro x3 x4 σ hI Fσ Of15_σ Of34_σ Of1_σ Of30_σ Of18_σ hN x4_1 x4_2; exfalso; omega
  | succ N ih =>
    intro x3 x4 σ hI Fσ Of15_σ Of34_σ Of1_σ Of30_σ Of18_σ hN x4_1 x4_2
    rw [lp_X4_viewsIn_5_s]
    refine sf_ite (fun c1 => ?_) (fun c1 => ?_)
    · have C1 : (8 : Int) ≤ x4.toInt := ti_le c1
      have b2 := ti_lo x3
      have b3 := ti_hi x3
      exact sf_ret ⟨hI, Fσ, Of15_σ, Of34_σ, Of1_σ, Of30_σ, Of18_σ, ti_lo _, ti_hi _⟩
    have C1 : x4.toInt < (8 : Int) := ti_nle c1
    refine sf_bnd (s_X4_ownerIn hF hI (by omega) (by omega) (by omega) (by omega)) (fun r4 u5 p6 => ?_)
    obtain ⟨Iu5, Fu5_, Of15_u5_, Of34_u5_, Of1_u5_, Of30_u5_, Of18_u5_, p6_1, p6_2⟩ := p6
    have Fu5 : ∀ k, k < 101 → u5 k = τ k := fun k hk => (Fu5_ k hk).trans (Fσ k hk)
    have Of15_u5 : u5 101 15 = τ 101 15 := Of15_u5_.trans Of15_σ
    have Of34_u5 : u5 101 34 = τ 101 34 := Of34_u5_.trans Of34_σ
    have Of1_u5 : u5 101 1 = τ 101 1 := Of1_u5_.trans Of1_σ
    have Of30_u5 : u5 101 30 = τ 101 30 := Of30_u5_.trans Of30_σ
    have Of18_u5 : u5 101 18 = τ 101 18 := Of18_u5_.trans Of18_σ
    have b7 := ti_lo x1
    have b8 := ti_hi x1
    refine sf_ite (fun c9 => ?_) (fun c9 => ?_)
    · have C9 : r4.toInt = x1.toInt := ti_eq c9
      rw [j_X4_viewsIn_32_e]
      have b10 := ti_lo (x3 ||| ((1 : Int32) <<< (x4 &&& 31)))
      have b11 := ti_hi (x3 ||| ((1 : Int32) <<< (x4 &&& 31)))
      have t12 : (x4 + (1 : Int32)).toInt = x4.toInt + (1 : Int) := ti_add (show -2147483648 ≤ x4.toInt + (1 : Int) by omega) (show x4.toInt + (1 : Int) ≤ 2147483647 by omega)
      exact ih _ _ _ Iu5 Fu5 Of15_u5 Of34_u5 Of1_u5 Of30_u5 Of18_u5 (by omega) (by omega) (by omega)
    have C9 : ¬ r4.toInt = x1.toInt := ti_ne c9
    rw [j_X4_viewsIn_32_e]
    have b13 := ti_lo (x3 ||| (0 : Int32))
    have b14 := ti_hi (x3 ||| (0 : Int32))
    have t15 : (x4 + (1 : Int32)).toInt = x4.toInt + (1 : Int) := ti_add (show -2147483648 ≤ x4.toInt + (1 : Int) by omega) (show x4.toInt + (1 : Int) ≤ 2147483647 by omega)
    exact ih _ _ _ Iu5 Fu5 Of15_u5 Of34_u5 Of1_u5 Of30_u5 Of18_u5 (by omega) (by omega) (by omega)
set_option maxHeartbeats 4000000 in
set_option maxRecDepth 100000 in
theorem s_X4_viewsIn {F : Nat} (hF : 73786976294838206464 ≤ F) {x1 : Int32} {x2 : Int32} {τ : Mem} (hI : wiM τ) (x1_1 : -9 ≤ x1.toInt) (x1_2 : x1.toInt ≤ 2147483647) (x2_1 : 0 ≤ x2.toInt) (x2_2 : x2.toInt ≤ 999) : sf (f_X4_viewsIn F x1 x2 τ) (fun r s => wiM s ∧ (∀ k, k < 101 → s k = τ k) ∧ s 101 15 = τ 101 15 ∧ s 101 34 = τ 101 34 ∧ s 101 1 = τ 101 1 ∧ s 101 30 = τ 101 30 ∧ s 101 18 = τ 101 18 ∧ -2147483648 ≤ r.toInt ∧ r.toInt ≤ 2147483647) := by
  have Fτ : ∀ k, k < 101 → τ k = τ k := fun _ _ => rfl
  have Of15_τ : τ 101 15 = τ 101 15 := rfl
  have Of34_τ : τ 101 34 = τ 101 34 := rfl
  have Of1_τ : τ 101 1 = τ 101 1 := rfl
  have Of30_τ : τ 101 30 = τ 101 30 := rfl
  have Of18_τ : τ 101 18 = τ 101 18 := rfl
  rw [f_X4_viewsIn_e]
  have b1 := ti_lo x1
  have b2 := ti_hi x1
  have l_0 : (0 : Int32).toInt = 0 := rfl
  exact sl_X4_viewsIn_5 hF (by omega) (by omega) (by omega) (by omega) _ _ _ _ hI Fτ Of15_τ Of34_τ Of1_τ Of30_τ Of18_τ (by omega) (by decide) (by decide)
set_option maxHeartbeats 4000000 in
set_option maxRecDepth 100000 in
theorem sl_X4_worthBy_4 {F : Nat} (hF : 73786976294838206464 ≤ F) {x1 : Int32} {τ : Mem} (hI : wiM τ) : ∀ (N : Nat) (x2 : Int32) (x3 : Int32) , 8 < x3.toInt + N → 0 ≤ x3.toInt → x3.toInt ≤ 8 → sf (lp_X4_worthBy_4 F x1 N x2 x3 τ) (fun r s => s = τ ∧ -2147483648 ≤ r.toInt ∧ r.toInt ≤ 2147483647) := by
  intro N
  induction N with
  | zero => intro x2 x3 hN x3_1 x3_2; exfalso; omega
  | succ N ih =>
    intro x2 x3 hN x3_1 x3_2
    rw [lp_X4_worthBy_4_s]
    refine sf_ite (fun c1 => ?_) (fun c1 => ?_)
    · have C1 : (8 : Int) ≤ x3.toInt := ti_le c1
      have b2 := ti_lo x2
      have b3 := ti_hi x2
      exact sf_ret ⟨rfl, ti_lo _, ti_hi _⟩
    have C1 : x3.toInt < (8 : Int) := ti_nle c1
    have b4 := ti_lo x1
    have b5 := ti_hi x1
    refine sf_bnd (s_X4_hasBit hF hI (by omega) (by omega)) (fun r6 u7 p8 => ?_)
    obtain ⟨e9, p8_1, p8_2⟩ := p8
    have e9 := e9.symm
    subst e9
    have hb_r6 : r6 = 0 ∨ r6 = 1 := wi_bool p8_1 p8_2
    refine sf_ite (fun c9 => ?_) (fun c9 => ?_)
    · have C9 : r6.toInt = (0 : Int) := ti_eq c9
      rw [j_X4_worthBy_29_e]
      have b10 := ti_lo x2
      have b11 := ti_hi x2
      have t12 : (x2 + (0 : Int32)).toInt = x2.toInt + (0 : Int) := ti_add (show -2147483648 ≤ x2.toInt + (0 : Int) by omega) (show x2.toInt + (0 : Int) ≤ 2147483647 by omega)
      have t13 : (x3 + (1 : Int32)).toInt = x3.toInt + (1 : Int) := ti_add (show -2147483648 ≤ x3.toInt + (1 : Int) by omega) (show x3.toInt + (1 : Int) ≤ 2147483647 by omega)
      exact ih _ _ (by omega) (by omega) (by omega)
    have C9 : ¬ r6.toInt = (0 : Int) := ti_ne c9
    refine sf_chk (ti_in (by omega) (by omega)) ?_
    have v14 : Int32.toNatClampNeg x3 = x3.toInt.toNat := rfl
    rw [j_X4_worthBy_29_e]
    have b15 := ti_lo x2
    have b16 := ti_hi x2
    have b17 := ti_lo (τ 102 (Int32.toNatClampNeg x3))
    have b18 := ti_hi (τ 102 (Int32.toNatClampNeg x3))
    have b19 := ti_lo (x2 + (τ 102 (Int32.toNatClampNeg x3)))
    have b20 := ti_hi (x2 + (τ 102 (Int32.toNatClampNeg x3)))
    have t21 : (x3 + (1 : Int32)).toInt = x3.toInt + (1 : Int) := ti_add (show -2147483648 ≤ x3.toInt + (1 : Int) by omega) (show x3.toInt + (1 : Int) ≤ 2147483647 by omega)
    exact ih _ _ (by omega) (by omega) (by omega)
set_option maxHeartbeats 4000000 in
set_option maxRecDepth 100000 in
theorem s_X4_worthBy {F : Nat} (hF : 73786976294838206464 ≤ F) {x1 : Int32} {τ : Mem} (hI : wiM τ) : sf (f_X4_worthBy F x1 τ) (fun r s => s = τ ∧ -2147483648 ≤ r.toInt ∧ r.toInt ≤ 2147483647) := by
  rw [f_X4_worthBy_e]
  have b1 := ti_lo x1
  have b2 := ti_hi x1
  have l_0 : (0 : Int32).toInt = 0 := rfl
  exact sl_X4_worthBy_4 hF hI _ _ _  (by omega) (by decide) (by decide)
set_option maxHeartbeats 4000000 in
set_option maxRecDepth 100000 in
theorem s_X4_worthIn {F : Nat} (hF : 73786976294838206464 ≤ F) {x1 : Int32} {x2 : Int32} {τ : Mem} (hI : wiM τ) (x1_1 : 0 ≤ x1.toInt) (x1_2 : x1.toInt ≤ 2147483647) (x2_1 : 0 ≤ x2.toInt) (x2_2 : x2.toInt ≤ 999) : sf (f_X4_worthIn F x1 x2 τ) (fun r s => wiM s ∧ (∀ k, k < 101 → s k = τ k) ∧ s 101 15 = τ 101 15 ∧ s 101 34 = τ 101 34 ∧ s 101 1 = τ 101 1 ∧ s 101 30 = τ 101 30 ∧ s 101 18 = τ 101 18 ∧ -2147483648 ≤ r.toInt ∧ r.toInt ≤ 2147483647) := by
  have Fτ : ∀ k, k < 101 → τ k = τ k := fun _ _ => rfl
  have Of15_τ : τ 101 15 = τ 101 15 := rfl
  have Of34_τ : τ 101 34 = τ 101 34 := rfl
  have Of1_τ : τ 101 1 = τ 101 1 := rfl
  have Of30_τ : τ 101 30 = τ 101 30 := rfl
  have Of18_τ : τ 101 18 = τ 101 18 := rfl
  rw [f_X4_worthIn_e]
  have b1 := ti_lo x1
  have b2 := ti_hi x1
  refine sf_bnd (s_X4_viewsIn hF hI (by omega) (by omega) (by omega) (by omega)) (fun r3 u4 p5 => ?_)
  obtain ⟨Iu4, Fu4_, Of15_u4_, Of34_u4_, Of1_u4_, Of30_u4_, Of18_u4_, p5_1, p5_2⟩ := p5
  have Fu4 : ∀ k, k < 101 → u4 k = τ k := fun k hk => (Fu4_ k hk).trans (Fτ k hk)
  have Of15_u4 : u4 101 15 = τ 101 15 := Of15_u4_.trans Of15_τ
  have Of34_u4 : u4 101 34 = τ 101 34 := Of34_u4_.trans Of34_τ
  have Of1_u4 : u4 101 1 = τ 101 1 := Of1_u4_.trans Of1_τ
  have Of30_u4 : u4 101 30 = τ 101 30 := Of30_u4_.trans Of30_τ
  have Of18_u4 : u4 101 18 = τ 101 18 := Of18_u4_.trans Of18_τ
  have b6 := ti_lo r3
  have b7 := ti_hi r3
  refine sf_bnd (s_X4_worthBy hF Iu4) (fun r8 u9 p10 => ?_)
  obtain ⟨e9, p10_1, p10_2⟩ := p10
  have e9 := e9.symm
  subst e9
  have b11 := ti_lo r8
  have b12 := ti_hi r8
  exact sf_ret ⟨Iu4, Fu4, Of15_u4, Of34_u4, Of1_u4, Of30_u4, Of18_u4, ti_lo _, ti_hi _⟩
set_option maxHeartbeats 4000000 in
set_option maxRecDepth 100000 in
theorem s_X4_worthAnew {F : Nat} (hF : 73786976294838206464 ≤ F) {x1 : Int32} {x2 : Int32} {τ : Mem} (hI : wiM τ) (x1_1 : 0 ≤ x1.toInt) (x1_2 : x1.toInt ≤ 4) (x2_1 : 0 ≤ x2.toInt) (x2_2 : x2.toInt ≤ 999) : sf (f_X4_worthAnew F x1 x2 τ) (fun r s => wiM s ∧ (∀ k, k < 101 → s k = τ k) ∧ s 101 15 = τ 101 15 ∧ s 101 34 = τ 101 34 ∧ s 101 1 = τ 101 1 ∧ s 101 30 = τ 101 30 ∧ s 101 18 = τ 101 18 ∧ -2147483648 ≤ r.toInt ∧ r.toInt ≤ 2147483647) := by
  have Fτ : ∀ k, k < 101 → τ k = τ k := fun _ _ => rfl
  have Of15_τ : τ 101 15 = τ 101 15 := rfl
  have Of34_τ : τ 101 34 = τ 101 34 := rfl
  have Of1_τ : τ 101 1 = τ 101 1 := rfl
  have Of30_τ : τ 101 30 = τ 101 30 := rfl
  have Of18_τ : τ 101 18 = τ 101 18 := rfl
  rw [f_X4_worthAnew_e]
  refine sf_bnd (s_X4_layBrings hF hI) (fun r1 u2 p3 => ?_)
  obtain ⟨Iu2, Fu2_, Of15_u2_, Of34_u2_, Of1_u2_, Of30_u2_, Of18_u2_, -⟩ := p3
  have Fu2 : ∀ k, k < 101 → u2 k = τ k := fun k hk => (Fu2_ k hk).trans (Fτ k hk)
  have Of15_u2 : u2 101 15 = τ 101 15 := Of15_u2_.trans Of15_τ
  have Of34_u2 : u2 101 34 = τ 101 34 := Of34_u2_.trans Of34_τ
  have Of1_u2 : u2 101 1 = τ 101 1 := Of1_u2_.trans Of1_τ
  have Of30_u2 : u2 101 30 = τ 101 30 := Of30_u2_.trans Of30_τ
  have Of18_u2 : u2 101 18 = τ 101 18 := Of18_u2_.trans Of18_τ
  refine sf_bnd (s_X4_worthIn hF Iu2 (by omega) (by omega) (by omega) (by omega)) (fun r4 u5 p6 => ?_)
  obtain ⟨Iu5, Fu5_, Of15_u5_, Of34_u5_, Of1_u5_, Of30_u5_, Of18_u5_, p6_1, p6_2⟩ := p6
  have Fu5 : ∀ k, k < 101 → u5 k = τ k := fun k hk => (Fu5_ k hk).trans (Fu2 k hk)
  have Of15_u5 : u5 101 15 = τ 101 15 := Of15_u5_.trans Of15_u2
  have Of34_u5 : u5 101 34 = τ 101 34 := Of34_u5_.trans Of34_u2
  have Of1_u5 : u5 101 1 = τ 101 1 := Of1_u5_.trans Of1_u2
  have Of30_u5 : u5 101 30 = τ 101 30 := Of30_u5_.trans Of30_u2
  have Of18_u5 : u5 101 18 = τ 101 18 := Of18_u5_.trans Of18_u2
  have b7 := ti_lo r4
  have b8 := ti_hi r4
  exact sf_ret ⟨Iu5, Fu5, Of15_u5, Of34_u5, Of1_u5, Of30_u5, Of18_u5, ti_lo _, ti_hi _⟩
set_option maxHeartbeats 4000000 in
set_option maxRecDepth 100000 in
theorem sl_X4_hoursOf_4 {F : Nat} (hF : 73786976294838206464 ≤ F) {x1 : Int32} {τ : Mem} (hI : wiM τ) (x1_1 : 0 ≤ x1.toInt) (x1_2 : x1.toInt ≤ 4) : ∀ (N : Nat) (x2 : Int32) (x3 : Int32) , 24 < x3.toInt + N → 0 ≤ x3.toInt → x3.toInt ≤ 24 → sf (lp_X4_hoursOf_4 F x1 N x2 x3 τ) (fun r s => s = τ ∧ -2147483648 ≤ r.toInt ∧ r.toInt ≤ 2147483647) := by
  intro N
  induction N with
  | zero => intro x2 x3 hN x3_1 x3_2; exfalso; omega
  | succ N ih =>
    intro x2 x3 hN x3_1 x3_2
    rw [lp_X4_hoursOf_4_s]
    refine sf_ite (fun c1 => ?_) (fun c1 => ?_)
    · have C1 : (24 : Int) ≤ x3.toInt := ti_le c1
      have b2 := ti_lo x2
      have b3 := ti_hi x2
      exact sf_ret ⟨rfl, ti_lo _, ti_hi _⟩
    have C1 : x3.toInt < (24 : Int) := ti_nle c1
    have t4 : ((24 : Int32) * x1).toInt = (24 : Int) * x1.toInt := ti_mul (show -2147483648 ≤ (24 : Int) * x1.toInt by omega) (show (24 : Int) * x1.toInt ≤ 2147483647 by omega)
    have t5 : (((24 : Int32) * x1) + x3).toInt = ((24 : Int32) * x1).toInt + x3.toInt := ti_add (show -2147483648 ≤ ((24 : Int32) * x1).toInt + x3.toInt by omega) (show ((24 : Int32) * x1).toInt + x3.toInt ≤ 2147483647 by omega)
    refine sf_chk (ti_in (by omega) (by omega)) ?_
    have v6 : Int32.toNatClampNeg (((24 : Int32) * x1) + x3) = (((24 : Int32) * x1) + x3).toInt.toNat := rfl
    have m7 := wx_106 hI (Int32.toNatClampNeg (((24 : Int32) * x1) + x3))
    refine sf_ite (fun c8 => ?_) (fun c8 => ?_)
    · have C8 : (τ 106 (Int32.toNatClampNeg (((24 : Int32) * x1) + x3))).toInt < (0 : Int) := ti_lt c8
      rw [j_X4_hoursOf_30_e]
      have b9 := ti_lo x2
      have b10 := ti_hi x2
      have t11 : (x2 + (0 : Int32)).toInt = x2.toInt + (0 : Int) := ti_add (show -2147483648 ≤ x2.toInt + (0 : Int) by omega) (show x2.toInt + (0 : Int) ≤ 2147483647 by omega)
      have t12 : (x3 + (1 : Int32)).toInt = x3.toInt + (1 : Int) := ti_add (show -2147483648 ≤ x3.toInt + (1 : Int) by omega) (show x3.toInt + (1 : Int) ≤ 2147483647 by omega)
      exact ih _ _ (by omega) (by omega) (by omega)
    have C8 : (0 : Int) ≤ (τ 106 (Int32.toNatClampNeg (((24 : Int32) * x1) + x3))).toInt := ti_nlt c8
    rw [j_X4_hoursOf_30_e]
    have b13 := ti_lo x2
    have b14 := ti_hi x2
    have b15 := ti_lo (x2 + (1 : Int32))
    have b16 := ti_hi (x2 + (1 : Int32))
    have t17 : (x3 + (1 : Int32)).toInt = x3.toInt + (1 : Int) := ti_add (show -2147483648 ≤ x3.toInt + (1 : Int) by omega) (show x3.toInt + (1 : Int) ≤ 2147483647 by omega)
    exact ih _ _ (by omega) (by omega) (by omega)
set_option maxHeartbeats 4000000 in
set_option maxRecDepth 100000 in
theorem s_X4_hoursOf {F : Nat} (hF : 73786976294838206464 ≤ F) {x1 : Int32} {τ : Mem} (hI : wiM τ) (x1_1 : 0 ≤ x1.toInt) (x1_2 : x1.toInt ≤ 4) : sf (f_X4_hoursOf F x1 τ) (fun r s => s = τ ∧ -2147483648 ≤ r.toInt ∧ r.toInt ≤ 2147483647) := by
  rw [f_X4_hoursOf_e]
  have l_0 : (0 : Int32).toInt = 0 := rfl
  exact sl_X4_hoursOf_4 hF hI (by omega) (by omega) _ _ _  (by omega) (by decide) (by decide)
set_option maxHeartbeats 4000000 in
set_option maxRecDepth 100000 in
theorem sl_X4_goDays_6 {F : Nat} (hF : 73786976294838206464 ≤ F) {x1 : Int32} {τ : Mem} (x1_1 : 1 ≤ x1.toInt) (x1_2 : x1.toInt ≤ 99) : ∀ (N : Nat) (x2 : Int32) (σ : Mem), wiM σ → (∀ k, k < 101 → σ k = τ k) → σ 101 15 = τ 101 15 → σ 101 34 = τ 101 34 → σ 101 1 = τ 101 1 → σ 101 30 = τ 101 30 → σ 101 18 = τ 101 18 → 40 < x2.toInt + N → 0 ≤ x2.toInt → x2.toInt ≤ 40 → sf (lp_X4_goDays_6 F x1 N x2 σ) (fun _ s => wiM s ∧ (∀ k, k < 101 → s k = τ k) ∧ s 101 15 = τ 101 15 ∧ s 101 34 = τ 101 34 ∧ s 101 1 = τ 101 1 ∧ s 101 30 = τ 101 30 ∧ s 101 18 = τ 101 18 ∧ True) := by
  intro N
  induction N with
  | zero => intro x2 σ hI Fσ Of15_σ Of34_σ Of1_σ Of30_σ Of18_σ hN x2_1 x2_2; exfalso; omega
  | succ N ih =>
    intro x2 σ hI Fσ Of15_σ Of34_σ Of1_σ Of30_σ Of18_σ hN x2_1 x2_2
    rw [lp_X4_goDays_6_s]
    have m1 := wx_X4_3 hI
    have t2 : ((8 : Int32) * (σ 101 3)).toInt = (8 : Int) * (σ 101 3).toInt := ti_mul (show -2147483648 ≤ (8 : Int) * (σ 101 3).toInt by omega) (show (8 : Int) * (σ 101 3).toInt ≤ 2147483647 by omega)
    refine sf_ite (fun c3 => ?_) (fun c3 => ?_)
    · have C3 : ((8 : Int32) * (σ 101 3)).toInt ≤ x2.toInt := ti_le c3
      refine sf_lt (fun s4 hs4 => ?_)
      have Is4 : wiM s4 := by rw [hs4]; exact wm_fld hI (by decide) (by decide) (by decide) (by decide) (by decide) (by decide) (by decide)
      have Fs4 : ∀ k, k < 101 → s4 k = τ k := fun k hk => (show s4 k = σ k by rw [hs4, up2_k (by omega)]).trans (Fσ k hk)
      have Of15_s4 : s4 101 15 = τ 101 15 := (show s4 101 15 = σ 101 15 by rw [hs4, up2_i (by decide)]).trans Of15_σ
      have Of34_s4 : s4 101 34 = τ 101 34 := (show s4 101 34 = σ 101 34 by rw [hs4, up2_i (by decide)]).trans Of34_σ
      have Of1_s4 : s4 101 1 = τ 101 1 := (show s4 101 1 = σ 101 1 by rw [hs4, up2_i (by decide)]).trans Of1_σ
      have Of30_s4 : s4 101 30 = τ 101 30 := (show s4 101 30 = σ 101 30 by rw [hs4, up2_i (by decide)]).trans Of30_σ
      have Of18_s4 : s4 101 18 = τ 101 18 := (show s4 101 18 = σ 101 18 by rw [hs4, up2_i (by decide)]).trans Of18_σ
      exact sf_ret ⟨Is4, Fs4, Of15_s4, Of34_s4, Of1_s4, Of30_s4, Of18_s4, trivial⟩
    have C3 : x2.toInt < ((8 : Int32) * (σ 101 3)).toInt := ti_nle c3
    refine sf_chk (ti_in (by omega) (by omega)) ?_
    have v5 : Int32.toNatClampNeg x2 = x2.toInt.toNat := rfl
    have b6 := ti_lo (σ 107 (Int32.toNatClampNeg x2))
    have b7 := ti_hi (σ 107 (Int32.toNatClampNeg x2))
    have b8 := ti_lo (σ 109 (Int32.toNatClampNeg x2))
    have b9 := ti_hi (σ 109 (Int32.toNatClampNeg x2))
    have b10 := ti_lo (x1 * (σ 109 (Int32.toNatClampNeg x2)))
    have b11 := ti_hi (x1 * (σ 109 (Int32.toNatClampNeg x2)))
    have b12 := ti_lo ((σ 107 (Int32.toNatClampNeg x2)) + (x1 * (σ 109 (Int32.toNatClampNeg x2))))
    have b13 := ti_hi ((σ 107 (Int32.toNatClampNeg x2)) + (x1 * (σ 109 (Int32.toNatClampNeg x2))))
    refine sf_bnd (s_X4_held hF hI) (fun r14 u15 p16 => ?_)
    obtain ⟨e9, p16_1, p16_2⟩ := p16
    have e9 := e9.symm
    subst e9
    refine sf_lt (fun s17 hs17 => ?_)
    have Is17 : wiM s17 := by rw [hs17]; exact wm_oth hI (by decide) (by decide) (by decide) (by decide)
    have Fs17 : ∀ k, k < 101 → s17 k = τ k := fun k hk => (show s17 k = σ k by rw [hs17, up2_k (by omega)]).trans (Fσ k hk)
    have Of15_s17 : s17 101 15 = τ 101 15 := (show s17 101 15 = σ 101 15 by rw [hs17, up2_k (by omega)]).trans Of15_σ
    have Of34_s17 : s17 101 34 = τ 101 34 := (show s17 101 34 = σ 101 34 by rw [hs17, up2_k (by omega)]).trans Of34_σ
    have Of1_s17 : s17 101 1 = τ 101 1 := (show s17 101 1 = σ 101 1 by rw [hs17, up2_k (by omega)]).trans Of1_σ
    have Of30_s17 : s17 101 30 = τ 101 30 := (show s17 101 30 = σ 101 30 by rw [hs17, up2_k (by omega)]).trans Of30_σ
    have Of18_s17 : s17 101 18 = τ 101 18 := (show s17 101 18 = σ 101 18 by rw [hs17, up2_k (by omega)]).trans Of18_σ
    have t18 : (x2 + (1 : Int32)).toInt = x2.toInt + (1 : Int) := ti_add (show -2147483648 ≤ x2.toInt + (1 : Int) by omega) (show x2.toInt + (1 : Int) ≤ 2147483647 by omega)
    exact ih _ _ Is17 Fs17 Of15_s17 Of34_s17 Of1_s17 Of30_s17 Of18_s17 (by omega) (by omega) (by omega)
set_option maxHeartbeats 4000000 in
set_option maxRecDepth 100000 in
theorem s_X4_goDays {F : Nat} (hF : 73786976294838206464 ≤ F) {x1 : Int32} {τ : Mem} (hI : wiM τ) (x1_1 : 1 ≤ x1.toInt) (x1_2 : x1.toInt ≤ 99) : sf (f_X4_goDays F x1 τ) (fun _ s => wiM s ∧ (∀ k, k < 101 → s k = τ k) ∧ s 101 15 = τ 101 15 ∧ s 101 34 = τ 101 34 ∧ s 101 1 = τ 101 1 ∧ s 101 30 = τ 101 30 ∧ s 101 18 = τ 101 18 ∧ True) := by
  have Fτ : ∀ k, k < 101 → τ k = τ k := fun _ _ => rfl
  have Of15_τ : τ 101 15 = τ 101 15 := rfl
  have Of34_τ : τ 101 34 = τ 101 34 := rfl
  have Of1_τ : τ 101 1 = τ 101 1 := rfl
  have Of30_τ : τ 101 30 = τ 101 30 := rfl
  have Of18_τ : τ 101 18 = τ 101 18 := rfl
  rw [f_X4_goDays_e]
  refine sf_bnd (s_X4_layBrings hF hI) (fun r1 u2 p3 => ?_)
  obtain ⟨Iu2, Fu2_, Of15_u2_, Of34_u2_, Of1_u2_, Of30_u2_, Of18_u2_, -⟩ := p3
  have Fu2 : ∀ k, k < 101 → u2 k = τ k := fun k hk => (Fu2_ k hk).trans (Fτ k hk)
  have Of15_u2 : u2 101 15 = τ 101 15 := Of15_u2_.trans Of15_τ
  have Of34_u2 : u2 101 34 = τ 101 34 := Of34_u2_.trans Of34_τ
  have Of1_u2 : u2 101 1 = τ 101 1 := Of1_u2_.trans Of1_τ
  have Of30_u2 : u2 101 30 = τ 101 30 := Of30_u2_.trans Of30_τ
  have Of18_u2 : u2 101 18 = τ 101 18 := Of18_u2_.trans Of18_τ
  have l_0 : (0 : Int32).toInt = 0 := rfl
  exact sl_X4_goDays_6 hF (by omega) (by omega) _ _ _ Iu2 Fu2 Of15_u2 Of34_u2 Of1_u2 Of30_u2 Of18_u2 (by omega) (by decide) (by decide)
set_option maxHeartbeats 4000000 in
set_option maxRecDepth 100000 in
theorem sl_X4_owned_8 {F : Nat} (hF : 73786976294838206464 ≤ F) {τ : Mem} : ∀ (N : Nat) (x1 : Int32) (x2 : Int32) (σ : Mem), wiM σ → (∀ k, k < 101 → σ k = τ k) → σ 101 15 = τ 101 15 → σ 101 34 = τ 101 34 → σ 101 1 = τ 101 1 → σ 101 30 = τ 101 30 → σ 101 18 = τ 101 18 → 8 < x2.toInt + N → 0 ≤ x2.toInt → x2.toInt ≤ 8 → sf (lp_X4_owned_8 F N x1 x2 σ) (fun r s => wiM s ∧ (∀ k, k < 101 → s k = τ k) ∧ s 101 15 = τ 101 15 ∧ s 101 34 = τ 101 34 ∧ s 101 1 = τ 101 1 ∧ s 101 30 = τ 101 30 ∧ s 101 18 = τ 101 18 ∧ -2147483648 ≤ r.toInt ∧ r.toInt ≤ 2147483647) := by
  intro N
  induction N with
  | zero => intro x1 x2 σ hI Fσ Of15_σ Of34_σ Of1_σ Of30_σ Of18_σ hN x2_1 x2_2; exfalso; omega
  | succ N ih =>
    intro x1 x2 σ hI Fσ Of15_σ Of34_σ Of1_σ Of30_σ Of18_σ hN x2_1 x2_2
    rw [lp_X4_owned_8_s]
    refine sf_ite (fun c1 => ?_) (fun c1 => ?_)
    · have C1 : (8 : Int) ≤ x2.toInt := ti_le c1
      have b2 := ti_lo x1
      have b3 := ti_hi x1
      exact sf_ret ⟨hI, Fσ, Of15_σ, Of34_σ, Of1_σ, Of30_σ, Of18_σ, ti_lo _, ti_hi _⟩
    have C1 : x2.toInt < (8 : Int) := ti_nle c1
    refine sf_bnd (s_X4_ownerIn hF hI (by omega) (by omega) (by decide) (by decide)) (fun r4 u5 p6 => ?_)
    obtain ⟨Iu5, Fu5_, Of15_u5_, Of34_u5_, Of1_u5_, Of30_u5_, Of18_u5_, p6_1, p6_2⟩ := p6
    have Fu5 : ∀ k, k < 101 → u5 k = τ k := fun k hk => (Fu5_ k hk).trans (Fσ k hk)
    have Of15_u5 : u5 101 15 = τ 101 15 := Of15_u5_.trans Of15_σ
    have Of34_u5 : u5 101 34 = τ 101 34 := Of34_u5_.trans Of34_σ
    have Of1_u5 : u5 101 1 = τ 101 1 := Of1_u5_.trans Of1_σ
    have Of30_u5 : u5 101 30 = τ 101 30 := Of30_u5_.trans Of30_σ
    have Of18_u5 : u5 101 18 = τ 101 18 := Of18_u5_.trans Of18_σ
    refine sf_ite (fun c7 => ?_) (fun c7 => ?_)
    · have C7 : (0 : Int) ≤ r4.toInt := ti_le c7
      rw [j_X4_owned_29_e]
      have b8 := ti_lo x1
      have b9 := ti_hi x1
      have b10 := ti_lo (x1 + (1 : Int32))
      have b11 := ti_hi (x1 + (1 : Int32))
      have t12 : (x2 + (1 : Int32)).toInt = x2.toInt + (1 : Int) := ti_add (show -2147483648 ≤ x2.toInt + (1 : Int) by omega) (show x2.toInt + (1 : Int) ≤ 2147483647 by omega)
      exact ih _ _ _ Iu5 Fu5 Of15_u5 Of34_u5 Of1_u5 Of30_u5 Of18_u5 (by omega) (by omega) (by omega)
    have C7 : r4.toInt < (0 : Int) := ti_nle c7
    rw [j_X4_owned_29_e]
    have b13 := ti_lo x1
    have b14 := ti_hi x1
    have t15 : (x1 + (0 : Int32)).toInt = x1.toInt + (0 : Int) := ti_add (show -2147483648 ≤ x1.toInt + (0 : Int) by omega) (show x1.toInt + (0 : Int) ≤ 2147483647 by omega)
    have t16 : (x2 + (1 : Int32)).toInt = x2.toInt + (1 : Int) := ti_add (show -2147483648 ≤ x2.toInt + (1 : Int) by omega) (show x2.toInt + (1 : Int) ≤ 2147483647 by omega)
    exact ih _ _ _ Iu5 Fu5 Of15_u5 Of34_u5 Of1_u5 Of30_u5 Of18_u5 (by omega) (by omega) (by omega)
set_option maxHeartbeats 4000000 in
set_option maxRecDepth 100000 in
theorem s_X4_owned {F : Nat} (hF : 73786976294838206464 ≤ F) {τ : Mem} (hI : wiM τ) : sf (f_X4_owned F τ) (fun r s => wiM s ∧ (∀ k, k < 101 → s k = τ k) ∧ s 101 15 = τ 101 15 ∧ s 101 34 = τ 101 34 ∧ s 101 1 = τ 101 1 ∧ s 101 30 = τ 101 30 ∧ s 101 18 = τ 101 18 ∧ -2147483648 ≤ r.toInt ∧ r.toInt ≤ 2147483647) := by
  have Fτ : ∀ k, k < 101 → τ k = τ k := fun _ _ => rfl
  have Of15_τ : τ 101 15 = τ 101 15 := rfl
  have Of34_τ : τ 101 34 = τ 101 34 := rfl
  have Of1_τ : τ 101 1 = τ 101 1 := rfl
  have Of30_τ : τ 101 30 = τ 101 30 := rfl
  have Of18_τ : τ 101 18 = τ 101 18 := rfl
  rw [f_X4_owned_e]
  refine sf_bnd (s_X4_layBrings hF hI) (fun r1 u2 p3 => ?_)
  obtain ⟨Iu2, Fu2_, Of15_u2_, Of34_u2_, Of1_u2_, Of30_u2_, Of18_u2_, -⟩ := p3
  have Fu2 : ∀ k, k < 101 → u2 k = τ k := fun k hk => (Fu2_ k hk).trans (Fτ k hk)
  have Of15_u2 : u2 101 15 = τ 101 15 := Of15_u2_.trans Of15_τ
  have Of34_u2 : u2 101 34 = τ 101 34 := Of34_u2_.trans Of34_τ
  have Of1_u2 : u2 101 1 = τ 101 1 := Of1_u2_.trans Of1_τ
  have Of30_u2 : u2 101 30 = τ 101 30 := Of30_u2_.trans Of30_τ
  have Of18_u2 : u2 101 18 = τ 101 18 := Of18_u2_.trans Of18_τ
  have l_0 : (0 : Int32).toInt = 0 := rfl
  exact sl_X4_owned_8 hF _ _ _ _ Iu2 Fu2 Of15_u2 Of34_u2 Of1_u2 Of30_u2 Of18_u2 (by omega) (by decide) (by decide)
set_option maxHeartbeats 4000000 in
set_option maxRecDepth 100000 in
theorem s_X4_feed {F : Nat} (hF : 73786976294838206464 ≤ F) {x1 : Int32} {τ : Mem} (hI : wiM τ) : sf (f_X4_feed F x1 τ) (fun r s => wiM s ∧ (∀ k, k < 101 → s k = τ k) ∧ s 101 34 = τ 101 34 ∧ s 101 1 = τ 101 1 ∧ s 101 30 = τ 101 30 ∧ s 101 18 = τ 101 18 ∧ -2147483648 ≤ r.toInt ∧ r.toInt ≤ 2147483647 ∧ ((0 ≤ x1.toInt ∧ x1.toInt ≤ 255 ∧ (τ 101 15).toInt ≤ 95 ∧ (s 101 15).toInt = (τ 101 15).toInt + 1 ∧ r.toInt = (s 101 15).toInt) ∨ (x1.toInt < 0 ∧ (s 101 15).toInt = (τ 101 15).toInt ∧ r.toInt = -4) ∨ (0 ≤ x1.toInt ∧ (255 < x1.toInt ∨ 96 ≤ (τ 101 15).toInt) ∧ (s 101 15).toInt = (τ 101 15).toInt ∧ r.toInt = -6))) := by
  have Fτ : ∀ k, k < 101 → τ k = τ k := fun _ _ => rfl
  have Of15_τ : τ 101 15 = τ 101 15 := rfl
  have Of34_τ : τ 101 34 = τ 101 34 := rfl
  have Of1_τ : τ 101 1 = τ 101 1 := rfl
  have Of30_τ : τ 101 30 = τ 101 30 := rfl
  have Of18_τ : τ 101 18 = τ 101 18 := rfl
  rw [f_X4_feed_e]
  refine sf_lt (fun s1 hs1 => ?_)
  have Is1 : wiM s1 := by rw [hs1]; exact wm_fld hI (by decide) (by decide) (by decide) (by decide) (by decide) (by decide) (by decide)
  have Fs1 : ∀ k, k < 101 → s1 k = τ k := fun k hk => (show s1 k = τ k by rw [hs1, up2_k (by omega)]).trans (Fτ k hk)
  have Of15_s1 : s1 101 15 = τ 101 15 := (show s1 101 15 = τ 101 15 by rw [hs1, up2_i (by decide)]).trans Of15_τ
  have Of34_s1 : s1 101 34 = τ 101 34 := (show s1 101 34 = τ 101 34 by rw [hs1, up2_i (by decide)]).trans Of34_τ
  have Of1_s1 : s1 101 1 = τ 101 1 := (show s1 101 1 = τ 101 1 by rw [hs1, up2_i (by decide)]).trans Of1_τ
  have Of30_s1 : s1 101 30 = τ 101 30 := (show s1 101 30 = τ 101 30 by rw [hs1, up2_i (by decide)]).trans Of30_τ
  have Of18_s1 : s1 101 18 = τ 101 18 := (show s1 101 18 = τ 101 18 by rw [hs1, up2_i (by decide)]).trans Of18_τ
  have b2 := ti_lo x1
  have b3 := ti_hi x1
  refine sf_ite (fun c4 => ?_) (fun c4 => ?_)
  · have C4 : (0 : Int) ≤ x1.toInt := ti_le c4
    refine sf_ite (fun c5 => ?_) (fun c5 => ?_)
    · have C5 : (255 : Int) < x1.toInt := ti_lt c5
      rw [j_X4_feed_32_e]
      refine sf_bnd (s_X4_refuse hF Is1 (by decide) (by decide)) (fun r6 u7 p8 => ?_)
      obtain ⟨Iu7, Fu7_, Of15_u7_, Of34_u7_, Of1_u7_, Of30_u7_, Of18_u7_, p8_1, p8_2, p8_x0⟩ := p8
      have Fu7 : ∀ k, k < 101 → u7 k = τ k := fun k hk => (Fu7_ k hk).trans (Fs1 k hk)
      have Of15_u7 : u7 101 15 = τ 101 15 := Of15_u7_.trans Of15_s1
      have Of34_u7 : u7 101 34 = τ 101 34 := Of34_u7_.trans Of34_s1
      have Of1_u7 : u7 101 1 = τ 101 1 := Of1_u7_.trans Of1_s1
      have Of30_u7 : u7 101 30 = τ 101 30 := Of30_u7_.trans Of30_s1
      have Of18_u7 : u7 101 18 = τ 101 18 := Of18_u7_.trans Of18_s1
      replace p8_x0 : r6.toInt = (-6 : Int) := p8_x0
      have m9 := wx_X4_15 Iu7
      have m10 := wx_X4_15 Is1
      have m11 := wx_X4_15 hI
      have e12 : (s1 101 15).toInt = (τ 101 15).toInt := congrArg Int32.toInt (by rw [hs1, up2_i (by decide)])
      have e13 : (u7 101 15).toInt = (s1 101 15).toInt := congrArg Int32.toInt Of15_u7_
      exact sf_ret ⟨Iu7, Fu7, Of34_u7, Of1_u7, Of30_u7, Of18_u7, ti_lo _, ti_hi _, (show (0 ≤ x1.toInt ∧ x1.toInt ≤ 255 ∧ (τ 101 15).toInt ≤ 95 ∧ (u7 101 15).toInt = (τ 101 15).toInt + 1 ∧ r6.toInt = (u7 101 15).toInt) ∨ (x1.toInt < 0 ∧ (u7 101 15).toInt = (τ 101 15).toInt ∧ r6.toInt = -4) ∨ (0 ≤ x1.toInt ∧ (255 < x1.toInt ∨ 96 ≤ (τ 101 15).toInt) ∧ (u7 101 15).toInt = (τ 101 15).toInt ∧ r6.toInt = -6) from by omega)⟩
    have C5 : x1.toInt ≤ (255 : Int) := ti_nlt c5
    have m14 := wx_X4_15 Is1
    have m15 := wx_X4_15 hI
    have e16 : (s1 101 15).toInt = (τ 101 15).toInt := congrArg Int32.toInt (by rw [hs1, up2_i (by decide)])
    refine sf_ite (fun c17 => ?_) (fun c17 => ?_)
    · have C17 : (s1 101 15).toInt = (96 : Int) := ti_eq c17
      rw [j_X4_feed_32_e]
      refine sf_bnd (s_X4_refuse hF Is1 (by decide) (by decide)) (fun r18 u19 p20 => ?_)
      obtain ⟨Iu19, Fu19_, Of15_u19_, Of34_u19_, Of1_u19_, Of30_u19_, Of18_u19_, p20_1, p20_2, p20_x0⟩ := p20
      have Fu19 : ∀ k, k < 101 → u19 k = τ k := fun k hk => (Fu19_ k hk).trans (Fs1 k hk)
      have Of15_u19 : u19 101 15 = τ 101 15 := Of15_u19_.trans Of15_s1
      have Of34_u19 : u19 101 34 = τ 101 34 := Of34_u19_.trans Of34_s1
      have Of1_u19 : u19 101 1 = τ 101 1 := Of1_u19_.trans Of1_s1
      have Of30_u19 : u19 101 30 = τ 101 30 := Of30_u19_.trans Of30_s1
      have Of18_u19 : u19 101 18 = τ 101 18 := Of18_u19_.trans Of18_s1
      replace p20_x0 : r18.toInt = (-6 : Int) := p20_x0
      have m21 := wx_X4_15 Iu19
      have e22 : (u19 101 15).toInt = (s1 101 15).toInt := congrArg Int32.toInt Of15_u19_
      exact sf_ret ⟨Iu19, Fu19, Of34_u19, Of1_u19, Of30_u19, Of18_u19, ti_lo _, ti_hi _, (show (0 ≤ x1.toInt ∧ x1.toInt ≤ 255 ∧ (τ 101 15).toInt ≤ 95 ∧ (u19 101 15).toInt = (τ 101 15).toInt + 1 ∧ r18.toInt = (u19 101 15).toInt) ∨ (x1.toInt < 0 ∧ (u19 101 15).toInt = (τ 101 15).toInt ∧ r18.toInt = -4) ∨ (0 ≤ x1.toInt ∧ (255 < x1.toInt ∨ 96 ≤ (τ 101 15).toInt) ∧ (u19 101 15).toInt = (τ 101 15).toInt ∧ r18.toInt = -6) from by omega)⟩
    have C17 : ¬ (s1 101 15).toInt = (96 : Int) := ti_ne c17
    refine sf_chk (ti_in (by omega) (by omega)) ?_
    have v23 : Int32.toNatClampNeg (s1 101 15) = (s1 101 15).toInt.toNat := rfl
    refine sf_lt (fun s24 hs24 => ?_)
    have Is24 : wiM s24 := by rw [hs24]; exact wm_oth Is1 (by decide) (by decide) (by decide) (by decide)
    have Fs24 : ∀ k, k < 101 → s24 k = τ k := fun k hk => (show s24 k = s1 k by rw [hs24, up2_k (by omega)]).trans (Fs1 k hk)
    have Of15_s24 : s24 101 15 = τ 101 15 := (show s24 101 15 = s1 101 15 by rw [hs24, up2_k (by omega)]).trans Of15_s1
    have Of34_s24 : s24 101 34 = τ 101 34 := (show s24 101 34 = s1 101 34 by rw [hs24, up2_k (by omega)]).trans Of34_s1
    have Of1_s24 : s24 101 1 = τ 101 1 := (show s24 101 1 = s1 101 1 by rw [hs24, up2_k (by omega)]).trans Of1_s1
    have Of30_s24 : s24 101 30 = τ 101 30 := (show s24 101 30 = s1 101 30 by rw [hs24, up2_k (by omega)]).trans Of30_s1
    have Of18_s24 : s24 101 18 = τ 101 18 := (show s24 101 18 = s1 101 18 by rw [hs24, up2_k (by omega)]).trans Of18_s1
    refine sf_lt (fun s25 hs25 => ?_)
    have m26 := wx_X4_15 Is24
    have e27 : (s24 101 15).toInt = (s1 101 15).toInt := congrArg Int32.toInt (by rw [hs24, up2_k (by omega)])
    have t28 : ((s24 101 15) + (1 : Int32)).toInt = (s24 101 15).toInt + (1 : Int) := ti_add (show -2147483648 ≤ (s24 101 15).toInt + (1 : Int) by omega) (show (s24 101 15).toInt + (1 : Int) ≤ 2147483647 by omega)
    have Is25 : wiM s25 := by rw [hs25]; exact wx_put_X4_15 Is24 (by omega) (by omega)
    have Fs25 : ∀ k, k < 101 → s25 k = τ k := fun k hk => (show s25 k = s24 k by rw [hs25, up2_k (by omega)]).trans (Fs24 k hk)
    have Of34_s25 : s25 101 34 = τ 101 34 := (show s25 101 34 = s24 101 34 by rw [hs25, up2_i (by decide)]).trans Of34_s24
    have Of1_s25 : s25 101 1 = τ 101 1 := (show s25 101 1 = s24 101 1 by rw [hs25, up2_i (by decide)]).trans Of1_s24
    have Of30_s25 : s25 101 30 = τ 101 30 := (show s25 101 30 = s24 101 30 by rw [hs25, up2_i (by decide)]).trans Of30_s24
    have Of18_s25 : s25 101 18 = τ 101 18 := (show s25 101 18 = s24 101 18 by rw [hs25, up2_i (by decide)]).trans Of18_s24
    have m29 := wx_X4_15 Is25
    have e30 : (s25 101 15).toInt = ((s24 101 15) + (1 : Int32)).toInt := (show (s25 101 15).toInt = ((s24 101 15) + (1 : Int32)).toInt from congrArg Int32.toInt (by rw [hs25, up2_s]))
    exact sf_ret ⟨Is25, Fs25, Of34_s25, Of1_s25, Of30_s25, Of18_s25, ti_lo _, ti_hi _, (show (0 ≤ x1.toInt ∧ x1.toInt ≤ 255 ∧ (τ 101 15).toInt ≤ 95 ∧ (s25 101 15).toInt = (τ 101 15).toInt + 1 ∧ (s25 101 15).toInt = (s25 101 15).toInt) ∨ (x1.toInt < 0 ∧ (s25 101 15).toInt = (τ 101 15).toInt ∧ (s25 101 15).toInt = -4) ∨ (0 ≤ x1.toInt ∧ (255 < x1.toInt ∨ 96 ≤ (τ 101 15).toInt) ∧ (s25 101 15).toInt = (τ 101 15).toInt ∧ (s25 101 15).toInt = -6) from by omega)⟩
  have C4 : x1.toInt < (0 : Int) := ti_nle c4
  refine sf_bnd (s_X4_refuse hF Is1 (by decide) (by decide)) (fun r31 u32 p33 => ?_)
  obtain ⟨Iu32, Fu32_, Of15_u32_, Of34_u32_, Of1_u32_, Of30_u32_, Of18_u32_, p33_1, p33_2, p33_x0⟩ := p33
  have Fu32 : ∀ k, k < 101 → u32 k = τ k := fun k hk => (Fu32_ k hk).trans (Fs1 k hk)
  have Of15_u32 : u32 101 15 = τ 101 15 := Of15_u32_.trans Of15_s1
  have Of34_u32 : u32 101 34 = τ 101 34 := Of34_u32_.trans Of34_s1
  have Of1_u32 : u32 101 1 = τ 101 1 := Of1_u32_.trans Of1_s1
  have Of30_u32 : u32 101 30 = τ 101 30 := Of30_u32_.trans Of30_s1
  have Of18_u32 : u32 101 18 = τ 101 18 := Of18_u32_.trans Of18_s1
  replace p33_x0 : r31.toInt = (-4 : Int) := p33_x0
  have m34 := wx_X4_15 Iu32
  have m35 := wx_X4_15 Is1
  have m36 := wx_X4_15 hI
  have e37 : (s1 101 15).toInt = (τ 101 15).toInt := congrArg Int32.toInt (by rw [hs1, up2_i (by decide)])
  have e38 : (u32 101 15).toInt = (s1 101 15).toInt := congrArg Int32.toInt Of15_u32_
  exact sf_ret ⟨Iu32, Fu32, Of34_u32, Of1_u32, Of30_u32, Of18_u32, ti_lo _, ti_hi _, (show (0 ≤ x1.toInt ∧ x1.toInt ≤ 255 ∧ (τ 101 15).toInt ≤ 95 ∧ (u32 101 15).toInt = (τ 101 15).toInt + 1 ∧ r31.toInt = (u32 101 15).toInt) ∨ (x1.toInt < 0 ∧ (u32 101 15).toInt = (τ 101 15).toInt ∧ r31.toInt = -4) ∨ (0 ≤ x1.toInt ∧ (255 < x1.toInt ∨ 96 ≤ (τ 101 15).toInt) ∧ (u32 101 15).toInt = (τ 101 15).toInt ∧ r31.toInt = -6) from by omega)⟩
set_option maxHeartbeats 4000000 in
set_option maxRecDepth 100000 in
theorem s_X4_here {F : Nat} (hF : 73786976294838206464 ≤ F) {τ : Mem} (hI : wiM τ) : sf (f_X4_here F τ) (fun r s => s = τ ∧ -2147483648 ≤ r.toInt ∧ r.toInt ≤ 2147483647 ∧ (((τ 101 15).toInt ≤ (τ 101 16).toInt ∧ r.toInt = -1) ∨ ((τ 101 16).toInt < (τ 101 15).toInt ∧ r.toInt = (τ 111 (Int32.toNatClampNeg (τ 101 16))).toInt))) := by
  rw [f_X4_here_e]
  have m1 := wx_X4_15 hI
  have m2 := wx_X4_16 hI
  refine sf_ite (fun c3 => ?_) (fun c3 => ?_)
  · have C3 : (τ 101 15).toInt ≤ (τ 101 16).toInt := ti_le c3
    exact sf_ret ⟨rfl, ti_lo _, ti_hi _, (show ((τ 101 15).toInt ≤ (τ 101 16).toInt ∧ (-1 : Int) = -1) ∨ ((τ 101 16).toInt < (τ 101 15).toInt ∧ (-1 : Int) = (τ 111 (Int32.toNatClampNeg (τ 101 16))).toInt) from by omega)⟩
  have C3 : (τ 101 16).toInt < (τ 101 15).toInt := ti_nle c3
  refine sf_chk (ti_in (by omega) (by omega)) ?_
  have v4 : Int32.toNatClampNeg (τ 101 16) = (τ 101 16).toInt.toNat := rfl
  have b5 := ti_lo (τ 111 (Int32.toNatClampNeg (τ 101 16)))
  have b6 := ti_hi (τ 111 (Int32.toNatClampNeg (τ 101 16)))
  exact sf_ret ⟨rfl, ti_lo _, ti_hi _, (show ((τ 101 15).toInt ≤ (τ 101 16).toInt ∧ (τ 111 (Int32.toNatClampNeg (τ 101 16))).toInt = -1) ∨ ((τ 101 16).toInt < (τ 101 15).toInt ∧ (τ 111 (Int32.toNatClampNeg (τ 101 16))).toInt = (τ 111 (Int32.toNatClampNeg (τ 101 16))).toInt) from by omega)⟩
set_option maxHeartbeats 4000000 in
set_option maxRecDepth 100000 in
theorem sl_X4_readDigits_4 {F : Nat} (hF : 73786976294838206464 ≤ F) {x1 : Int32} {τ : Mem} (x1_1 : 1 ≤ x1.toInt) (x1_2 : x1.toInt ≤ 3) : ∀ (N : Nat) (x2 : Int32) (x3 : Int32) (σ : Mem), wiM σ → (∀ k, k < 101 → σ k = τ k) → σ 101 15 = τ 101 15 → σ 101 34 = τ 101 34 → σ 101 1 = τ 101 1 → σ 101 30 = τ 101 30 → σ 101 18 = τ 101 18 → 3 < x3.toInt + N → 0 ≤ x2.toInt → x2.toInt ≤ 999 → 0 ≤ x3.toInt → x3.toInt ≤ 3 → ((x3.toInt = 0 ∧ x2.toInt = 0) ∨ (x3.toInt = 1 ∧ x2.toInt ≤ 9) ∨ (x3.toInt = 2 ∧ x2.toInt ≤ 99) ∨ (x3.toInt = 3 ∧ x2.toInt ≤ 999)) → ((σ 101 17).toInt = 0 → (τ 101 16).toInt + x3.toInt ≤ (σ 101 16).toInt) → ((τ 101 16).toInt ≤ (σ 101 16).toInt) → sf (lp_X4_readDigits_4 F x1 N x2 x3 σ) (fun r s => wiM s ∧ (∀ k, k < 101 → s k = τ k) ∧ s 101 15 = τ 101 15 ∧ s 101 34 = τ 101 34 ∧ s 101 1 = τ 101 1 ∧ s 101 30 = τ 101 30 ∧ s 101 18 = τ 101 18 ∧ 0 ≤ r.toInt ∧ r.toInt ≤ 999 ∧ ((s 101 17).toInt = 0 → (τ 101 16).toInt + x1.toInt ≤ (s 101 16).toInt) ∧ ((τ 101 16).toInt ≤ (s 101 16).toInt)) := by
  intro N
  induction N with
  | zero => intro x2 x3 σ hI Fσ Of15_σ Of34_σ Of1_σ Of30_σ Of18_σ hN x2_1 x2_2 x3_1 x3_2 xl0 xl1 xl2; exfalso; omega
  | succ N ih =>
    intro x2 x3 σ hI Fσ Of15_σ Of34_σ Of1_σ Of30_σ Of18_σ hN x2_1 x2_2 x3_1 x3_2 xl0 xl1 xl2
    rw [lp_X4_readDigits_4_s]
    refine sf_ite (fun c1 => ?_) (fun c1 => ?_)
    · have C1 : x1.toInt ≤ x3.toInt := ti_le c1
      have b2 := ti_lo (σ 101 17)
      have b3 := ti_hi (σ 101 17)
      have m4 := wx_X4_16 hI
      have b5 := ti_lo (τ 101 17)
      have b6 := ti_hi (τ 101 17)
      have b7 := ti_lo (τ 101 16)
      have b8 := ti_hi (τ 101 16)
      exact sf_ret ⟨hI, Fσ, Of15_σ, Of34_σ, Of1_σ, Of30_σ, Of18_σ, by omega, by omega, (show (σ 101 17).toInt = 0 → (τ 101 16).toInt + x1.toInt ≤ (σ 101 16).toInt from by omega), (show (τ 101 16).toInt ≤ (σ 101 16).toInt from by omega)⟩
    have C1 : x3.toInt < x1.toInt := ti_nle c1
    have b9 := ti_lo (σ 101 17)
    have b10 := ti_hi (σ 101 17)
    refine sf_ite (fun c11 => ?_) (fun c11 => ?_)
    · have C11 : (σ 101 17).toInt = (0 : Int) := ti_eq c11
      have m12 := wx_X4_15 hI
      have e13 : (σ 101 15).toInt = (τ 101 15).toInt := congrArg Int32.toInt Of15_σ
      have m14 := wx_X4_16 hI
      refine sf_bnd (s_X4_here hF hI) (fun r15 u16 p17 => ?_)
      obtain ⟨e9, p17_1, p17_2, p17_x0⟩ := p17
      have e9 := e9.symm
      subst e9
      replace p17_x0 : ((σ 101 15).toInt ≤ (σ 101 16).toInt ∧ r15.toInt = -1) ∨ ((σ 101 16).toInt < (σ 101 15).toInt ∧ r15.toInt = (σ 111 (Int32.toNatClampNeg (σ 101 16))).toInt) := p17_x0
      refine sf_in ?_
      rw [f_X4_in_e]
      have b18 := ti_lo r15
      have b19 := ti_hi r15
      have b20 := ti_lo (lg_cmp (Int32.toInt64 r15) (48 : Int64))
      have b21 := ti_hi (lg_cmp (Int32.toInt64 r15) (48 : Int64))
      refine sf_ite (fun c22 => ?_) (fun c22 => ?_)
      · have C22 : (lg_cmp (Int32.toInt64 r15) (48 : Int64)).toInt < (0 : Int) := ti_lt c22
        have L22 : r15.toInt < (48 : Int) := by have q := lg_ltl c22; (repeat (rw [Int32.toInt_toInt64] at q)); exact q
        rw [j_X4_in_17_e]
        refine sf_ret ?_
        refine sf_ite (fun c23 => ?_) (fun c23 => ?_)
        · have C23 : (0 : Int) = (0 : Int) := ti_eq c23
          rw [j_X4_readDigits_34_e]
          rw [j_X4_readDigits_39_e]
          refine sf_bz (by decide) ?_
          refine sf_lt (fun s24 hs24 => ?_)
          have Is24 : wiM s24 := by rw [hs24]; exact wm_fld hI (by decide) (by decide) (by decide) (by decide) (by decide) (by decide) (by decide)
          have Fs24 : ∀ k, k < 101 → s24 k = τ k := fun k hk => (show s24 k = σ k by rw [hs24, up2_k (by omega)]).trans (Fσ k hk)
          have Of15_s24 : s24 101 15 = τ 101 15 := (show s24 101 15 = σ 101 15 by rw [hs24, up2_i (by decide)]).trans Of15_σ
          have Of34_s24 : s24 101 34 = τ 101 34 := (show s24 101 34 = σ 101 34 by rw [hs24, up2_i (by decide)]).trans Of34_σ
          have Of1_s24 : s24 101 1 = τ 101 1 := (show s24 101 1 = σ 101 1 by rw [hs24, up2_i (by decide)]).trans Of1_σ
          have Of30_s24 : s24 101 30 = τ 101 30 := (show s24 101 30 = σ 101 30 by rw [hs24, up2_i (by decide)]).trans Of30_σ
          have Of18_s24 : s24 101 18 = τ 101 18 := (show s24 101 18 = σ 101 18 by rw [hs24, up2_i (by decide)]).trans Of18_σ
          have e25 : (s24 101 17).toInt = (1 : Int) := (show (s24 101 17).toInt = (1 : Int32).toInt from congrArg Int32.toInt (by rw [hs24, up2_s]))
          refine sf_ite (fun c26 => ?_) (fun c26 => ?_)
          · have C26 : (s24 101 17).toInt = (0 : Int) := ti_eq c26
            exfalso; omega
          have C26 : ¬ (s24 101 17).toInt = (0 : Int) := ti_ne c26
          rw [j_X4_readDigits_70_e]
          refine sf_ite (fun c27 => ?_) (fun c27 => ?_)
          · have C27 : (s24 101 17).toInt = (0 : Int) := ti_eq c27
            exfalso; omega
          have C27 : ¬ (s24 101 17).toInt = (0 : Int) := ti_ne c27
          rw [j_X4_readDigits_88_e]
          refine sf_lt (fun s28 hs28 => ?_)
          have m29 := wx_X4_16 Is24
          have e30 : (s24 101 16).toInt = (σ 101 16).toInt := congrArg Int32.toInt (by rw [hs24, up2_i (by decide)])
          have t31 : ((s24 101 16) + (0 : Int32)).toInt = (s24 101 16).toInt + (0 : Int) := ti_add (show -2147483648 ≤ (s24 101 16).toInt + (0 : Int) by omega) (show (s24 101 16).toInt + (0 : Int) ≤ 2147483647 by omega)
          have Is28 : wiM s28 := by rw [hs28]; exact wx_put_X4_16 Is24 (by omega) (by omega)
          have Fs28 : ∀ k, k < 101 → s28 k = τ k := fun k hk => (show s28 k = s24 k by rw [hs28, up2_k (by omega)]).trans (Fs24 k hk)
          have Of15_s28 : s28 101 15 = τ 101 15 := (show s28 101 15 = s24 101 15 by rw [hs28, up2_i (by decide)]).trans Of15_s24
          have Of34_s28 : s28 101 34 = τ 101 34 := (show s28 101 34 = s24 101 34 by rw [hs28, up2_i (by decide)]).trans Of34_s24
          have Of1_s28 : s28 101 1 = τ 101 1 := (show s28 101 1 = s24 101 1 by rw [hs28, up2_i (by decide)]).trans Of1_s24
          have Of30_s28 : s28 101 30 = τ 101 30 := (show s28 101 30 = s24 101 30 by rw [hs28, up2_i (by decide)]).trans Of30_s24
          have Of18_s28 : s28 101 18 = τ 101 18 := (show s28 101 18 = s24 101 18 by rw [hs28, up2_i (by decide)]).trans Of18_s24
          have t32 : (x3 + (1 : Int32)).toInt = x3.toInt + (1 : Int) := ti_add (show -2147483648 ≤ x3.toInt + (1 : Int) by omega) (show x3.toInt + (1 : Int) ≤ 2147483647 by omega)
          have e33 : (s28 101 17).toInt = (s24 101 17).toInt := congrArg Int32.toInt (by rw [hs28, up2_i (by decide)])
          have m34 := wx_X4_16 Is28
          have e35 : (s28 101 16).toInt = ((s24 101 16) + (0 : Int32)).toInt := (show (s28 101 16).toInt = ((s24 101 16) + (0 : Int32)).toInt from congrArg Int32.toInt (by rw [hs28, up2_s]))
          have b36 := ti_lo (τ 101 17)
          have b37 := ti_hi (τ 101 17)
          have b38 := ti_lo (τ 101 16)
          have b39 := ti_hi (τ 101 16)
          exact ih _ _ _ Is28 Fs28 Of15_s28 Of34_s28 Of1_s28 Of30_s28 Of18_s28 (by omega) (by decide) (by decide) (by omega) (by omega) (show ((x3 + (1 : Int32)).toInt = 0 ∧ (0 : Int) = 0) ∨ ((x3 + (1 : Int32)).toInt = 1 ∧ (0 : Int) ≤ 9) ∨ ((x3 + (1 : Int32)).toInt = 2 ∧ (0 : Int) ≤ 99) ∨ ((x3 + (1 : Int32)).toInt = 3 ∧ (0 : Int) ≤ 999) from by omega) (show (s28 101 17).toInt = 0 → (τ 101 16).toInt + (x3 + (1 : Int32)).toInt ≤ (s28 101 16).toInt from by omega) (show (τ 101 16).toInt ≤ (s28 101 16).toInt from by omega)
        have C23 : ¬ (0 : Int) = (0 : Int) := ti_ne c23
        exfalso; omega
      have C22 : (0 : Int) ≤ (lg_cmp (Int32.toInt64 r15) (48 : Int64)).toInt := ti_nlt c22
      have L22 : (48 : Int) ≤ r15.toInt := by have q := lg_ltln c22; (repeat (rw [Int32.toInt_toInt64] at q)); exact q
      have b40 := ti_lo (lg_cmp (Int32.toInt64 r15) (57 : Int64))
      have b41 := ti_hi (lg_cmp (Int32.toInt64 r15) (57 : Int64))
      refine sf_ite (fun c42 => ?_) (fun c42 => ?_)
      · have C42 : (0 : Int) < (lg_cmp (Int32.toInt64 r15) (57 : Int64)).toInt := ti_lt c42
        have L42 : (57 : Int) < r15.toInt := by have q := lg_ltr c42; (repeat (rw [Int32.toInt_toInt64] at q)); exact q
        rw [j_X4_in_17_e]
        refine sf_ret ?_
        refine sf_ite (fun c43 => ?_) (fun c43 => ?_)
        · have C43 : (0 : Int) = (0 : Int) := ti_eq c43
          rw [j_X4_readDigits_34_e]
          rw [j_X4_readDigits_39_e]
          refine sf_bz (by decide) ?_
          refine sf_lt (fun s44 hs44 => ?_)
          have Is44 : wiM s44 := by rw [hs44]; exact wm_fld hI (by decide) (by decide) (by decide) (by decide) (by decide) (by decide) (by decide)
          have Fs44 : ∀ k, k < 101 → s44 k = τ k := fun k hk => (show s44 k = σ k by rw [hs44, up2_k (by omega)]).trans (Fσ k hk)
          have Of15_s44 : s44 101 15 = τ 101 15 := (show s44 101 15 = σ 101 15 by rw [hs44, up2_i (by decide)]).trans Of15_σ
          have Of34_s44 : s44 101 34 = τ 101 34 := (show s44 101 34 = σ 101 34 by rw [hs44, up2_i (by decide)]).trans Of34_σ
          have Of1_s44 : s44 101 1 = τ 101 1 := (show s44 101 1 = σ 101 1 by rw [hs44, up2_i (by decide)]).trans Of1_σ
          have Of30_s44 : s44 101 30 = τ 101 30 := (show s44 101 30 = σ 101 30 by rw [hs44, up2_i (by decide)]).trans Of30_σ
          have Of18_s44 : s44 101 18 = τ 101 18 := (show s44 101 18 = σ 101 18 by rw [hs44, up2_i (by decide)]).trans Of18_σ
          have e45 : (s44 101 17).toInt = (1 : Int) := (show (s44 101 17).toInt = (1 : Int32).toInt from congrArg Int32.toInt (by rw [hs44, up2_s]))
          refine sf_ite (fun c46 => ?_) (fun c46 => ?_)
          · have C46 : (s44 101 17).toInt = (0 : Int) := ti_eq c46
            exfalso; omega
          have C46 : ¬ (s44 101 17).toInt = (0 : Int) := ti_ne c46
          rw [j_X4_readDigits_70_e]
          refine sf_ite (fun c47 => ?_) (fun c47 => ?_)
          · have C47 : (s44 101 17).toInt = (0 : Int) := ti_eq c47
            exfalso; omega
          have C47 : ¬ (s44 101 17).toInt = (0 : Int) := ti_ne c47
          rw [j_X4_readDigits_88_e]
          refine sf_lt (fun s48 hs48 => ?_)
          have m49 := wx_X4_16 Is44
          have e50 : (s44 101 16).toInt = (σ 101 16).toInt := congrArg Int32.toInt (by rw [hs44, up2_i (by decide)])
          have t51 : ((s44 101 16) + (0 : Int32)).toInt = (s44 101 16).toInt + (0 : Int) := ti_add (show -2147483648 ≤ (s44 101 16).toInt + (0 : Int) by omega) (show (s44 101 16).toInt + (0 : Int) ≤ 2147483647 by omega)
          have Is48 : wiM s48 := by rw [hs48]; exact wx_put_X4_16 Is44 (by omega) (by omega)
          have Fs48 : ∀ k, k < 101 → s48 k = τ k := fun k hk => (show s48 k = s44 k by rw [hs48, up2_k (by omega)]).trans (Fs44 k hk)
          have Of15_s48 : s48 101 15 = τ 101 15 := (show s48 101 15 = s44 101 15 by rw [hs48, up2_i (by decide)]).trans Of15_s44
          have Of34_s48 : s48 101 34 = τ 101 34 := (show s48 101 34 = s44 101 34 by rw [hs48, up2_i (by decide)]).trans Of34_s44
          have Of1_s48 : s48 101 1 = τ 101 1 := (show s48 101 1 = s44 101 1 by rw [hs48, up2_i (by decide)]).trans Of1_s44
          have Of30_s48 : s48 101 30 = τ 101 30 := (show s48 101 30 = s44 101 30 by rw [hs48, up2_i (by decide)]).trans Of30_s44
          have Of18_s48 : s48 101 18 = τ 101 18 := (show s48 101 18 = s44 101 18 by rw [hs48, up2_i (by decide)]).trans Of18_s44
          have t52 : (x3 + (1 : Int32)).toInt = x3.toInt + (1 : Int) := ti_add (show -2147483648 ≤ x3.toInt + (1 : Int) by omega) (show x3.toInt + (1 : Int) ≤ 2147483647 by omega)
          have e53 : (s48 101 17).toInt = (s44 101 17).toInt := congrArg Int32.toInt (by rw [hs48, up2_i (by decide)])
          have m54 := wx_X4_16 Is48
          have e55 : (s48 101 16).toInt = ((s44 101 16) + (0 : Int32)).toInt := (show (s48 101 16).toInt = ((s44 101 16) + (0 : Int32)).toInt from congrArg Int32.toInt (by rw [hs48, up2_s]))
          have b56 := ti_lo (τ 101 17)
          have b57 := ti_hi (τ 101 17)
          have b58 := ti_lo (τ 101 16)
          have b59 := ti_hi (τ 101 16)
          exact ih _ _ _ Is48 Fs48 Of15_s48 Of34_s48 Of1_s48 Of30_s48 Of18_s48 (by omega) (by decide) (by decide) (by omega) (by omega) (show ((x3 + (1 : Int32)).toInt = 0 ∧ (0 : Int) = 0) ∨ ((x3 + (1 : Int32)).toInt = 1 ∧ (0 : Int) ≤ 9) ∨ ((x3 + (1 : Int32)).toInt = 2 ∧ (0 : Int) ≤ 99) ∨ ((x3 + (1 : Int32)).toInt = 3 ∧ (0 : Int) ≤ 999) from by omega) (show (s48 101 17).toInt = 0 → (τ 101 16).toInt + (x3 + (1 : Int32)).toInt ≤ (s48 101 16).toInt from by omega) (show (τ 101 16).toInt ≤ (s48 101 16).toInt from by omega)
        have C43 : ¬ (0 : Int) = (0 : Int) := ti_ne c43
        exfalso; omega
      have C42 : (lg_cmp (Int32.toInt64 r15) (57 : Int64)).toInt ≤ (0 : Int) := ti_nlt c42
      have L42 : r15.toInt ≤ (57 : Int) := by have q := lg_ltrn c42; (repeat (rw [Int32.toInt_toInt64] at q)); exact q
      refine sf_ret ?_
      refine sf_ite (fun c60 => ?_) (fun c60 => ?_)
      · have C60 : (1 : Int) = (0 : Int) := ti_eq c60
        exfalso; omega
      have C60 : ¬ (1 : Int) = (0 : Int) := ti_ne c60
      rw [j_X4_readDigits_39_e]
      refine sf_bz (by decide) ?_
      refine sf_lt (fun s61 hs61 => ?_)
      have Is61 : wiM s61 := by rw [hs61]; exact wm_fld hI (by decide) (by decide) (by decide) (by decide) (by decide) (by decide) (by decide)
      have Fs61 : ∀ k, k < 101 → s61 k = τ k := fun k hk => (show s61 k = σ k by rw [hs61, up2_k (by omega)]).trans (Fσ k hk)
      have Of15_s61 : s61 101 15 = τ 101 15 := (show s61 101 15 = σ 101 15 by rw [hs61, up2_i (by decide)]).trans Of15_σ
      have Of34_s61 : s61 101 34 = τ 101 34 := (show s61 101 34 = σ 101 34 by rw [hs61, up2_i (by decide)]).trans Of34_σ
      have Of1_s61 : s61 101 1 = τ 101 1 := (show s61 101 1 = σ 101 1 by rw [hs61, up2_i (by decide)]).trans Of1_σ
      have Of30_s61 : s61 101 30 = τ 101 30 := (show s61 101 30 = σ 101 30 by rw [hs61, up2_i (by decide)]).trans Of30_σ
      have Of18_s61 : s61 101 18 = τ 101 18 := (show s61 101 18 = σ 101 18 by rw [hs61, up2_i (by decide)]).trans Of18_σ
      have e62 : (s61 101 17).toInt = (0 : Int) := (show (s61 101 17).toInt = (0 : Int32).toInt from congrArg Int32.toInt (by rw [hs61, up2_s]))
      refine sf_ite (fun c63 => ?_) (fun c63 => ?_)
      · have C63 : (s61 101 17).toInt = (0 : Int) := ti_eq c63
        have m64 := wx_X4_16 Is61
        have e65 : (s61 101 16).toInt = (σ 101 16).toInt := congrArg Int32.toInt (by rw [hs61, up2_i (by decide)])
        refine sf_chk (ti_in (by omega) (by omega)) ?_
        have v66 : Int32.toNatClampNeg (s61 101 16) = (s61 101 16).toInt.toNat := rfl
        rw [j_X4_readDigits_70_e]
        refine sf_ite (fun c67 => ?_) (fun c67 => ?_)
        · have C67 : (s61 101 17).toInt = (0 : Int) := ti_eq c67
          rw [j_X4_readDigits_88_e]
          refine sf_lt (fun s68 hs68 => ?_)
          have t69 : ((s61 101 16) + (1 : Int32)).toInt = (s61 101 16).toInt + (1 : Int) := ti_add (show -2147483648 ≤ (s61 101 16).toInt + (1 : Int) by omega) (show (s61 101 16).toInt + (1 : Int) ≤ 2147483647 by omega)
          have Is68 : wiM s68 := by rw [hs68]; exact wx_put_X4_16 Is61 (by omega) (by omega)
          have Fs68 : ∀ k, k < 101 → s68 k = τ k := fun k hk => (show s68 k = s61 k by rw [hs68, up2_k (by omega)]).trans (Fs61 k hk)
          have Of15_s68 : s68 101 15 = τ 101 15 := (show s68 101 15 = s61 101 15 by rw [hs68, up2_i (by decide)]).trans Of15_s61
          have Of34_s68 : s68 101 34 = τ 101 34 := (show s68 101 34 = s61 101 34 by rw [hs68, up2_i (by decide)]).trans Of34_s61
          have Of1_s68 : s68 101 1 = τ 101 1 := (show s68 101 1 = s61 101 1 by rw [hs68, up2_i (by decide)]).trans Of1_s61
          have Of30_s68 : s68 101 30 = τ 101 30 := (show s68 101 30 = s61 101 30 by rw [hs68, up2_i (by decide)]).trans Of30_s61
          have Of18_s68 : s68 101 18 = τ 101 18 := (show s68 101 18 = s61 101 18 by rw [hs68, up2_i (by decide)]).trans Of18_s61
          have t70 : ((10 : Int32) * x2).toInt = (10 : Int) * x2.toInt := ti_mul (show -2147483648 ≤ (10 : Int) * x2.toInt by omega) (show (10 : Int) * x2.toInt ≤ 2147483647 by omega)
          have e71 : (s61 111 (Int32.toNatClampNeg (s61 101 16))).toInt = (σ 111 (Int32.toNatClampNeg (σ 101 16))).toInt := congrArg Int32.toInt (by rw [hs61, up2_k (by omega), up2_i (by decide)])
          have t72 : (((10 : Int32) * x2) + (s61 111 (Int32.toNatClampNeg (s61 101 16)))).toInt = ((10 : Int32) * x2).toInt + (s61 111 (Int32.toNatClampNeg (s61 101 16))).toInt := ti_add (show -2147483648 ≤ ((10 : Int32) * x2).toInt + (s61 111 (Int32.toNatClampNeg (s61 101 16))).toInt by omega) (show ((10 : Int32) * x2).toInt + (s61 111 (Int32.toNatClampNeg (s61 101 16))).toInt ≤ 2147483647 by omega)
          have t73 : ((((10 : Int32) * x2) + (s61 111 (Int32.toNatClampNeg (s61 101 16)))) - (48 : Int32)).toInt = (((10 : Int32) * x2) + (s61 111 (Int32.toNatClampNeg (s61 101 16)))).toInt - (48 : Int) := ti_sub (show -2147483648 ≤ (((10 : Int32) * x2) + (s61 111 (Int32.toNatClampNeg (s61 101 16)))).toInt - (48 : Int) by omega) (show (((10 : Int32) * x2) + (s61 111 (Int32.toNatClampNeg (s61 101 16)))).toInt - (48 : Int) ≤ 2147483647 by omega)
          have t74 : (x3 + (1 : Int32)).toInt = x3.toInt + (1 : Int) := ti_add (show -2147483648 ≤ x3.toInt + (1 : Int) by omega) (show x3.toInt + (1 : Int) ≤ 2147483647 by omega)
          have e75 : (s68 101 17).toInt = (s61 101 17).toInt := congrArg Int32.toInt (by rw [hs68, up2_i (by decide)])
          have m76 := wx_X4_16 Is68
          have e77 : (s68 101 16).toInt = ((s61 101 16) + (1 : Int32)).toInt := (show (s68 101 16).toInt = ((s61 101 16) + (1 : Int32)).toInt from congrArg Int32.toInt (by rw [hs68, up2_s]))
          have b78 := ti_lo (τ 101 17)
          have b79 := ti_hi (τ 101 17)
          have b80 := ti_lo (τ 101 16)
          have b81 := ti_hi (τ 101 16)
          exact ih _ _ _ Is68 Fs68 Of15_s68 Of34_s68 Of1_s68 Of30_s68 Of18_s68 (by omega) (by omega) (by omega) (by omega) (by omega) (show ((x3 + (1 : Int32)).toInt = 0 ∧ ((((10 : Int32) * x2) + (s61 111 (Int32.toNatClampNeg (s61 101 16)))) - (48 : Int32)).toInt = 0) ∨ ((x3 + (1 : Int32)).toInt = 1 ∧ ((((10 : Int32) * x2) + (s61 111 (Int32.toNatClampNeg (s61 101 16)))) - (48 : Int32)).toInt ≤ 9) ∨ ((x3 + (1 : Int32)).toInt = 2 ∧ ((((10 : Int32) * x2) + (s61 111 (Int32.toNatClampNeg (s61 101 16)))) - (48 : Int32)).toInt ≤ 99) ∨ ((x3 + (1 : Int32)).toInt = 3 ∧ ((((10 : Int32) * x2) + (s61 111 (Int32.toNatClampNeg (s61 101 16)))) - (48 : Int32)).toInt ≤ 999) from by omega) (show (s68 101 17).toInt = 0 → (τ 101 16).toInt + (x3 + (1 : Int32)).toInt ≤ (s68 101 16).toInt from by omega) (show (τ 101 16).toInt ≤ (s68 101 16).toInt from by omega)
        have C67 : ¬ (s61 101 17).toInt = (0 : Int) := ti_ne c67
        exfalso; omega
      have C63 : ¬ (s61 101 17).toInt = (0 : Int) := ti_ne c63
      exfalso; omega
    have C11 : ¬ (σ 101 17).toInt = (0 : Int) := ti_ne c11
    rw [j_X4_readDigits_34_e]
    rw [j_X4_readDigits_39_e]
    refine sf_bz (by decide) ?_
    refine sf_lt (fun s82 hs82 => ?_)
    have Is82 : wiM s82 := by rw [hs82]; exact wm_fld hI (by decide) (by decide) (by decide) (by decide) (by decide) (by decide) (by decide)
    have Fs82 : ∀ k, k < 101 → s82 k = τ k := fun k hk => (show s82 k = σ k by rw [hs82, up2_k (by omega)]).trans (Fσ k hk)
    have Of15_s82 : s82 101 15 = τ 101 15 := (show s82 101 15 = σ 101 15 by rw [hs82, up2_i (by decide)]).trans Of15_σ
    have Of34_s82 : s82 101 34 = τ 101 34 := (show s82 101 34 = σ 101 34 by rw [hs82, up2_i (by decide)]).trans Of34_σ
    have Of1_s82 : s82 101 1 = τ 101 1 := (show s82 101 1 = σ 101 1 by rw [hs82, up2_i (by decide)]).trans Of1_σ
    have Of30_s82 : s82 101 30 = τ 101 30 := (show s82 101 30 = σ 101 30 by rw [hs82, up2_i (by decide)]).trans Of30_σ
    have Of18_s82 : s82 101 18 = τ 101 18 := (show s82 101 18 = σ 101 18 by rw [hs82, up2_i (by decide)]).trans Of18_σ
    have e83 : (s82 101 17).toInt = (1 : Int) := (show (s82 101 17).toInt = (1 : Int32).toInt from congrArg Int32.toInt (by rw [hs82, up2_s]))
    refine sf_ite (fun c84 => ?_) (fun c84 => ?_)
    · have C84 : (s82 101 17).toInt = (0 : Int) := ti_eq c84
      exfalso; omega
    have C84 : ¬ (s82 101 17).toInt = (0 : Int) := ti_ne c84
    rw [j_X4_readDigits_70_e]
    refine sf_ite (fun c85 => ?_) (fun c85 => ?_)
    · have C85 : (s82 101 17).toInt = (0 : Int) := ti_eq c85
      exfalso; omega
    have C85 : ¬ (s82 101 17).toInt = (0 : Int) := ti_ne c85
    rw [j_X4_readDigits_88_e]
    refine sf_lt (fun s86 hs86 => ?_)
    have m87 := wx_X4_16 Is82
    have m88 := wx_X4_16 hI
    have e89 : (s82 101 16).toInt = (σ 101 16).toInt := congrArg Int32.toInt (by rw [hs82, up2_i (by decide)])
    have t90 : ((s82 101 16) + (0 : Int32)).toInt = (s82 101 16).toInt + (0 : Int) := ti_add (show -2147483648 ≤ (s82 101 16).toInt + (0 : Int) by omega) (show (s82 101 16).toInt + (0 : Int) ≤ 2147483647 by omega)
    have Is86 : wiM s86 := by rw [hs86]; exact wx_put_X4_16 Is82 (by omega) (by omega)
    have Fs86 : ∀ k, k < 101 → s86 k = τ k := fun k hk => (show s86 k = s82 k by rw [hs86, up2_k (by omega)]).trans (Fs82 k hk)
    have Of15_s86 : s86 101 15 = τ 101 15 := (show s86 101 15 = s82 101 15 by rw [hs86, up2_i (by decide)]).trans Of15_s82
    have Of34_s86 : s86 101 34 = τ 101 34 := (show s86 101 34 = s82 101 34 by rw [hs86, up2_i (by decide)]).trans Of34_s82
    have Of1_s86 : s86 101 1 = τ 101 1 := (show s86 101 1 = s82 101 1 by rw [hs86, up2_i (by decide)]).trans Of1_s82
    have Of30_s86 : s86 101 30 = τ 101 30 := (show s86 101 30 = s82 101 30 by rw [hs86, up2_i (by decide)]).trans Of30_s82
    have Of18_s86 : s86 101 18 = τ 101 18 := (show s86 101 18 = s82 101 18 by rw [hs86, up2_i (by decide)]).trans Of18_s82
    have t91 : (x3 + (1 : Int32)).toInt = x3.toInt + (1 : Int) := ti_add (show -2147483648 ≤ x3.toInt + (1 : Int) by omega) (show x3.toInt + (1 : Int) ≤ 2147483647 by omega)
    have e92 : (s86 101 17).toInt = (s82 101 17).toInt := congrArg Int32.toInt (by rw [hs86, up2_i (by decide)])
    have m93 := wx_X4_16 Is86
    have e94 : (s86 101 16).toInt = ((s82 101 16) + (0 : Int32)).toInt := (show (s86 101 16).toInt = ((s82 101 16) + (0 : Int32)).toInt from congrArg Int32.toInt (by rw [hs86, up2_s]))
    have b95 := ti_lo (τ 101 17)
    have b96 := ti_hi (τ 101 17)
    have b97 := ti_lo (τ 101 16)
    have b98 := ti_hi (τ 101 16)
    exact ih _ _ _ Is86 Fs86 Of15_s86 Of34_s86 Of1_s86 Of30_s86 Of18_s86 (by omega) (by decide) (by decide) (by omega) (by omega) (show ((x3 + (1 : Int32)).toInt = 0 ∧ (0 : Int) = 0) ∨ ((x3 + (1 : Int32)).toInt = 1 ∧ (0 : Int) ≤ 9) ∨ ((x3 + (1 : Int32)).toInt = 2 ∧ (0 : Int) ≤ 99) ∨ ((x3 + (1 : Int32)).toInt = 3 ∧ (0 : Int) ≤ 999) from by omega) (show (s86 101 17).toInt = 0 → (τ 101 16).toInt + (x3 + (1 : Int32)).toInt ≤ (s86 101 16).toInt from by omega) (show (τ 101 16).toInt ≤ (s86 101 16).toInt from by omega)
set_option maxHeartbeats 4000000 in
set_option maxRecDepth 100000 in
theorem s_X4_readDigits {F : Nat} (hF : 73786976294838206464 ≤ F) {x1 : Int32} {τ : Mem} (hI : wiM τ) (x1_1 : 1 ≤ x1.toInt) (x1_2 : x1.toInt ≤ 3) : sf (f_X4_readDigits F x1 τ) (fun r s => wiM s ∧ (∀ k, k < 101 → s k = τ k) ∧ s 101 15 = τ 101 15 ∧ s 101 34 = τ 101 34 ∧ s 101 1 = τ 101 1 ∧ s 101 30 = τ 101 30 ∧ s 101 18 = τ 101 18 ∧ 0 ≤ r.toInt ∧ r.toInt ≤ 999 ∧ ((s 101 17).toInt = 0 → (τ 101 16).toInt + x1.toInt ≤ (s 101 16).toInt) ∧ ((τ 101 16).toInt ≤ (s 101 16).toInt)) := by
  have Fτ : ∀ k, k < 101 → τ k = τ k := fun _ _ => rfl
  have Of15_τ : τ 101 15 = τ 101 15 := rfl
  have Of34_τ : τ 101 34 = τ 101 34 := rfl
  have Of1_τ : τ 101 1 = τ 101 1 := rfl
  have Of30_τ : τ 101 30 = τ 101 30 := rfl
  have Of18_τ : τ 101 18 = τ 101 18 := rfl
  rw [f_X4_readDigits_e]
  have b1 := ti_lo (τ 101 17)
  have b2 := ti_hi (τ 101 17)
  have m3 := wx_X4_16 hI
  have l_0 : (0 : Int32).toInt = 0 := rfl
  exact sl_X4_readDigits_4 hF (by omega) (by omega) _ _ _ _ hI Fτ Of15_τ Of34_τ Of1_τ Of30_τ Of18_τ (by omega) (by decide) (by decide) (by decide) (by decide) (show ((0 : Int) = 0 ∧ (0 : Int) = 0) ∨ ((0 : Int) = 1 ∧ (0 : Int) ≤ 9) ∨ ((0 : Int) = 2 ∧ (0 : Int) ≤ 99) ∨ ((0 : Int) = 3 ∧ (0 : Int) ≤ 999) from by omega) (show (τ 101 17).toInt = 0 → (τ 101 16).toInt + (0 : Int) ≤ (τ 101 16).toInt from by omega) (show (τ 101 16).toInt ≤ (τ 101 16).toInt from by omega)
