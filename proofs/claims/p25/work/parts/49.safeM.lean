set_option maxHeartbeats 4000000 in
set_option maxRecDepth 100000 in
theorem sl_X4_rank_55 {F : Nat} (hF : 73786976294838206464 ≤ F) {x1 : Int32} {x2 : Int32} {x4 : Int32} {k40 : Int32 → Mem → Option (Int32 × Mem)} {τ : Mem} (x1_1 : 0 ≤ x1.toInt) (x1_2 : x1.toInt ≤ 7) (x2_1 : 0 ≤ x2.toInt) (x2_2 : x2.toInt ≤ 2147483647) (x4_1 : 0 ≤ x4.toInt) (x4_2 : x4.toInt ≤ 4) {N40 : Nat} (hM40 : 5 < x4.toInt + (N40 + 1)) (hk40 : ∀ (x4 : Int32) (σ : Mem), wiM σ → (∀ k, k < 101 → σ k = τ k) → σ 101 15 = τ 101 15 → σ 101 34 = τ 101 34 → σ 101 1 = τ 101 1 → σ 101 30 = τ 101 30 → σ 101 18 = τ 101 18 → 5 < x4.toInt + N40 → 0 ≤ x4.toInt → x4.toInt ≤ 5 → sf (k40 x4 σ) (fun r s => wiM s ∧ (∀ k, k < 101 → s k = τ k) ∧ s 101 15 = τ 101 15 ∧ s 101 34 = τ 101 34 ∧ s 101 1 = τ 101 1 ∧ s 101 30 = τ 101 30 ∧ s 101 18 = τ 101 18 ∧ -2147483648 ≤ r.toInt ∧ r.toInt ≤ 2147483647)) : ∀ (N : Nat) (x5 : Int32) (x6 : Int32) (σ : Mem), wiM σ → (∀ k, k < 101 → σ k = τ k) → σ 101 15 = τ 101 15 → σ 101 34 = τ 101 34 → σ 101 1 = τ 101 1 → σ 101 30 = τ 101 30 → σ 101 18 = τ 101 18 → 5 < x6.toInt + N → 0 ≤ x6.toInt → x6.toInt ≤ 5 → sf (lp_X4_rank_55 F k40 x1 x2 x4 N x5 x6 σ) (fun r s => wiM s ∧ (∀ k, k < 101 → s k = τ k) ∧ s 101 15 = τ 101 15 ∧ s 101 34 = τ 101 34 ∧ s 101 1 = τ 101 1 ∧ s 101 30 = τ 101 30 ∧ s 101 18 = τ 101 18 ∧ -2147483648 ≤ r.toInt ∧ r.toInt ≤ 2147483647) := by
  intro N
  induction N with
  | zero => intro x5 x6 σ hI Fσ Of15_σ Of34_σ Of1_σ Of30_σ Of18_σ hN x6_1 x6_2; exfalso; omega
  | succ N ih =>
    intro x5 x6 σ hI Fσ Of15_σ Of34_σ Of1_σ Of30_σ Of18_σ hN x6_1 x6_2
    rw [lp_X4_rank_55_s]
    have m1 := wx_X4_3 hI
    refine sf_ite (fun c2 => ?_) (fun c2 => ?_)
    · have C2 : (σ 101 3).toInt ≤ x6.toInt := ti_le c2
      have b3 := ti_lo x5
      have b4 := ti_hi x5
      have b5 := ti_lo x2
      have b6 := ti_hi x2
      refine sf_ite (fun c7 => ?_) (fun c7 => ?_)
      · have C7 : x5.toInt = x2.toInt := ti_eq c7
        exact sf_ret ⟨hI, Fσ, Of15_σ, Of34_σ, Of1_σ, Of30_σ, Of18_σ, ti_lo _, ti_hi _⟩
      have C7 : ¬ x5.toInt = x2.toInt := ti_ne c7
      have t8 : (x4 + (1 : Int32)).toInt = x4.toInt + (1 : Int) := ti_add (show -2147483648 ≤ x4.toInt + (1 : Int) by omega) (show x4.toInt + (1 : Int) ≤ 2147483647 by omega)
      exact hk40 _ _ hI Fσ Of15_σ Of34_σ Of1_σ Of30_σ Of18_σ (by omega) (by omega) (by omega)
    have C2 : x6.toInt < (σ 101 3).toInt := ti_nle c2
    have t9 : ((8 : Int32) * x6).toInt = (8 : Int) * x6.toInt := ti_mul (show -2147483648 ≤ (8 : Int) * x6.toInt by omega) (show (8 : Int) * x6.toInt ≤ 2147483647 by omega)
    have t10 : (((8 : Int32) * x6) + x1).toInt = ((8 : Int32) * x6).toInt + x1.toInt := ti_add (show -2147483648 ≤ ((8 : Int32) * x6).toInt + x1.toInt by omega) (show ((8 : Int32) * x6).toInt + x1.toInt ≤ 2147483647 by omega)
    refine sf_chk (ti_in (by omega) (by omega)) ?_
    have v11 : Int32.toNatClampNeg (((8 : Int32) * x6) + x1) = (((8 : Int32) * x6) + x1).toInt.toNat := rfl
    have t12 : ((8 : Int32) * x4).toInt = (8 : Int) * x4.toInt := ti_mul (show -2147483648 ≤ (8 : Int) * x4.toInt by omega) (show (8 : Int) * x4.toInt ≤ 2147483647 by omega)
    have t13 : (((8 : Int32) * x4) + x1).toInt = ((8 : Int32) * x4).toInt + x1.toInt := ti_add (show -2147483648 ≤ ((8 : Int32) * x4).toInt + x1.toInt by omega) (show ((8 : Int32) * x4).toInt + x1.toInt ≤ 2147483647 by omega)
    refine sf_chk (ti_in (by omega) (by omega)) ?_
    have v14 : Int32.toNatClampNeg (((8 : Int32) * x4) + x1) = (((8 : Int32) * x4) + x1).toInt.toNat := rfl
    have b16 := ti_lo (σ 107 (Int32.toNatClampNeg (((8 : Int32) * x6) + x1)))
    have b17 := ti_hi (σ 107 (Int32.toNatClampNeg (((8 : Int32) * x6) + x1)))
    have b18 := ti_lo (σ 107 (Int32.toNatClampNeg (((8 : Int32) * x4) + x1)))
    have b19 := ti_hi (σ 107 (Int32.toNatClampNeg (((8 : Int32) * x4) + x1)))
    have b20 := ti_lo ((σ 107 (Int32.toNatClampNeg (((8 : Int32) * x6) + x1))) - (σ 107 (Int32.toNatClampNeg (((8 : Int32) * x4) + x1))))
    have b21 := ti_hi ((σ 107 (Int32.toNatClampNeg (((8 : Int32) * x6) + x1))) - (σ 107 (Int32.toNatClampNeg (((8 : Int32) * x4) + x1))))
    refine sf_lt (fun z15 hz15 => ?_)
    have hz15_ : z15.toInt = ((σ 107 (Int32.toNatClampNeg (((8 : Int32) * x6) + x1))) - (σ 107 (Int32.toNatClampNeg (((8 : Int32) * x4) + x1)))).toInt := (show z15.toInt = ((σ 107 (Int32.toNatClampNeg (((8 : Int32) * x6) + x1))) - (σ 107 (Int32.toNatClampNeg (((8 : Int32) * x4) + x1)))).toInt from congrArg Int32.toInt hz15)
    have b22 := ti_lo z15
    have b23 := ti_hi z15
    refine sf_ite (fun c24 => ?_) (fun c24 => ?_)
    · have C24 : (0 : Int) < z15.toInt := ti_lt c24
      rw [j_X4_rank_110_e]
      rw [j_X4_rank_115_e]
      have b25 := ti_lo x5
      have b26 := ti_hi x5
      have b27 := ti_lo (x5 + (1 : Int32))
      have b28 := ti_hi (x5 + (1 : Int32))
      have t29 : (x6 + (1 : Int32)).toInt = x6.toInt + (1 : Int) := ti_add (show -2147483648 ≤ x6.toInt + (1 : Int) by omega) (show x6.toInt + (1 : Int) ≤ 2147483647 by omega)
      exact ih _ _ _ hI Fσ Of15_σ Of34_σ Of1_σ Of30_σ Of18_σ (by omega) (by omega) (by omega)
    have C24 : z15.toInt ≤ (0 : Int) := ti_nlt c24
    refine sf_ite (fun c30 => ?_) (fun c30 => ?_)
    · have C30 : z15.toInt = (0 : Int) := ti_eq c30
      refine sf_ite (fun c31 => ?_) (fun c31 => ?_)
      · have C31 : x4.toInt ≤ x6.toInt := ti_le c31
        rw [j_X4_rank_114_e]
        rw [j_X4_rank_115_e]
        have b32 := ti_lo x5
        have b33 := ti_hi x5
        have t34 : (x5 + (0 : Int32)).toInt = x5.toInt + (0 : Int) := ti_add (show -2147483648 ≤ x5.toInt + (0 : Int) by omega) (show x5.toInt + (0 : Int) ≤ 2147483647 by omega)
        have t35 : (x6 + (1 : Int32)).toInt = x6.toInt + (1 : Int) := ti_add (show -2147483648 ≤ x6.toInt + (1 : Int) by omega) (show x6.toInt + (1 : Int) ≤ 2147483647 by omega)
        exact ih _ _ _ hI Fσ Of15_σ Of34_σ Of1_σ Of30_σ Of18_σ (by omega) (by omega) (by omega)
      have C31 : x6.toInt < x4.toInt := ti_nle c31
      rw [j_X4_rank_110_e]
      rw [j_X4_rank_115_e]
      have b36 := ti_lo x5
      have b37 := ti_hi x5
      have b38 := ti_lo (x5 + (1 : Int32))
      have b39 := ti_hi (x5 + (1 : Int32))
      have t40 : (x6 + (1 : Int32)).toInt = x6.toInt + (1 : Int) := ti_add (show -2147483648 ≤ x6.toInt + (1 : Int) by omega) (show x6.toInt + (1 : Int) ≤ 2147483647 by omega)
      exact ih _ _ _ hI Fσ Of15_σ Of34_σ Of1_σ Of30_σ Of18_σ (by omega) (by omega) (by omega)
    have C30 : ¬ z15.toInt = (0 : Int) := ti_ne c30
    rw [j_X4_rank_114_e]
    rw [j_X4_rank_115_e]
    have b41 := ti_lo x5
    have b42 := ti_hi x5
    have t43 : (x5 + (0 : Int32)).toInt = x5.toInt + (0 : Int) := ti_add (show -2147483648 ≤ x5.toInt + (0 : Int) by omega) (show x5.toInt + (0 : Int) ≤ 2147483647 by omega)
    have t44 : (x6 + (1 : Int32)).toInt = x6.toInt + (1 : Int) := ti_add (show -2147483648 ≤ x6.toInt + (1 : Int) by omega) (show x6.toInt + (1 : Int) ≤ 2147483647 by omega)
    exact ih _ _ _ hI Fσ Of15_σ Of34_σ Of1_σ Of30_σ Of18_σ (by omega) (by omega) (by omega)
set_option maxHeartbeats 4000000 in
set_option maxRecDepth 100000 in
theorem sl_X4_rank_40 {F : Nat} (hF : 73786976294838206464 ≤ F) {x1 : Int32} {x2 : Int32} {τ : Mem} (x1_1 : 0 ≤ x1.toInt) (x1_2 : x1.toInt ≤ 7) (x2_1 : 0 ≤ x2.toInt) (x2_2 : x2.toInt ≤ 2147483647) : ∀ (N : Nat) (x4 : Int32) (σ : Mem), wiM σ → (∀ k, k < 101 → σ k = τ k) → σ 101 15 = τ 101 15 → σ 101 34 = τ 101 34 → σ 101 1 = τ 101 1 → σ 101 30 = τ 101 30 → σ 101 18 = τ 101 18 → 5 < x4.toInt + N → 0 ≤ x4.toInt → x4.toInt ≤ 5 → sf (lp_X4_rank_40 F x1 x2 N x4 σ) (fun r s => wiM s ∧ (∀ k, k < 101 → s k = τ k) ∧ s 101 15 = τ 101 15 ∧ s 101 34 = τ 101 34 ∧ s 101 1 = τ 101 1 ∧ s 101 30 = τ 101 30 ∧ s 101 18 = τ 101 18 ∧ -2147483648 ≤ r.toInt ∧ r.toInt ≤ 2147483647) := by
  intro N
  induction N with
  | zero => intro x4 σ hI Fσ Of15_σ Of34_σ Of1_σ Of30_σ Of18_σ hN x4_1 x4_2; exfalso; omega
  | succ N ih =>
    intro x4 σ hI Fσ Of15_σ Of34_σ Of1_σ Of30_σ Of18_σ hN x4_1 x4_2
    rw [lp_X4_rank_40_s]
    have m1 := wx_X4_3 hI
    refine sf_ite (fun c2 => ?_) (fun c2 => ?_)
    · have C2 : (σ 101 3).toInt ≤ x4.toInt := ti_le c2
      exact sf_ret ⟨hI, Fσ, Of15_σ, Of34_σ, Of1_σ, Of30_σ, Of18_σ, ti_lo _, ti_hi _⟩
    have C2 : x4.toInt < (σ 101 3).toInt := ti_nle c2
    have b3 := ti_lo x2
    have b4 := ti_hi x2
    have l_0 : (0 : Int32).toInt = 0 := rfl
    exact sl_X4_rank_55 hF (by omega) (by omega) (by omega) (by omega) (by omega) (by omega) (by omega) ih _ _ _ _ hI Fσ Of15_σ Of34_σ Of1_σ Of30_σ Of18_σ (by omega) (by decide) (by decide)
set_option maxHeartbeats 4000000 in
set_option maxRecDepth 100000 in
theorem s_X4_rank {F : Nat} (hF : 73786976294838206464 ≤ F) {x1 : Int32} {x2 : Int32} {τ : Mem} (hI : wiM τ) : sf (f_X4_rank F x1 x2 τ) (fun r s => wiM s ∧ (∀ k, k < 101 → s k = τ k) ∧ s 101 15 = τ 101 15 ∧ s 101 34 = τ 101 34 ∧ s 101 1 = τ 101 1 ∧ s 101 30 = τ 101 30 ∧ s 101 18 = τ 101 18 ∧ -2147483648 ≤ r.toInt ∧ r.toInt ≤ 2147483647) := by
  have Fτ : ∀ k, k < 101 → τ k = τ k := fun _ _ => rfl
  have Of15_τ : τ 101 15 = τ 101 15 := rfl
  have Of34_τ : τ 101 34 = τ 101 34 := rfl
  have Of1_τ : τ 101 1 = τ 101 1 := rfl
  have Of30_τ : τ 101 30 = τ 101 30 := rfl
  have Of18_τ : τ 101 18 = τ 101 18 := rfl
  rw [f_X4_rank_e]
  refine sf_lt (fun s1 hs1 => ?_)
  have Is1 : wiM s1 := by rw [hs1]; exact wm_fld hI (by decide) (by decide) (by decide) (by decide) (by decide) (by decide) (by decide)
  have Fs1 : ∀ k, k < 101 → s1 k = τ k := fun k hk => (show s1 k = τ k by rw [hs1, up2_k (by omega)]).trans (Fτ k hk)
  have Of15_s1 : s1 101 15 = τ 101 15 := (show s1 101 15 = τ 101 15 by rw [hs1, up2_i (by decide)]).trans Of15_τ
  have Of34_s1 : s1 101 34 = τ 101 34 := (show s1 101 34 = τ 101 34 by rw [hs1, up2_i (by decide)]).trans Of34_τ
  have Of1_s1 : s1 101 1 = τ 101 1 := (show s1 101 1 = τ 101 1 by rw [hs1, up2_i (by decide)]).trans Of1_τ
  have Of30_s1 : s1 101 30 = τ 101 30 := (show s1 101 30 = τ 101 30 by rw [hs1, up2_i (by decide)]).trans Of30_τ
  have Of18_s1 : s1 101 18 = τ 101 18 := (show s1 101 18 = τ 101 18 by rw [hs1, up2_i (by decide)]).trans Of18_τ
  have b2 := ti_lo x1
  have b3 := ti_hi x1
  refine sf_bnd (s_X4_isView hF Is1) (fun r4 u5 p6 => ?_)
  obtain ⟨e9, p6⟩ := p6
  have e9 := e9.symm
  subst e9
  rcases p6 with ⟨rfl, q7, q8⟩ | p6
  · refine sf_ite (fun c9 => ?_) (fun c9 => ?_)
    · have C9 : (1 : Int) = (0 : Int) := ti_eq c9
      exfalso; omega
    have C9 : ¬ (1 : Int) = (0 : Int) := ti_ne c9
    have b10 := ti_lo x2
    have b11 := ti_hi x2
    refine sf_ite (fun c12 => ?_) (fun c12 => ?_)
    · have C12 : (0 : Int) ≤ x2.toInt := ti_le c12
      rw [j_X4_rank_26_e]
      refine sf_ite (fun c13 => ?_) (fun c13 => ?_)
      · have C13 : (0 : Int) ≤ (0 : Int) := ti_le c13
        have l_0 : (0 : Int32).toInt = 0 := rfl
        exact sl_X4_rank_40 hF (by omega) (by omega) (by omega) (by omega) _ _ _ Is1 Fs1 Of15_s1 Of34_s1 Of1_s1 Of30_s1 Of18_s1 (by omega) (by decide) (by decide)
      have C13 : (0 : Int) < (0 : Int) := ti_nle c13
      exfalso; omega
    have C12 : x2.toInt < (0 : Int) := ti_nle c12
    rw [j_X4_rank_26_e]
    refine sf_ite (fun c14 => ?_) (fun c14 => ?_)
    · have C14 : (0 : Int) ≤ (-4 : Int) := ti_le c14
      exfalso; omega
    have C14 : (-4 : Int) < (0 : Int) := ti_nle c14
    refine sf_bnd (s_X4_refuse hF Is1 (by decide) (by decide)) (fun r15 u16 p17 => ?_)
    obtain ⟨Iu16, Fu16_, Of15_u16_, Of34_u16_, Of1_u16_, Of30_u16_, Of18_u16_, p17_1, p17_2, p17_x0⟩ := p17
    have Fu16 : ∀ k, k < 101 → u16 k = τ k := fun k hk => (Fu16_ k hk).trans (Fs1 k hk)
    have Of15_u16 : u16 101 15 = τ 101 15 := Of15_u16_.trans Of15_s1
    have Of34_u16 : u16 101 34 = τ 101 34 := Of34_u16_.trans Of34_s1
    have Of1_u16 : u16 101 1 = τ 101 1 := Of1_u16_.trans Of1_s1
    have Of30_u16 : u16 101 30 = τ 101 30 := Of30_u16_.trans Of30_s1
    have Of18_u16 : u16 101 18 = τ 101 18 := Of18_u16_.trans Of18_s1
    replace p17_x0 : r15.toInt = (-4 : Int) := p17_x0
    exact sf_ret ⟨Iu16, Fu16, Of15_u16, Of34_u16, Of1_u16, Of30_u16, Of18_u16, ti_lo _, ti_hi _⟩
  obtain ⟨rfl, q18⟩ := p6
  refine sf_ite (fun c19 => ?_) (fun c19 => ?_)
  · have C19 : (0 : Int) = (0 : Int) := ti_eq c19
    rw [j_X4_rank_26_e]
    refine sf_ite (fun c20 => ?_) (fun c20 => ?_)
    · have C20 : (0 : Int) ≤ (-1 : Int) := ti_le c20
      exfalso; omega
    have C20 : (-1 : Int) < (0 : Int) := ti_nle c20
    refine sf_bnd (s_X4_refuse hF Is1 (by decide) (by decide)) (fun r21 u22 p23 => ?_)
    obtain ⟨Iu22, Fu22_, Of15_u22_, Of34_u22_, Of1_u22_, Of30_u22_, Of18_u22_, p23_1, p23_2, p23_x0⟩ := p23
    have Fu22 : ∀ k, k < 101 → u22 k = τ k := fun k hk => (Fu22_ k hk).trans (Fs1 k hk)
    have Of15_u22 : u22 101 15 = τ 101 15 := Of15_u22_.trans Of15_s1
    have Of34_u22 : u22 101 34 = τ 101 34 := Of34_u22_.trans Of34_s1
    have Of1_u22 : u22 101 1 = τ 101 1 := Of1_u22_.trans Of1_s1
    have Of30_u22 : u22 101 30 = τ 101 30 := Of30_u22_.trans Of30_s1
    have Of18_u22 : u22 101 18 = τ 101 18 := Of18_u22_.trans Of18_s1
    replace p23_x0 : r21.toInt = (-1 : Int) := p23_x0
    exact sf_ret ⟨Iu22, Fu22, Of15_u22, Of34_u22, Of1_u22, Of30_u22, Of18_u22, ti_lo _, ti_hi _⟩
  have C19 : ¬ (0 : Int) = (0 : Int) := ti_ne c19
  exfalso; omega
set_option maxHeartbeats 4000000 in
set_option maxRecDepth 100000 in
theorem sl_X4_gap_48 {F : Nat} (hF : 73786976294838206464 ≤ F) {x1 : Int32} {x2 : Int32} {τ : Mem} (x1_1 : 0 ≤ x1.toInt) (x1_2 : x1.toInt ≤ 7) (x2_1 : 0 ≤ x2.toInt) (x2_2 : x2.toInt ≤ 999) : ∀ (N : Nat) (x4 : Int32) (x5 : Int32) (x6 : Int32) (σ : Mem), wiM σ → (∀ k, k < 101 → σ k = τ k) → σ 101 15 = τ 101 15 → σ 101 34 = τ 101 34 → σ 101 1 = τ 101 1 → σ 101 30 = τ 101 30 → σ 101 18 = τ 101 18 → 5 < x6.toInt + N → 0 ≤ x4.toInt → x4.toInt ≤ 2147483647 → 0 ≤ x5.toInt → x5.toInt ≤ 2147483647 → 0 ≤ x6.toInt → x6.toInt ≤ 5 → sf (lp_X4_gap_48 F x1 x2 N x4 x5 x6 σ) (fun r s => wiM s ∧ (∀ k, k < 101 → s k = τ k) ∧ s 101 15 = τ 101 15 ∧ s 101 34 = τ 101 34 ∧ s 101 1 = τ 101 1 ∧ s 101 30 = τ 101 30 ∧ s 101 18 = τ 101 18 ∧ -2147483648 ≤ r.toInt ∧ r.toInt ≤ 2147483647) := by
  intro N
  induction N with
  | zero => intro x4 x5 x6 σ hI Fσ Of15_σ Of34_σ Of1_σ Of30_σ Of18_σ hN x4_1 x4_2 x5_1 x5_2 x6_1 x6_2; exfalso; omega
  | succ N ih =>
    intro x4 x5 x6 σ hI Fσ Of15_σ Of34_σ Of1_σ Of30_σ Of18_σ hN x4_1 x4_2 x5_1 x5_2 x6_1 x6_2
    rw [lp_X4_gap_48_s]
    have m1 := wx_X4_3 hI
    refine sf_ite (fun c2 => ?_) (fun c2 => ?_)
    · have C2 : (σ 101 3).toInt ≤ x6.toInt := ti_le c2
      have b3 := ti_lo x4
      have b4 := ti_hi x4
      have b5 := ti_lo x5
      have b6 := ti_hi x5
      have t7 : (x4 - x5).toInt = x4.toInt - x5.toInt := ti_sub (show -2147483648 ≤ x4.toInt - x5.toInt by omega) (show x4.toInt - x5.toInt ≤ 2147483647 by omega)
      exact sf_ret ⟨hI, Fσ, Of15_σ, Of34_σ, Of1_σ, Of30_σ, Of18_σ, ti_lo _, ti_hi _⟩
    have C2 : x6.toInt < (σ 101 3).toInt := ti_nle c2
    refine sf_bnd (s_X4_countIn hF hI (by omega) (by omega) (by omega) (by omega) (by omega) (by omega)) (fun r8 u9 p10 => ?_)
    obtain ⟨e9, p10_1, p10_2⟩ := p10
    have e9 := e9.symm
    subst e9
    have b11 := ti_lo r8
    have b12 := ti_hi r8
    have b13 := ti_lo x4
    have b14 := ti_hi x4
    refine sf_ite (fun c15 => ?_) (fun c15 => ?_)
    · have C15 : r8.toInt ≤ x4.toInt := ti_le c15
      have b16 := ti_lo x5
      have b17 := ti_hi x5
      refine sf_ite (fun c18 => ?_) (fun c18 => ?_)
      · have C18 : r8.toInt ≤ x5.toInt := ti_le c18
        rw [j_X4_gap_93_e]
        refine sf_ite (fun c19 => ?_) (fun c19 => ?_)
        · have C19 : r8.toInt ≤ x4.toInt := ti_le c19
          rw [j_X4_gap_109_e]
          have t20 : (x6 + (1 : Int32)).toInt = x6.toInt + (1 : Int) := ti_add (show -2147483648 ≤ x6.toInt + (1 : Int) by omega) (show x6.toInt + (1 : Int) ≤ 2147483647 by omega)
          exact ih _ _ _ _ hI Fσ Of15_σ Of34_σ Of1_σ Of30_σ Of18_σ (by omega) (by omega) (by omega) (by omega) (by omega) (by omega) (by omega)
        have C19 : x4.toInt < r8.toInt := ti_nle c19
        rw [j_X4_gap_109_e]
        have t21 : (x6 + (1 : Int32)).toInt = x6.toInt + (1 : Int) := ti_add (show -2147483648 ≤ x6.toInt + (1 : Int) by omega) (show x6.toInt + (1 : Int) ≤ 2147483647 by omega)
        exact ih _ _ _ _ hI Fσ Of15_σ Of34_σ Of1_σ Of30_σ Of18_σ (by omega) (by omega) (by omega) (by omega) (by omega) (by omega) (by omega)
      have C18 : x5.toInt < r8.toInt := ti_nle c18
      rw [j_X4_gap_93_e]
      refine sf_ite (fun c22 => ?_) (fun c22 => ?_)
      · have C22 : r8.toInt ≤ x4.toInt := ti_le c22
        rw [j_X4_gap_109_e]
        have t23 : (x6 + (1 : Int32)).toInt = x6.toInt + (1 : Int) := ti_add (show -2147483648 ≤ x6.toInt + (1 : Int) by omega) (show x6.toInt + (1 : Int) ≤ 2147483647 by omega)
        exact ih _ _ _ _ hI Fσ Of15_σ Of34_σ Of1_σ Of30_σ Of18_σ (by omega) (by omega) (by omega) (by omega) (by omega) (by omega) (by omega)
      have C22 : x4.toInt < r8.toInt := ti_nle c22
      rw [j_X4_gap_109_e]
      have t24 : (x6 + (1 : Int32)).toInt = x6.toInt + (1 : Int) := ti_add (show -2147483648 ≤ x6.toInt + (1 : Int) by omega) (show x6.toInt + (1 : Int) ≤ 2147483647 by omega)
      exact ih _ _ _ _ hI Fσ Of15_σ Of34_σ Of1_σ Of30_σ Of18_σ (by omega) (by omega) (by omega) (by omega) (by omega) (by omega) (by omega)
    have C15 : x4.toInt < r8.toInt := ti_nle c15
    rw [j_X4_gap_93_e]
    refine sf_ite (fun c25 => ?_) (fun c25 => ?_)
    · have C25 : r8.toInt ≤ x4.toInt := ti_le c25
      rw [j_X4_gap_109_e]
      have t26 : (x6 + (1 : Int32)).toInt = x6.toInt + (1 : Int) := ti_add (show -2147483648 ≤ x6.toInt + (1 : Int) by omega) (show x6.toInt + (1 : Int) ≤ 2147483647 by omega)
      exact ih _ _ _ _ hI Fσ Of15_σ Of34_σ Of1_σ Of30_σ Of18_σ (by omega) (by omega) (by omega) (by omega) (by omega) (by omega) (by omega)
    have C25 : x4.toInt < r8.toInt := ti_nle c25
    rw [j_X4_gap_109_e]
    have t27 : (x6 + (1 : Int32)).toInt = x6.toInt + (1 : Int) := ti_add (show -2147483648 ≤ x6.toInt + (1 : Int) by omega) (show x6.toInt + (1 : Int) ≤ 2147483647 by omega)
    exact ih _ _ _ _ hI Fσ Of15_σ Of34_σ Of1_σ Of30_σ Of18_σ (by omega) (by omega) (by omega) (by omega) (by omega) (by omega) (by omega)
set_option maxHeartbeats 4000000 in
set_option maxRecDepth 100000 in
theorem s_X4_gap {F : Nat} (hF : 73786976294838206464 ≤ F) {x1 : Int32} {x2 : Int32} {τ : Mem} (hI : wiM τ) : sf (f_X4_gap F x1 x2 τ) (fun r s => wiM s ∧ (∀ k, k < 101 → s k = τ k) ∧ s 101 15 = τ 101 15 ∧ s 101 34 = τ 101 34 ∧ s 101 1 = τ 101 1 ∧ s 101 30 = τ 101 30 ∧ s 101 18 = τ 101 18 ∧ -2147483648 ≤ r.toInt ∧ r.toInt ≤ 2147483647) := by
  have Fτ : ∀ k, k < 101 → τ k = τ k := fun _ _ => rfl
  have Of15_τ : τ 101 15 = τ 101 15 := rfl
  have Of34_τ : τ 101 34 = τ 101 34 := rfl
  have Of1_τ : τ 101 1 = τ 101 1 := rfl
  have Of30_τ : τ 101 30 = τ 101 30 := rfl
  have Of18_τ : τ 101 18 = τ 101 18 := rfl
  rw [f_X4_gap_e]
  refine sf_lt (fun s1 hs1 => ?_)
  have Is1 : wiM s1 := by rw [hs1]; exact wm_fld hI (by decide) (by decide) (by decide) (by decide) (by decide) (by decide) (by decide)
  have Fs1 : ∀ k, k < 101 → s1 k = τ k := fun k hk => (show s1 k = τ k by rw [hs1, up2_k (by omega)]).trans (Fτ k hk)
  have Of15_s1 : s1 101 15 = τ 101 15 := (show s1 101 15 = τ 101 15 by rw [hs1, up2_i (by decide)]).trans Of15_τ
  have Of34_s1 : s1 101 34 = τ 101 34 := (show s1 101 34 = τ 101 34 by rw [hs1, up2_i (by decide)]).trans Of34_τ
  have Of1_s1 : s1 101 1 = τ 101 1 := (show s1 101 1 = τ 101 1 by rw [hs1, up2_i (by decide)]).trans Of1_τ
  have Of30_s1 : s1 101 30 = τ 101 30 := (show s1 101 30 = τ 101 30 by rw [hs1, up2_i (by decide)]).trans Of30_τ
  have Of18_s1 : s1 101 18 = τ 101 18 := (show s1 101 18 = τ 101 18 by rw [hs1, up2_i (by decide)]).trans Of18_τ
  have b2 := ti_lo x1
  have b3 := ti_hi x1
  refine sf_bnd (s_X4_isView hF Is1) (fun r4 u5 p6 => ?_)
  obtain ⟨e9, p6⟩ := p6
  have e9 := e9.symm
  subst e9
  rcases p6 with ⟨rfl, q7, q8⟩ | p6
  · refine sf_ite (fun c9 => ?_) (fun c9 => ?_)
    · have C9 : (1 : Int) = (0 : Int) := ti_eq c9
      exfalso; omega
    have C9 : ¬ (1 : Int) = (0 : Int) := ti_ne c9
    refine sf_in ?_
    rw [f_X4_wrongNumber_e]
    have b10 := ti_lo x2
    have b11 := ti_hi x2
    refine sf_ite (fun c12 => ?_) (fun c12 => ?_)
    · have C12 : (0 : Int) ≤ x2.toInt := ti_le c12
      refine sf_ite (fun c13 => ?_) (fun c13 => ?_)
      · have C13 : x2.toInt ≤ (999 : Int) := ti_le c13
        refine sf_ret ?_
        rw [j_X4_gap_24_e]
        refine sf_ite (fun c14 => ?_) (fun c14 => ?_)
        · have C14 : (0 : Int) ≤ (0 : Int) := ti_le c14
          refine sf_bnd (s_X4_layBrings hF Is1) (fun r15 u16 p17 => ?_)
          obtain ⟨Iu16, Fu16_, Of15_u16_, Of34_u16_, Of1_u16_, Of30_u16_, Of18_u16_, -⟩ := p17
          have Fu16 : ∀ k, k < 101 → u16 k = τ k := fun k hk => (Fu16_ k hk).trans (Fs1 k hk)
          have Of15_u16 : u16 101 15 = τ 101 15 := Of15_u16_.trans Of15_s1
          have Of34_u16 : u16 101 34 = τ 101 34 := Of34_u16_.trans Of34_s1
          have Of1_u16 : u16 101 1 = τ 101 1 := Of1_u16_.trans Of1_s1
          have Of30_u16 : u16 101 30 = τ 101 30 := Of30_u16_.trans Of30_s1
          have Of18_u16 : u16 101 18 = τ 101 18 := Of18_u16_.trans Of18_s1
          have l_0 : (0 : Int32).toInt = 0 := rfl
          exact sl_X4_gap_48 hF (by omega) (by omega) (by omega) (by omega) _ _ _ _ _ Iu16 Fu16 Of15_u16 Of34_u16 Of1_u16 Of30_u16 Of18_u16 (by omega) (by decide) (by decide) (by decide) (by decide) (by decide) (by decide)
        have C14 : (0 : Int) < (0 : Int) := ti_nle c14
        exfalso; omega
      have C13 : (999 : Int) < x2.toInt := ti_nle c13
      refine sf_ret ?_
      rw [j_X4_gap_24_e]
      refine sf_ite (fun c18 => ?_) (fun c18 => ?_)
      · have C18 : (0 : Int) ≤ (-6 : Int) := ti_le c18
        exfalso; omega
      have C18 : (-6 : Int) < (0 : Int) := ti_nle c18
      refine sf_bnd (s_X4_refuse hF Is1 (by decide) (by decide)) (fun r19 u20 p21 => ?_)
      obtain ⟨Iu20, Fu20_, Of15_u20_, Of34_u20_, Of1_u20_, Of30_u20_, Of18_u20_, p21_1, p21_2, p21_x0⟩ := p21
      have Fu20 : ∀ k, k < 101 → u20 k = τ k := fun k hk => (Fu20_ k hk).trans (Fs1 k hk)
      have Of15_u20 : u20 101 15 = τ 101 15 := Of15_u20_.trans Of15_s1
      have Of34_u20 : u20 101 34 = τ 101 34 := Of34_u20_.trans Of34_s1
      have Of1_u20 : u20 101 1 = τ 101 1 := Of1_u20_.trans Of1_s1
      have Of30_u20 : u20 101 30 = τ 101 30 := Of30_u20_.trans Of30_s1
      have Of18_u20 : u20 101 18 = τ 101 18 := Of18_u20_.trans Of18_s1
      replace p21_x0 : r19.toInt = (-6 : Int) := p21_x0
      exact sf_ret ⟨Iu20, Fu20, Of15_u20, Of34_u20, Of1_u20, Of30_u20, Of18_u20, ti_lo _, ti_hi _⟩
    have C12 : x2.toInt < (0 : Int) := ti_nle c12
    refine sf_ret ?_
    rw [j_X4_gap_24_e]
    refine sf_ite (fun c22 => ?_) (fun c22 => ?_)
    · have C22 : (0 : Int) ≤ (-4 : Int) := ti_le c22
      exfalso; omega
    have C22 : (-4 : Int) < (0 : Int) := ti_nle c22
    refine sf_bnd (s_X4_refuse hF Is1 (by decide) (by decide)) (fun r23 u24 p25 => ?_)
    obtain ⟨Iu24, Fu24_, Of15_u24_, Of34_u24_, Of1_u24_, Of30_u24_, Of18_u24_, p25_1, p25_2, p25_x0⟩ := p25
    have Fu24 : ∀ k, k < 101 → u24 k = τ k := fun k hk => (Fu24_ k hk).trans (Fs1 k hk)
    have Of15_u24 : u24 101 15 = τ 101 15 := Of15_u24_.trans Of15_s1
    have Of34_u24 : u24 101 34 = τ 101 34 := Of34_u24_.trans Of34_s1
    have Of1_u24 : u24 101 1 = τ 101 1 := Of1_u24_.trans Of1_s1
    have Of30_u24 : u24 101 30 = τ 101 30 := Of30_u24_.trans Of30_s1
    have Of18_u24 : u24 101 18 = τ 101 18 := Of18_u24_.trans Of18_s1
    replace p25_x0 : r23.toInt = (-4 : Int) := p25_x0
    exact sf_ret ⟨Iu24, Fu24, Of15_u24, Of34_u24, Of1_u24, Of30_u24, Of18_u24, ti_lo _, ti_hi _⟩
  obtain ⟨rfl, q26⟩ := p6
  refine sf_ite (fun c27 => ?_) (fun c27 => ?_)
  · have C27 : (0 : Int) = (0 : Int) := ti_eq c27
    rw [j_X4_gap_24_e]
    refine sf_ite (fun c28 => ?_) (fun c28 => ?_)
    · have C28 : (0 : Int) ≤ (-1 : Int) := ti_le c28
      exfalso; omega
    have C28 : (-1 : Int) < (0 : Int) := ti_nle c28
    refine sf_bnd (s_X4_refuse hF Is1 (by decide) (by decide)) (fun r29 u30 p31 => ?_)
    obtain ⟨Iu30, Fu30_, Of15_u30_, Of34_u30_, Of1_u30_, Of30_u30_, Of18_u30_, p31_1, p31_2, p31_x0⟩ := p31
    have Fu30 : ∀ k, k < 101 → u30 k = τ k := fun k hk => (Fu30_ k hk).trans (Fs1 k hk)
    have Of15_u30 : u30 101 15 = τ 101 15 := Of15_u30_.trans Of15_s1
    have Of34_u30 : u30 101 34 = τ 101 34 := Of34_u30_.trans Of34_s1
    have Of1_u30 : u30 101 1 = τ 101 1 := Of1_u30_.trans Of1_s1
    have Of30_u30 : u30 101 30 = τ 101 30 := Of30_u30_.trans Of30_s1
    have Of18_u30 : u30 101 18 = τ 101 18 := Of18_u30_.trans Of18_s1
    replace p31_x0 : r29.toInt = (-1 : Int) := p31_x0
    exact sf_ret ⟨Iu30, Fu30, Of15_u30, Of34_u30, Of1_u30, Of30_u30, Of18_u30, ti_lo _, ti_hi _⟩
  have C27 : ¬ (0 : Int) = (0 : Int) := ti_ne c27
  exfalso; omega
set_option maxHeartbeats 4000000 in
set_option maxRecDepth 100000 in
theorem sl_X4_wasted_40 {F : Nat} (hF : 73786976294838206464 ≤ F) {x1 : Int32} {x2 : Int32} {τ : Mem} (x1_1 : 0 ≤ x1.toInt) (x1_2 : x1.toInt ≤ 4) (x2_1 : 0 ≤ x2.toInt) (x2_2 : x2.toInt ≤ 1) : ∀ (N : Nat) (x4 : Int32) (x5 : Int32) (σ : Mem), wiM σ → (∀ k, k < 101 → σ k = τ k) → σ 101 15 = τ 101 15 → σ 101 34 = τ 101 34 → σ 101 1 = τ 101 1 → σ 101 30 = τ 101 30 → σ 101 18 = τ 101 18 → 24 < x5.toInt + N → 0 ≤ x5.toInt → x5.toInt ≤ 24 → sf (lp_X4_wasted_40 F x1 x2 N x4 x5 σ) (fun r s => wiM s ∧ (∀ k, k < 101 → s k = τ k) ∧ s 101 15 = τ 101 15 ∧ s 101 34 = τ 101 34 ∧ s 101 1 = τ 101 1 ∧ s 101 30 = τ 101 30 ∧ s 101 18 = τ 101 18 ∧ -2147483648 ≤ r.toInt ∧ r.toInt ≤ 2147483647) := by
  intro N
  induction N with
  | zero => intro x4 x5 σ hI Fσ Of15_σ Of34_σ Of1_σ Of30_σ Of18_σ hN x5_1 x5_2; exfalso; omega
  | succ N ih =>
    intro x4 x5 σ hI Fσ Of15_σ Of34_σ Of1_σ Of30_σ Of18_σ hN x5_1 x5_2
    rw [lp_X4_wasted_40_s]
    refine sf_ite (fun c1 => ?_) (fun c1 => ?_)
    · have C1 : (24 : Int) ≤ x5.toInt := ti_le c1
      have b2 := ti_lo x4
      have b3 := ti_hi x4
      exact sf_ret ⟨hI, Fσ, Of15_σ, Of34_σ, Of1_σ, Of30_σ, Of18_σ, ti_lo _, ti_hi _⟩
    have C1 : x5.toInt < (24 : Int) := ti_nle c1
    have t4 : ((24 : Int32) * x1).toInt = (24 : Int) * x1.toInt := ti_mul (show -2147483648 ≤ (24 : Int) * x1.toInt by omega) (show (24 : Int) * x1.toInt ≤ 2147483647 by omega)
    have t5 : (((24 : Int32) * x1) + x5).toInt = ((24 : Int32) * x1).toInt + x5.toInt := ti_add (show -2147483648 ≤ ((24 : Int32) * x1).toInt + x5.toInt by omega) (show ((24 : Int32) * x1).toInt + x5.toInt ≤ 2147483647 by omega)
    refine sf_chk (ti_in (by omega) (by omega)) ?_
    have v6 : Int32.toNatClampNeg (((24 : Int32) * x1) + x5) = (((24 : Int32) * x1) + x5).toInt.toNat := rfl
    have m7 := wx_106 hI (Int32.toNatClampNeg (((24 : Int32) * x1) + x5))
    refine sf_ite (fun c8 => ?_) (fun c8 => ?_)
    · have C8 : (σ 106 (Int32.toNatClampNeg (((24 : Int32) * x1) + x5))).toInt < (0 : Int) := ti_lt c8
      rw [j_X4_wasted_67_e]
      refine sf_bnd (s_X4_pullOf hF hI (by omega) (by omega) (by omega) (by omega)) (fun r9 u10 p11 => ?_)
      obtain ⟨e9, p11_1, p11_2⟩ := p11
      have e9 := e9.symm
      subst e9
      have b12 := ti_lo r9
      have b13 := ti_hi r9
      refine sf_ite (fun c14 => ?_) (fun c14 => ?_)
      · have C14 : r9.toInt ≤ (0 : Int) := ti_le c14
        rw [j_X4_wasted_84_e]
        refine sf_ite (fun c15 => ?_) (fun c15 => ?_)
        · have C15 : x2.toInt = (0 : Int) := ti_eq c15
          rw [j_X4_wasted_99_e]
          refine sf_ite (fun c16 => ?_) (fun c16 => ?_)
          · have C16 : (0 : Int) = (1 : Int) := ti_eq c16
            exfalso; omega
          have C16 : ¬ (0 : Int) = (1 : Int) := ti_ne c16
          rw [j_X4_wasted_124_e]
          rw [j_X4_wasted_125_e]
          have b17 := ti_lo (x4 ||| (0 : Int32))
          have b18 := ti_hi (x4 ||| (0 : Int32))
          have t19 : (x5 + (1 : Int32)).toInt = x5.toInt + (1 : Int) := ti_add (show -2147483648 ≤ x5.toInt + (1 : Int) by omega) (show x5.toInt + (1 : Int) ≤ 2147483647 by omega)
          exact ih _ _ _ hI Fσ Of15_σ Of34_σ Of1_σ Of30_σ Of18_σ (by omega) (by omega) (by omega)
        have C15 : ¬ x2.toInt = (0 : Int) := ti_ne c15
        rw [j_X4_wasted_99_e]
        refine sf_ite (fun c20 => ?_) (fun c20 => ?_)
        · have C20 : (0 : Int) = (0 : Int) := ti_eq c20
          refine sf_ite (fun c21 => ?_) (fun c21 => ?_)
          · have C21 : x2.toInt = (1 : Int) := ti_eq c21
            rw [j_X4_wasted_114_e]
            refine sf_ite (fun c22 => ?_) (fun c22 => ?_)
            · have C22 : (0 : Int) = (1 : Int) := ti_eq c22
              exfalso; omega
            have C22 : ¬ (0 : Int) = (1 : Int) := ti_ne c22
            rw [j_X4_wasted_124_e]
            rw [j_X4_wasted_125_e]
            have b23 := ti_lo (x4 ||| (0 : Int32))
            have b24 := ti_hi (x4 ||| (0 : Int32))
            have t25 : (x5 + (1 : Int32)).toInt = x5.toInt + (1 : Int) := ti_add (show -2147483648 ≤ x5.toInt + (1 : Int) by omega) (show x5.toInt + (1 : Int) ≤ 2147483647 by omega)
            exact ih _ _ _ hI Fσ Of15_σ Of34_σ Of1_σ Of30_σ Of18_σ (by omega) (by omega) (by omega)
          have C21 : ¬ x2.toInt = (1 : Int) := ti_ne c21
          exfalso; omega
        have C20 : ¬ (0 : Int) = (0 : Int) := ti_ne c20
        exfalso; omega
      have C14 : (0 : Int) < r9.toInt := ti_nle c14
      rw [j_X4_wasted_84_e]
      refine sf_ite (fun c26 => ?_) (fun c26 => ?_)
      · have C26 : x2.toInt = (0 : Int) := ti_eq c26
        rw [j_X4_wasted_99_e]
        refine sf_ite (fun c27 => ?_) (fun c27 => ?_)
        · have C27 : (0 : Int) = (1 : Int) := ti_eq c27
          exfalso; omega
        have C27 : ¬ (0 : Int) = (1 : Int) := ti_ne c27
        rw [j_X4_wasted_124_e]
        rw [j_X4_wasted_125_e]
        have b28 := ti_lo (x4 ||| (0 : Int32))
        have b29 := ti_hi (x4 ||| (0 : Int32))
        have t30 : (x5 + (1 : Int32)).toInt = x5.toInt + (1 : Int) := ti_add (show -2147483648 ≤ x5.toInt + (1 : Int) by omega) (show x5.toInt + (1 : Int) ≤ 2147483647 by omega)
        exact ih _ _ _ hI Fσ Of15_σ Of34_σ Of1_σ Of30_σ Of18_σ (by omega) (by omega) (by omega)
      have C26 : ¬ x2.toInt = (0 : Int) := ti_ne c26
      rw [j_X4_wasted_99_e]
      refine sf_ite (fun c31 => ?_) (fun c31 => ?_)
      · have C31 : (0 : Int) = (0 : Int) := ti_eq c31
        refine sf_ite (fun c32 => ?_) (fun c32 => ?_)
        · have C32 : x2.toInt = (1 : Int) := ti_eq c32
          rw [j_X4_wasted_114_e]
          refine sf_ite (fun c33 => ?_) (fun c33 => ?_)
          · have C33 : (1 : Int) = (1 : Int) := ti_eq c33
            rw [j_X4_wasted_125_e]
            have b34 := ti_lo (x4 ||| ((1 : Int32) <<< (x5 &&& 31)))
            have b35 := ti_hi (x4 ||| ((1 : Int32) <<< (x5 &&& 31)))
            have t36 : (x5 + (1 : Int32)).toInt = x5.toInt + (1 : Int) := ti_add (show -2147483648 ≤ x5.toInt + (1 : Int) by omega) (show x5.toInt + (1 : Int) ≤ 2147483647 by omega)
            exact ih _ _ _ hI Fσ Of15_σ Of34_σ Of1_σ Of30_σ Of18_σ (by omega) (by omega) (by omega)
          have C33 : ¬ (1 : Int) = (1 : Int) := ti_ne c33
          exfalso; omega
        have C32 : ¬ x2.toInt = (1 : Int) := ti_ne c32
        exfalso; omega
      have C31 : ¬ (0 : Int) = (0 : Int) := ti_ne c31
      exfalso; omega
    have C8 : (0 : Int) ≤ (σ 106 (Int32.toNatClampNeg (((24 : Int32) * x1) + x5))).toInt := ti_nlt c8
    rw [j_X4_wasted_67_e]
    refine sf_bnd (s_X4_pullOf hF hI (by omega) (by omega) (by omega) (by omega)) (fun r37 u38 p39 => ?_)
    obtain ⟨e9, p39_1, p39_2⟩ := p39
    have e9 := e9.symm
    subst e9
    have b40 := ti_lo r37
    have b41 := ti_hi r37
    refine sf_ite (fun c42 => ?_) (fun c42 => ?_)
    · have C42 : r37.toInt ≤ (0 : Int) := ti_le c42
      rw [j_X4_wasted_84_e]
      refine sf_ite (fun c43 => ?_) (fun c43 => ?_)
      · have C43 : x2.toInt = (0 : Int) := ti_eq c43
        rw [j_X4_wasted_99_e]
        refine sf_ite (fun c44 => ?_) (fun c44 => ?_)
        · have C44 : (1 : Int) = (1 : Int) := ti_eq c44
          refine sf_ite (fun c45 => ?_) (fun c45 => ?_)
          · have C45 : x2.toInt = (1 : Int) := ti_eq c45
            exfalso; omega
          have C45 : ¬ x2.toInt = (1 : Int) := ti_ne c45
          rw [j_X4_wasted_114_e]
          refine sf_ite (fun c46 => ?_) (fun c46 => ?_)
          · have C46 : (0 : Int) = (0 : Int) := ti_eq c46
            rw [j_X4_wasted_125_e]
            have b47 := ti_lo (x4 ||| ((1 : Int32) <<< (x5 &&& 31)))
            have b48 := ti_hi (x4 ||| ((1 : Int32) <<< (x5 &&& 31)))
            have t49 : (x5 + (1 : Int32)).toInt = x5.toInt + (1 : Int) := ti_add (show -2147483648 ≤ x5.toInt + (1 : Int) by omega) (show x5.toInt + (1 : Int) ≤ 2147483647 by omega)
            exact ih _ _ _ hI Fσ Of15_σ Of34_σ Of1_σ Of30_σ Of18_σ (by omega) (by omega) (by omega)
          have C46 : ¬ (0 : Int) = (0 : Int) := ti_ne c46
          exfalso; omega
        have C44 : ¬ (1 : Int) = (1 : Int) := ti_ne c44
        exfalso; omega
      have C43 : ¬ x2.toInt = (0 : Int) := ti_ne c43
      rw [j_X4_wasted_99_e]
      refine sf_ite (fun c50 => ?_) (fun c50 => ?_)
      · have C50 : (1 : Int) = (0 : Int) := ti_eq c50
        exfalso; omega
      have C50 : ¬ (1 : Int) = (0 : Int) := ti_ne c50
      rw [j_X4_wasted_124_e]
      rw [j_X4_wasted_125_e]
      have b51 := ti_lo (x4 ||| (0 : Int32))
      have b52 := ti_hi (x4 ||| (0 : Int32))
      have t53 : (x5 + (1 : Int32)).toInt = x5.toInt + (1 : Int) := ti_add (show -2147483648 ≤ x5.toInt + (1 : Int) by omega) (show x5.toInt + (1 : Int) ≤ 2147483647 by omega)
      exact ih _ _ _ hI Fσ Of15_σ Of34_σ Of1_σ Of30_σ Of18_σ (by omega) (by omega) (by omega)
    have C42 : (0 : Int) < r37.toInt := ti_nle c42
    rw [j_X4_wasted_84_e]
    refine sf_ite (fun c54 => ?_) (fun c54 => ?_)
    · have C54 : x2.toInt = (0 : Int) := ti_eq c54
      rw [j_X4_wasted_99_e]
      refine sf_ite (fun c55 => ?_) (fun c55 => ?_)
      · have C55 : (1 : Int) = (1 : Int) := ti_eq c55
        refine sf_ite (fun c56 => ?_) (fun c56 => ?_)
        · have C56 : x2.toInt = (1 : Int) := ti_eq c56
          exfalso; omega
        have C56 : ¬ x2.toInt = (1 : Int) := ti_ne c56
        rw [j_X4_wasted_114_e]
        refine sf_ite (fun c57 => ?_) (fun c57 => ?_)
        · have C57 : (1 : Int) = (0 : Int) := ti_eq c57
          exfalso; omega
        have C57 : ¬ (1 : Int) = (0 : Int) := ti_ne c57
        rw [j_X4_wasted_124_e]
        rw [j_X4_wasted_125_e]
        have b58 := ti_lo (x4 ||| (0 : Int32))
        have b59 := ti_hi (x4 ||| (0 : Int32))
        have t60 : (x5 + (1 : Int32)).toInt = x5.toInt + (1 : Int) := ti_add (show -2147483648 ≤ x5.toInt + (1 : Int) by omega) (show x5.toInt + (1 : Int) ≤ 2147483647 by omega)
        exact ih _ _ _ hI Fσ Of15_σ Of34_σ Of1_σ Of30_σ Of18_σ (by omega) (by omega) (by omega)
      have C55 : ¬ (1 : Int) = (1 : Int) := ti_ne c55
      exfalso; omega
    have C54 : ¬ x2.toInt = (0 : Int) := ti_ne c54
    rw [j_X4_wasted_99_e]
    refine sf_ite (fun c61 => ?_) (fun c61 => ?_)
    · have C61 : (1 : Int) = (0 : Int) := ti_eq c61
      exfalso; omega
    have C61 : ¬ (1 : Int) = (0 : Int) := ti_ne c61
    rw [j_X4_wasted_124_e]
    rw [j_X4_wasted_125_e]
    have b62 := ti_lo (x4 ||| (0 : Int32))
    have b63 := ti_hi (x4 ||| (0 : Int32))
    have t64 : (x5 + (1 : Int32)).toInt = x5.toInt + (1 : Int) := ti_add (show -2147483648 ≤ x5.toInt + (1 : Int) by omega) (show x5.toInt + (1 : Int) ≤ 2147483647 by omega)
    exact ih _ _ _ hI Fσ Of15_σ Of34_σ Of1_σ Of30_σ Of18_σ (by omega) (by omega) (by omega)
set_option maxHeartbeats 4000000 in
set_option maxRecDepth 100000 in
theorem s_X4_wasted {F : Nat} (hF : 73786976294838206464 ≤ F) {x1 : Int32} {x2 : Int32} {τ : Mem} (hI : wiM τ) : sf (f_X4_wasted F x1 x2 τ) (fun r s => wiM s ∧ (∀ k, k < 101 → s k = τ k) ∧ s 101 15 = τ 101 15 ∧ s 101 34 = τ 101 34 ∧ s 101 1 = τ 101 1 ∧ s 101 30 = τ 101 30 ∧ s 101 18 = τ 101 18 ∧ -2147483648 ≤ r.toInt ∧ r.toInt ≤ 2147483647) := by
  have Fτ : ∀ k, k < 101 → τ k = τ k := fun _ _ => rfl
  have Of15_τ : τ 101 15 = τ 101 15 := rfl
  have Of34_τ : τ 101 34 = τ 101 34 := rfl
  have Of1_τ : τ 101 1 = τ 101 1 := rfl
  have Of30_τ : τ 101 30 = τ 101 30 := rfl
  have Of18_τ : τ 101 18 = τ 101 18 := rfl
  rw [f_X4_wasted_e]
  refine sf_lt (fun s1 hs1 => ?_)
  have Is1 : wiM s1 := by rw [hs1]; exact wm_fld hI (by decide) (by decide) (by decide) (by decide) (by decide) (by decide) (by decide)
  have Fs1 : ∀ k, k < 101 → s1 k = τ k := fun k hk => (show s1 k = τ k by rw [hs1, up2_k (by omega)]).trans (Fτ k hk)
  have Of15_s1 : s1 101 15 = τ 101 15 := (show s1 101 15 = τ 101 15 by rw [hs1, up2_i (by decide)]).trans Of15_τ
  have Of34_s1 : s1 101 34 = τ 101 34 := (show s1 101 34 = τ 101 34 by rw [hs1, up2_i (by decide)]).trans Of34_τ
  have Of1_s1 : s1 101 1 = τ 101 1 := (show s1 101 1 = τ 101 1 by rw [hs1, up2_i (by decide)]).trans Of1_τ
  have Of30_s1 : s1 101 30 = τ 101 30 := (show s1 101 30 = τ 101 30 by rw [hs1, up2_i (by decide)]).trans Of30_τ
  have Of18_s1 : s1 101 18 = τ 101 18 := (show s1 101 18 = τ 101 18 by rw [hs1, up2_i (by decide)]).trans Of18_τ
  have b2 := ti_lo x1
  have b3 := ti_hi x1
  refine sf_bnd (s_X4_isLooker hF Is1) (fun r4 u5 p6 => ?_)
  obtain ⟨e9, p6⟩ := p6
  have e9 := e9.symm
  subst e9
  rcases p6 with ⟨rfl, q7, q8⟩ | p6
  · refine sf_ite (fun c9 => ?_) (fun c9 => ?_)
    · have C9 : (1 : Int) = (0 : Int) := ti_eq c9
      exfalso; omega
    have C9 : ¬ (1 : Int) = (0 : Int) := ti_ne c9
    refine sf_in ?_
    rw [f_X4_wrongBit_e]
    refine sf_ite (fun c10 => ?_) (fun c10 => ?_)
    · have C10 : (0 : Int) = (0 : Int) := ti_eq c10
      refine sf_in ?_
      rw [f_X4_in_e]
      have b11 := ti_lo x2
      have b12 := ti_hi x2
      have b13 := ti_lo (lg_cmp (Int32.toInt64 x2) (0 : Int64))
      have b14 := ti_hi (lg_cmp (Int32.toInt64 x2) (0 : Int64))
      refine sf_ite (fun c15 => ?_) (fun c15 => ?_)
      · have C15 : (lg_cmp (Int32.toInt64 x2) (0 : Int64)).toInt < (0 : Int) := ti_lt c15
        have L15 : x2.toInt < (0 : Int) := by have q := lg_ltl c15; (repeat (rw [Int32.toInt_toInt64] at q)); exact q
        rw [j_X4_in_17_e]
        refine sf_ret ?_
        refine sf_ite (fun c16 => ?_) (fun c16 => ?_)
        · have C16 : (0 : Int) = (0 : Int) := ti_eq c16
          refine sf_ret ?_
          rw [j_X4_wasted_23_e]
          refine sf_ite (fun c17 => ?_) (fun c17 => ?_)
          · have C17 : (0 : Int) ≤ (-2 : Int) := ti_le c17
            exfalso; omega
          have C17 : (-2 : Int) < (0 : Int) := ti_nle c17
          refine sf_bnd (s_X4_refuse hF Is1 (by decide) (by decide)) (fun r18 u19 p20 => ?_)
          obtain ⟨Iu19, Fu19_, Of15_u19_, Of34_u19_, Of1_u19_, Of30_u19_, Of18_u19_, p20_1, p20_2, p20_x0⟩ := p20
          have Fu19 : ∀ k, k < 101 → u19 k = τ k := fun k hk => (Fu19_ k hk).trans (Fs1 k hk)
          have Of15_u19 : u19 101 15 = τ 101 15 := Of15_u19_.trans Of15_s1
          have Of34_u19 : u19 101 34 = τ 101 34 := Of34_u19_.trans Of34_s1
          have Of1_u19 : u19 101 1 = τ 101 1 := Of1_u19_.trans Of1_s1
          have Of30_u19 : u19 101 30 = τ 101 30 := Of30_u19_.trans Of30_s1
          have Of18_u19 : u19 101 18 = τ 101 18 := Of18_u19_.trans Of18_s1
          replace p20_x0 : r18.toInt = (-2 : Int) := p20_x0
          exact sf_ret ⟨Iu19, Fu19, Of15_u19, Of34_u19, Of1_u19, Of30_u19, Of18_u19, ti_lo _, ti_hi _⟩
        have C16 : ¬ (0 : Int) = (0 : Int) := ti_ne c16
        exfalso; omega
      have C15 : (0 : Int) ≤ (lg_cmp (Int32.toInt64 x2) (0 : Int64)).toInt := ti_nlt c15
      have L15 : (0 : Int) ≤ x2.toInt := by have q := lg_ltln c15; (repeat (rw [Int32.toInt_toInt64] at q)); exact q
      have b21 := ti_lo (lg_cmp (Int32.toInt64 x2) (Int32.toInt64 (1 : Int32)))
      have b22 := ti_hi (lg_cmp (Int32.toInt64 x2) (Int32.toInt64 (1 : Int32)))
      refine sf_ite (fun c23 => ?_) (fun c23 => ?_)
      · have C23 : (0 : Int) < (lg_cmp (Int32.toInt64 x2) (Int32.toInt64 (1 : Int32))).toInt := ti_lt c23
        have L23 : (1 : Int) < x2.toInt := by have q := lg_ltr c23; (repeat (rw [Int32.toInt_toInt64] at q)); exact q
        rw [j_X4_in_17_e]
        refine sf_ret ?_
        refine sf_ite (fun c24 => ?_) (fun c24 => ?_)
        · have C24 : (0 : Int) = (0 : Int) := ti_eq c24
          refine sf_ret ?_
          rw [j_X4_wasted_23_e]
          refine sf_ite (fun c25 => ?_) (fun c25 => ?_)
          · have C25 : (0 : Int) ≤ (-2 : Int) := ti_le c25
            exfalso; omega
          have C25 : (-2 : Int) < (0 : Int) := ti_nle c25
          refine sf_bnd (s_X4_refuse hF Is1 (by decide) (by decide)) (fun r26 u27 p28 => ?_)
          obtain ⟨Iu27, Fu27_, Of15_u27_, Of34_u27_, Of1_u27_, Of30_u27_, Of18_u27_, p28_1, p28_2, p28_x0⟩ := p28
          have Fu27 : ∀ k, k < 101 → u27 k = τ k := fun k hk => (Fu27_ k hk).trans (Fs1 k hk)
          have Of15_u27 : u27 101 15 = τ 101 15 := Of15_u27_.trans Of15_s1
          have Of34_u27 : u27 101 34 = τ 101 34 := Of34_u27_.trans Of34_s1
          have Of1_u27 : u27 101 1 = τ 101 1 := Of1_u27_.trans Of1_s1
          have Of30_u27 : u27 101 30 = τ 101 30 := Of30_u27_.trans Of30_s1
          have Of18_u27 : u27 101 18 = τ 101 18 := Of18_u27_.trans Of18_s1
          replace p28_x0 : r26.toInt = (-2 : Int) := p28_x0
          exact sf_ret ⟨Iu27, Fu27, Of15_u27, Of34_u27, Of1_u27, Of30_u27, Of18_u27, ti_lo _, ti_hi _⟩
        have C24 : ¬ (0 : Int) = (0 : Int) := ti_ne c24
        exfalso; omega
      have C23 : (lg_cmp (Int32.toInt64 x2) (Int32.toInt64 (1 : Int32))).toInt ≤ (0 : Int) := ti_nlt c23
      have L23 : x2.toInt ≤ (1 : Int) := by have q := lg_ltrn c23; (repeat (rw [Int32.toInt_toInt64] at q)); exact q
      refine sf_ret ?_
      refine sf_ite (fun c29 => ?_) (fun c29 => ?_)
      · have C29 : (1 : Int) = (0 : Int) := ti_eq c29
        exfalso; omega
      have C29 : ¬ (1 : Int) = (0 : Int) := ti_ne c29
      rw [j_X4_wrongBit_20_e]
      refine sf_ret ?_
      rw [j_X4_wasted_23_e]
      refine sf_ite (fun c30 => ?_) (fun c30 => ?_)
      · have C30 : (0 : Int) ≤ (0 : Int) := ti_le c30
        have l_0 : (0 : Int32).toInt = 0 := rfl
        exact sl_X4_wasted_40 hF (by omega) (by omega) (by omega) (by omega) _ _ _ _ Is1 Fs1 Of15_s1 Of34_s1 Of1_s1 Of30_s1 Of18_s1 (by omega) (by decide) (by decide)
      have C30 : (0 : Int) < (0 : Int) := ti_nle c30
      exfalso; omega
    have C10 : ¬ (0 : Int) = (0 : Int) := ti_ne c10
    exfalso; omega
  obtain rfl := p6
  refine sf_ite (fun c31 => ?_) (fun c31 => ?_)
  · have C31 : (0 : Int) = (0 : Int) := ti_eq c31
    rw [j_X4_wasted_23_e]
    refine sf_ite (fun c32 => ?_) (fun c32 => ?_)
    · have C32 : (0 : Int) ≤ (-1 : Int) := ti_le c32
      exfalso; omega
    have C32 : (-1 : Int) < (0 : Int) := ti_nle c32
    refine sf_bnd (s_X4_refuse hF Is1 (by decide) (by decide)) (fun r33 u34 p35 => ?_)
    obtain ⟨Iu34, Fu34_, Of15_u34_, Of34_u34_, Of1_u34_, Of30_u34_, Of18_u34_, p35_1, p35_2, p35_x0⟩ := p35
    have Fu34 : ∀ k, k < 101 → u34 k = τ k := fun k hk => (Fu34_ k hk).trans (Fs1 k hk)
    have Of15_u34 : u34 101 15 = τ 101 15 := Of15_u34_.trans Of15_s1
    have Of34_u34 : u34 101 34 = τ 101 34 := Of34_u34_.trans Of34_s1
    have Of1_u34 : u34 101 1 = τ 101 1 := Of1_u34_.trans Of1_s1
    have Of30_u34 : u34 101 30 = τ 101 30 := Of30_u34_.trans Of30_s1
    have Of18_u34 : u34 101 18 = τ 101 18 := Of18_u34_.trans Of18_s1
    replace p35_x0 : r33.toInt = (-1 : Int) := p35_x0
    exact sf_ret ⟨Iu34, Fu34, Of15_u34, Of34_u34, Of1_u34, Of30_u34, Of18_u34, ti_lo _, ti_hi _⟩
  have C31 : ¬ (0 : Int) = (0 : Int) := ti_ne c31
  exfalso; omega
set_option maxHeartbeats 4000000 in
set_option maxRecDepth 100000 in
theorem sl_X4_ahead_26 {F : Nat} (hF : 73786976294838206464 ≤ F) {x1 : Int32} {x2 : Int32} {τ : Mem} (x1_1 : 0 ≤ x1.toInt) (x1_2 : x1.toInt ≤ 4) (x2_1 : 0 ≤ x2.toInt) (x2_2 : x2.toInt ≤ 4) : ∀ (N : Nat) (x3 : Int32) (σ : Mem), wiM σ → (∀ k, k < 101 → σ k = τ k) → σ 101 15 = τ 101 15 → σ 101 34 = τ 101 34 → σ 101 1 = τ 101 1 → σ 101 30 = τ 101 30 → σ 101 18 = τ 101 18 → 1000 < x3.toInt + N → 0 ≤ x3.toInt → x3.toInt ≤ 1000 → sf (lp_X4_ahead_26 F x1 x2 N x3 σ) (fun r s => wiM s ∧ (∀ k, k < 101 → s k = τ k) ∧ s 101 15 = τ 101 15 ∧ s 101 34 = τ 101 34 ∧ s 101 1 = τ 101 1 ∧ s 101 30 = τ 101 30 ∧ s 101 18 = τ 101 18 ∧ -2147483648 ≤ r.toInt ∧ r.toInt ≤ 2147483647) := by
  intro N
  induction N with
  | zero => intro x3 σ hI Fσ Of15_σ Of34_σ Of1_σ Of30_σ Of18_σ hN x3_1 x3_2; exfalso; omega
  | succ N ih =>
    intro x3 σ hI Fσ Of15_σ Of34_σ Of1_σ Of30_σ Of18_σ hN x3_1 x3_2
    rw [lp_X4_ahead_26_s]
    refine sf_ite (fun c1 => ?_) (fun c1 => ?_)
    · have C1 : (999 : Int) < x3.toInt := ti_lt c1
      exact sf_ret ⟨hI, Fσ, Of15_σ, Of34_σ, Of1_σ, Of30_σ, Of18_σ, ti_lo _, ti_hi _⟩
    have C1 : x3.toInt ≤ (999 : Int) := ti_nlt c1
    refine sf_bnd (s_X4_worthIn hF hI (by omega) (by omega) (by omega) (by omega)) (fun r2 u3 p4 => ?_)
    obtain ⟨Iu3, Fu3_, Of15_u3_, Of34_u3_, Of1_u3_, Of30_u3_, Of18_u3_, p4_1, p4_2⟩ := p4
    have Fu3 : ∀ k, k < 101 → u3 k = τ k := fun k hk => (Fu3_ k hk).trans (Fσ k hk)
    have Of15_u3 : u3 101 15 = τ 101 15 := Of15_u3_.trans Of15_σ
    have Of34_u3 : u3 101 34 = τ 101 34 := Of34_u3_.trans Of34_σ
    have Of1_u3 : u3 101 1 = τ 101 1 := Of1_u3_.trans Of1_σ
    have Of30_u3 : u3 101 30 = τ 101 30 := Of30_u3_.trans Of30_σ
    have Of18_u3 : u3 101 18 = τ 101 18 := Of18_u3_.trans Of18_σ
    refine sf_bnd (s_X4_worthIn hF Iu3 (by omega) (by omega) (by omega) (by omega)) (fun r5 u6 p7 => ?_)
    obtain ⟨Iu6, Fu6_, Of15_u6_, Of34_u6_, Of1_u6_, Of30_u6_, Of18_u6_, p7_1, p7_2⟩ := p7
    have Fu6 : ∀ k, k < 101 → u6 k = τ k := fun k hk => (Fu6_ k hk).trans (Fu3 k hk)
    have Of15_u6 : u6 101 15 = τ 101 15 := Of15_u6_.trans Of15_u3
    have Of34_u6 : u6 101 34 = τ 101 34 := Of34_u6_.trans Of34_u3
    have Of1_u6 : u6 101 1 = τ 101 1 := Of1_u6_.trans Of1_u3
    have Of30_u6 : u6 101 30 = τ 101 30 := Of30_u6_.trans Of30_u3
    have Of18_u6 : u6 101 18 = τ 101 18 := Of18_u6_.trans Of18_u3
    have b8 := ti_lo r2
    have b9 := ti_hi r2
    have b10 := ti_lo r5
    have b11 := ti_hi r5
    refine sf_ite (fun c12 => ?_) (fun c12 => ?_)
    · have C12 : r2.toInt ≤ r5.toInt := ti_le c12
      have t13 : (x3 + (1 : Int32)).toInt = x3.toInt + (1 : Int) := ti_add (show -2147483648 ≤ x3.toInt + (1 : Int) by omega) (show x3.toInt + (1 : Int) ≤ 2147483647 by omega)
      exact ih _ _ Iu6 Fu6 Of15_u6 Of34_u6 Of1_u6 Of30_u6 Of18_u6 (by omega) (by omega) (by omega)
    have C12 : r5.toInt < r2.toInt := ti_nle c12
    exact sf_ret ⟨Iu6, Fu6, Of15_u6, Of34_u6, Of1_u6, Of30_u6, Of18_u6, ti_lo _, ti_hi _⟩
set_option maxHeartbeats 4000000 in
set_option maxRecDepth 100000 in
theorem s_X4_ahead {F : Nat} (hF : 73786976294838206464 ≤ F) {x1 : Int32} {x2 : Int32} {τ : Mem} (hI : wiM τ) : sf (f_X4_ahead F x1 x2 τ) (fun r s => wiM s ∧ (∀ k, k < 101 → s k = τ k) ∧ s 101 15 = τ 101 15 ∧ s 101 34 = τ 101 34 ∧ s 101 1 = τ 101 1 ∧ s 101 30 = τ 101 30 ∧ s 101 18 = τ 101 18 ∧ -2147483648 ≤ r.toInt ∧ r.toInt ≤ 2147483647) := by
  have Fτ : ∀ k, k < 101 → τ k = τ k := fun _ _ => rfl
  have Of15_τ : τ 101 15 = τ 101 15 := rfl
  have Of34_τ : τ 101 34 = τ 101 34 := rfl
  have Of1_τ : τ 101 1 = τ 101 1 := rfl
  have Of30_τ : τ 101 30 = τ 101 30 := rfl
  have Of18_τ : τ 101 18 = τ 101 18 := rfl
  rw [f_X4_ahead_e]
  refine sf_lt (fun s1 hs1 => ?_)
  have Is1 : wiM s1 := by rw [hs1]; exact wm_fld hI (by decide) (by decide) (by decide) (by decide) (by decide) (by decide) (by decide)
  have Fs1 : ∀ k, k < 101 → s1 k = τ k := fun k hk => (show s1 k = τ k by rw [hs1, up2_k (by omega)]).trans (Fτ k hk)
  have Of15_s1 : s1 101 15 = τ 101 15 := (show s1 101 15 = τ 101 15 by rw [hs1, up2_i (by decide)]).trans Of15_τ
  have Of34_s1 : s1 101 34 = τ 101 34 := (show s1 101 34 = τ 101 34 by rw [hs1, up2_i (by decide)]).trans Of34_τ
  have Of1_s1 : s1 101 1 = τ 101 1 := (show s1 101 1 = τ 101 1 by rw [hs1, up2_i (by decide)]).trans Of1_τ
  have Of30_s1 : s1 101 30 = τ 101 30 := (show s1 101 30 = τ 101 30 by rw [hs1, up2_i (by decide)]).trans Of30_τ
  have Of18_s1 : s1 101 18 = τ 101 18 := (show s1 101 18 = τ 101 18 by rw [hs1, up2_i (by decide)]).trans Of18_τ
  have b2 := ti_lo x1
  have b3 := ti_hi x1
  have b4 := ti_lo x2
  have b5 := ti_hi x2
  refine sf_bnd (s_X4_areTwo hF Is1) (fun r6 u7 p8 => ?_)
  obtain ⟨e9, p8⟩ := p8
  have e9 := e9.symm
  subst e9
  rcases p8 with ⟨rfl, q9, q10, q11, q12⟩ | p8
  · refine sf_ite (fun c13 => ?_) (fun c13 => ?_)
    · have C13 : (1 : Int) = (0 : Int) := ti_eq c13
      exfalso; omega
    have C13 : ¬ (1 : Int) = (0 : Int) := ti_ne c13
    refine sf_bnd (s_X4_layBrings hF Is1) (fun r14 u15 p16 => ?_)
    obtain ⟨Iu15, Fu15_, Of15_u15_, Of34_u15_, Of1_u15_, Of30_u15_, Of18_u15_, -⟩ := p16
    have Fu15 : ∀ k, k < 101 → u15 k = τ k := fun k hk => (Fu15_ k hk).trans (Fs1 k hk)
    have Of15_u15 : u15 101 15 = τ 101 15 := Of15_u15_.trans Of15_s1
    have Of34_u15 : u15 101 34 = τ 101 34 := Of34_u15_.trans Of34_s1
    have Of1_u15 : u15 101 1 = τ 101 1 := Of1_u15_.trans Of1_s1
    have Of30_u15 : u15 101 30 = τ 101 30 := Of30_u15_.trans Of30_s1
    have Of18_u15 : u15 101 18 = τ 101 18 := Of18_u15_.trans Of18_s1
    have l_0 : (0 : Int32).toInt = 0 := rfl
    exact sl_X4_ahead_26 hF (by omega) (by omega) (by omega) (by omega) _ _ _ Iu15 Fu15 Of15_u15 Of34_u15 Of1_u15 Of30_u15 Of18_u15 (by omega) (by decide) (by decide)
  obtain rfl := p8
  refine sf_ite (fun c17 => ?_) (fun c17 => ?_)
  · have C17 : (0 : Int) = (0 : Int) := ti_eq c17
    refine sf_bnd (s_X4_refuse hF Is1 (by decide) (by decide)) (fun r18 u19 p20 => ?_)
    obtain ⟨Iu19, Fu19_, Of15_u19_, Of34_u19_, Of1_u19_, Of30_u19_, Of18_u19_, p20_1, p20_2, p20_x0⟩ := p20
    have Fu19 : ∀ k, k < 101 → u19 k = τ k := fun k hk => (Fu19_ k hk).trans (Fs1 k hk)
    have Of15_u19 : u19 101 15 = τ 101 15 := Of15_u19_.trans Of15_s1
    have Of34_u19 : u19 101 34 = τ 101 34 := Of34_u19_.trans Of34_s1
    have Of1_u19 : u19 101 1 = τ 101 1 := Of1_u19_.trans Of1_s1
    have Of30_u19 : u19 101 30 = τ 101 30 := Of30_u19_.trans Of30_s1
    have Of18_u19 : u19 101 18 = τ 101 18 := Of18_u19_.trans Of18_s1
    replace p20_x0 : r18.toInt = (-1 : Int) := p20_x0
    exact sf_ret ⟨Iu19, Fu19, Of15_u19, Of34_u19, Of1_u19, Of30_u19, Of18_u19, ti_lo _, ti_hi _⟩
  have C17 : ¬ (0 : Int) = (0 : Int) := ti_ne c17
  exfalso; omega
set_option maxHeartbeats 4000000 in
set_option maxRecDepth 100000 in
theorem sl_X4_bestLaw_55 {F : Nat} (hF : 73786976294838206464 ≤ F) {x1 : Int32} {x2 : Int32} {x4 : Int32} {τ : Mem} (x1_1 : 0 ≤ x1.toInt) (x1_2 : x1.toInt ≤ 4) (x2_1 : 0 ≤ x2.toInt) (x2_2 : x2.toInt ≤ 999) : ∀ (N : Nat) (x5 : Int32) (x6 : Int32) (x7 : Int32) (σ : Mem), wiM σ → (∀ k, k < 101 → σ k = τ k) → σ 101 15 = τ 101 15 → σ 101 34 = τ 101 34 → σ 101 1 = τ 101 1 → σ 101 30 = τ 101 30 → σ 101 18 = τ 101 18 → 3 < x7.toInt + N → 0 ≤ x5.toInt → x5.toInt ≤ 2 → -1 ≤ x6.toInt → x6.toInt ≤ 2147483647 → 0 ≤ x7.toInt → x7.toInt ≤ 3 → sf (lp_X4_bestLaw_55 F x1 x2 x4 N x5 x6 x7 σ) (fun r s => wiM s ∧ (∀ k, k < 101 → s k = τ k) ∧ s 101 15 = τ 101 15 ∧ s 101 34 = τ 101 34 ∧ s 101 1 = τ 101 1 ∧ s 101 30 = τ 101 30 ∧ s 101 18 = τ 101 18 ∧ -2147483648 ≤ r.toInt ∧ r.toInt ≤ 2147483647) := by
  intro N
  induction N with
  | zero => intro x5 x6 x7 σ hI Fσ Of15_σ Of34_σ Of1_σ Of30_σ Of18_σ hN x5_1 x5_2 x6_1 x6_2 x7_1 x7_2; exfalso; omega
  | succ N ih =>
    intro x5 x6 x7 σ hI Fσ Of15_σ Of34_σ Of1_σ Of30_σ Of18_σ hN x5_1 x5_2 x6_1 x6_2 x7_1 x7_2
    rw [lp_X4_bestLaw_55_s]
    refine sf_ite (fun c1 => ?_) (fun c1 => ?_)
    · have C1 : (3 : Int) ≤ x7.toInt := ti_le c1
      refine sf_lt (fun s2 hs2 => ?_)
      have Is2 : wiM s2 := by rw [hs2]; exact wm_fld hI (by decide) (by decide) (by decide) (by decide) (by decide) (by decide) (by decide)
      have Fs2 : ∀ k, k < 101 → s2 k = τ k := fun k hk => (show s2 k = σ k by rw [hs2, up2_k (by omega)]).trans (Fσ k hk)
      have Of15_s2 : s2 101 15 = τ 101 15 := (show s2 101 15 = σ 101 15 by rw [hs2, up2_i (by decide)]).trans Of15_σ
      have Of34_s2 : s2 101 34 = τ 101 34 := (show s2 101 34 = σ 101 34 by rw [hs2, up2_i (by decide)]).trans Of34_σ
      have Of1_s2 : s2 101 1 = τ 101 1 := (show s2 101 1 = σ 101 1 by rw [hs2, up2_i (by decide)]).trans Of1_σ
      have Of30_s2 : s2 101 30 = τ 101 30 := (show s2 101 30 = σ 101 30 by rw [hs2, up2_i (by decide)]).trans Of30_σ
      have Of18_s2 : s2 101 18 = τ 101 18 := (show s2 101 18 = σ 101 18 by rw [hs2, up2_i (by decide)]).trans Of18_σ
      exact sf_ret ⟨Is2, Fs2, Of15_s2, Of34_s2, Of1_s2, Of30_s2, Of18_s2, ti_lo _, ti_hi _⟩
    have C1 : x7.toInt < (3 : Int) := ti_nle c1
    refine sf_lt (fun s3 hs3 => ?_)
    have Is3 : wiM s3 := by rw [hs3]; exact wm_fld hI (by decide) (by decide) (by decide) (by decide) (by decide) (by decide) (by decide)
    have Fs3 : ∀ k, k < 101 → s3 k = τ k := fun k hk => (show s3 k = σ k by rw [hs3, up2_k (by omega)]).trans (Fσ k hk)
    have Of15_s3 : s3 101 15 = τ 101 15 := (show s3 101 15 = σ 101 15 by rw [hs3, up2_i (by decide)]).trans Of15_σ
    have Of34_s3 : s3 101 34 = τ 101 34 := (show s3 101 34 = σ 101 34 by rw [hs3, up2_i (by decide)]).trans Of34_σ
    have Of1_s3 : s3 101 1 = τ 101 1 := (show s3 101 1 = σ 101 1 by rw [hs3, up2_i (by decide)]).trans Of1_σ
    have Of30_s3 : s3 101 30 = τ 101 30 := (show s3 101 30 = σ 101 30 by rw [hs3, up2_i (by decide)]).trans Of30_σ
    have Of18_s3 : s3 101 18 = τ 101 18 := (show s3 101 18 = σ 101 18 by rw [hs3, up2_i (by decide)]).trans Of18_σ
    refine sf_bnd (s_X4_worthIn hF Is3 (by omega) (by omega) (by omega) (by omega)) (fun r4 u5 p6 => ?_)
    obtain ⟨Iu5, Fu5_, Of15_u5_, Of34_u5_, Of1_u5_, Of30_u5_, Of18_u5_, p6_1, p6_2⟩ := p6
    have Fu5 : ∀ k, k < 101 → u5 k = τ k := fun k hk => (Fu5_ k hk).trans (Fs3 k hk)
    have Of15_u5 : u5 101 15 = τ 101 15 := Of15_u5_.trans Of15_s3
    have Of34_u5 : u5 101 34 = τ 101 34 := Of34_u5_.trans Of34_s3
    have Of1_u5 : u5 101 1 = τ 101 1 := Of1_u5_.trans Of1_s3
    have Of30_u5 : u5 101 30 = τ 101 30 := Of30_u5_.trans Of30_s3
    have Of18_u5 : u5 101 18 = τ 101 18 := Of18_u5_.trans Of18_s3
    have b7 := ti_lo r4
    have b8 := ti_hi r4
    have b9 := ti_lo x6
    have b10 := ti_hi x6
    refine sf_ite (fun c11 => ?_) (fun c11 => ?_)
    · have C11 : r4.toInt ≤ x6.toInt := ti_le c11
      rw [j_X4_bestLaw_89_e]
      refine sf_ite (fun c12 => ?_) (fun c12 => ?_)
      · have C12 : r4.toInt ≤ x6.toInt := ti_le c12
        rw [j_X4_bestLaw_105_e]
        have t13 : (x7 + (1 : Int32)).toInt = x7.toInt + (1 : Int) := ti_add (show -2147483648 ≤ x7.toInt + (1 : Int) by omega) (show x7.toInt + (1 : Int) ≤ 2147483647 by omega)
        exact ih _ _ _ _ Iu5 Fu5 Of15_u5 Of34_u5 Of1_u5 Of30_u5 Of18_u5 (by omega) (by omega) (by omega) (by omega) (by omega) (by omega) (by omega)
      have C12 : x6.toInt < r4.toInt := ti_nle c12
      rw [j_X4_bestLaw_105_e]
      have t14 : (x7 + (1 : Int32)).toInt = x7.toInt + (1 : Int) := ti_add (show -2147483648 ≤ x7.toInt + (1 : Int) by omega) (show x7.toInt + (1 : Int) ≤ 2147483647 by omega)
      exact ih _ _ _ _ Iu5 Fu5 Of15_u5 Of34_u5 Of1_u5 Of30_u5 Of18_u5 (by omega) (by omega) (by omega) (by omega) (by omega) (by omega) (by omega)
    have C11 : x6.toInt < r4.toInt := ti_nle c11
    rw [j_X4_bestLaw_89_e]
    refine sf_ite (fun c15 => ?_) (fun c15 => ?_)
    · have C15 : r4.toInt ≤ x6.toInt := ti_le c15
      rw [j_X4_bestLaw_105_e]
      have t16 : (x7 + (1 : Int32)).toInt = x7.toInt + (1 : Int) := ti_add (show -2147483648 ≤ x7.toInt + (1 : Int) by omega) (show x7.toInt + (1 : Int) ≤ 2147483647 by omega)
      exact ih _ _ _ _ Iu5 Fu5 Of15_u5 Of34_u5 Of1_u5 Of30_u5 Of18_u5 (by omega) (by omega) (by omega) (by omega) (by omega) (by omega) (by omega)
    have C15 : x6.toInt < r4.toInt := ti_nle c15
    rw [j_X4_bestLaw_105_e]
    have t17 : (x7 + (1 : Int32)).toInt = x7.toInt + (1 : Int) := ti_add (show -2147483648 ≤ x7.toInt + (1 : Int) by omega) (show x7.toInt + (1 : Int) ≤ 2147483647 by omega)
    exact ih _ _ _ _ Iu5 Fu5 Of15_u5 Of34_u5 Of1_u5 Of30_u5 Of18_u5 (by omega) (by omega) (by omega) (by omega) (by omega) (by omega) (by omega)
set_option maxHeartbeats 4000000 in
set_option maxRecDepth 100000 in
theorem s_X4_bestLaw {F : Nat} (hF : 73786976294838206464 ≤ F) {x1 : Int32} {x2 : Int32} {τ : Mem} (hI : wiM τ) : sf (f_X4_bestLaw F x1 x2 τ) (fun r s => wiM s ∧ (∀ k, k < 101 → s k = τ k) ∧ s 101 15 = τ 101 15 ∧ s 101 34 = τ 101 34 ∧ s 101 1 = τ 101 1 ∧ s 101 30 = τ 101 30 ∧ s 101 18 = τ 101 18 ∧ -2147483648 ≤ r.toInt ∧ r.toInt ≤ 2147483647) := by
  have Fτ : ∀ k, k < 101 → τ k = τ k := fun _ _ => rfl
  have Of15_τ : τ 101 15 = τ 101 15 := rfl
  have Of34_τ : τ 101 34 = τ 101 34 := rfl
  have Of1_τ : τ 101 1 = τ 101 1 := rfl
  have Of30_τ : τ 101 30 = τ 101 30 := rfl
  have Of18_τ : τ 101 18 = τ 101 18 := rfl
  rw [f_X4_bestLaw_e]
  refine sf_lt (fun s1 hs1 => ?_)
  have Is1 : wiM s1 := by rw [hs1]; exact wm_fld hI (by decide) (by decide) (by decide) (by decide) (by decide) (by decide) (by decide)
  have Fs1 : ∀ k, k < 101 → s1 k = τ k := fun k hk => (show s1 k = τ k by rw [hs1, up2_k (by omega)]).trans (Fτ k hk)
  have Of15_s1 : s1 101 15 = τ 101 15 := (show s1 101 15 = τ 101 15 by rw [hs1, up2_i (by decide)]).trans Of15_τ
  have Of34_s1 : s1 101 34 = τ 101 34 := (show s1 101 34 = τ 101 34 by rw [hs1, up2_i (by decide)]).trans Of34_τ
  have Of1_s1 : s1 101 1 = τ 101 1 := (show s1 101 1 = τ 101 1 by rw [hs1, up2_i (by decide)]).trans Of1_τ
  have Of30_s1 : s1 101 30 = τ 101 30 := (show s1 101 30 = τ 101 30 by rw [hs1, up2_i (by decide)]).trans Of30_τ
  have Of18_s1 : s1 101 18 = τ 101 18 := (show s1 101 18 = τ 101 18 by rw [hs1, up2_i (by decide)]).trans Of18_τ
  have b2 := ti_lo x1
  have b3 := ti_hi x1
  refine sf_bnd (s_X4_isLooker hF Is1) (fun r4 u5 p6 => ?_)
  obtain ⟨e9, p6⟩ := p6
  have e9 := e9.symm
  subst e9
  rcases p6 with ⟨rfl, q7, q8⟩ | p6
  · refine sf_ite (fun c9 => ?_) (fun c9 => ?_)
    · have C9 : (1 : Int) = (0 : Int) := ti_eq c9
      exfalso; omega
    have C9 : ¬ (1 : Int) = (0 : Int) := ti_ne c9
    refine sf_in ?_
    rw [f_X4_wrongNumber_e]
    have b10 := ti_lo x2
    have b11 := ti_hi x2
    refine sf_ite (fun c12 => ?_) (fun c12 => ?_)
    · have C12 : (0 : Int) ≤ x2.toInt := ti_le c12
      refine sf_ite (fun c13 => ?_) (fun c13 => ?_)
      · have C13 : x2.toInt ≤ (999 : Int) := ti_le c13
        refine sf_ret ?_
        rw [j_X4_bestLaw_25_e]
        refine sf_ite (fun c14 => ?_) (fun c14 => ?_)
        · have C14 : (0 : Int) ≤ (0 : Int) := ti_le c14
          refine sf_bnd (s_X4_layBrings hF Is1) (fun r15 u16 p17 => ?_)
          obtain ⟨Iu16, Fu16_, Of15_u16_, Of34_u16_, Of1_u16_, Of30_u16_, Of18_u16_, -⟩ := p17
          have Fu16 : ∀ k, k < 101 → u16 k = τ k := fun k hk => (Fu16_ k hk).trans (Fs1 k hk)
          have Of15_u16 : u16 101 15 = τ 101 15 := Of15_u16_.trans Of15_s1
          have Of34_u16 : u16 101 34 = τ 101 34 := Of34_u16_.trans Of34_s1
          have Of1_u16 : u16 101 1 = τ 101 1 := Of1_u16_.trans Of1_s1
          have Of30_u16 : u16 101 30 = τ 101 30 := Of30_u16_.trans Of30_s1
          have Of18_u16 : u16 101 18 = τ 101 18 := Of18_u16_.trans Of18_s1
          have b18 := ti_lo (u16 101 8)
          have b19 := ti_hi (u16 101 8)
          have l_0 : (0 : Int32).toInt = 0 := rfl
          exact sl_X4_bestLaw_55 hF (by omega) (by omega) (by omega) (by omega) _ _ _ _ _ Iu16 Fu16 Of15_u16 Of34_u16 Of1_u16 Of30_u16 Of18_u16 (by omega) (by decide) (by decide) (by decide) (by decide) (by decide) (by decide)
        have C14 : (0 : Int) < (0 : Int) := ti_nle c14
        exfalso; omega
      have C13 : (999 : Int) < x2.toInt := ti_nle c13
      refine sf_ret ?_
      rw [j_X4_bestLaw_25_e]
      refine sf_ite (fun c20 => ?_) (fun c20 => ?_)
      · have C20 : (0 : Int) ≤ (-6 : Int) := ti_le c20
        exfalso; omega
      have C20 : (-6 : Int) < (0 : Int) := ti_nle c20
      refine sf_bnd (s_X4_refuse hF Is1 (by decide) (by decide)) (fun r21 u22 p23 => ?_)
      obtain ⟨Iu22, Fu22_, Of15_u22_, Of34_u22_, Of1_u22_, Of30_u22_, Of18_u22_, p23_1, p23_2, p23_x0⟩ := p23
      have Fu22 : ∀ k, k < 101 → u22 k = τ k := fun k hk => (Fu22_ k hk).trans (Fs1 k hk)
      have Of15_u22 : u22 101 15 = τ 101 15 := Of15_u22_.trans Of15_s1
      have Of34_u22 : u22 101 34 = τ 101 34 := Of34_u22_.trans Of34_s1
      have Of1_u22 : u22 101 1 = τ 101 1 := Of1_u22_.trans Of1_s1
      have Of30_u22 : u22 101 30 = τ 101 30 := Of30_u22_.trans Of30_s1
      have Of18_u22 : u22 101 18 = τ 101 18 := Of18_u22_.trans Of18_s1
      replace p23_x0 : r21.toInt = (-6 : Int) := p23_x0
      exact sf_ret ⟨Iu22, Fu22, Of15_u22, Of34_u22, Of1_u22, Of30_u22, Of18_u22, ti_lo _, ti_hi _⟩
    have C12 : x2.toInt < (0 : Int) := ti_nle c12
    refine sf_ret ?_
    rw [j_X4_bestLaw_25_e]
    refine sf_ite (fun c24 => ?_) (fun c24 => ?_)
    · have C24 : (0 : Int) ≤ (-4 : Int) := ti_le c24
      exfalso; omega
    have C24 : (-4 : Int) < (0 : Int) := ti_nle c24
    refine sf_bnd (s_X4_refuse hF Is1 (by decide) (by decide)) (fun r25 u26 p27 => ?_)
    obtain ⟨Iu26, Fu26_, Of15_u26_, Of34_u26_, Of1_u26_, Of30_u26_, Of18_u26_, p27_1, p27_2, p27_x0⟩ := p27
    have Fu26 : ∀ k, k < 101 → u26 k = τ k := fun k hk => (Fu26_ k hk).trans (Fs1 k hk)
    have Of15_u26 : u26 101 15 = τ 101 15 := Of15_u26_.trans Of15_s1
    have Of34_u26 : u26 101 34 = τ 101 34 := Of34_u26_.trans Of34_s1
    have Of1_u26 : u26 101 1 = τ 101 1 := Of1_u26_.trans Of1_s1
    have Of30_u26 : u26 101 30 = τ 101 30 := Of30_u26_.trans Of30_s1
    have Of18_u26 : u26 101 18 = τ 101 18 := Of18_u26_.trans Of18_s1
    replace p27_x0 : r25.toInt = (-4 : Int) := p27_x0
    exact sf_ret ⟨Iu26, Fu26, Of15_u26, Of34_u26, Of1_u26, Of30_u26, Of18_u26, ti_lo _, ti_hi _⟩
  obtain rfl := p6
  refine sf_ite (fun c28 => ?_) (fun c28 => ?_)
  · have C28 : (0 : Int) = (0 : Int) := ti_eq c28
    rw [j_X4_bestLaw_25_e]
    refine sf_ite (fun c29 => ?_) (fun c29 => ?_)
    · have C29 : (0 : Int) ≤ (-1 : Int) := ti_le c29
      exfalso; omega
    have C29 : (-1 : Int) < (0 : Int) := ti_nle c29
    refine sf_bnd (s_X4_refuse hF Is1 (by decide) (by decide)) (fun r30 u31 p32 => ?_)
    obtain ⟨Iu31, Fu31_, Of15_u31_, Of34_u31_, Of1_u31_, Of30_u31_, Of18_u31_, p32_1, p32_2, p32_x0⟩ := p32
    have Fu31 : ∀ k, k < 101 → u31 k = τ k := fun k hk => (Fu31_ k hk).trans (Fs1 k hk)
    have Of15_u31 : u31 101 15 = τ 101 15 := Of15_u31_.trans Of15_s1
    have Of34_u31 : u31 101 34 = τ 101 34 := Of34_u31_.trans Of34_s1
    have Of1_u31 : u31 101 1 = τ 101 1 := Of1_u31_.trans Of1_s1
    have Of30_u31 : u31 101 30 = τ 101 30 := Of30_u31_.trans Of30_s1
    have Of18_u31 : u31 101 18 = τ 101 18 := Of18_u31_.trans Of18_s1
    replace p32_x0 : r30.toInt = (-1 : Int) := p32_x0
    exact sf_ret ⟨Iu31, Fu31, Of15_u31, Of34_u31, Of1_u31, Of30_u31, Of18_u31, ti_lo _, ti_hi _⟩
  have C28 : ¬ (0 : Int) = (0 : Int) := ti_ne c28
  exfalso; omega
set_option maxHeartbeats 4000000 in
set_option maxRecDepth 100000 in
theorem sl_X4_newcomer_130 {F : Nat} (hF : 73786976294838206464 ≤ F) {x3 : Int32} {x5 : Int32} {x8 : Int32} {k113 : Int32 → Int32 → Int32 → Mem → Option (Int32 × Mem)} {τ : Mem} (x3_1 : 0 ≤ x3.toInt) (x3_2 : x3.toInt ≤ 1) (x5_1 : 0 ≤ x5.toInt) (x5_2 : x5.toInt ≤ 4) (x8_1 : 0 ≤ x8.toInt) (x8_2 : x8.toInt ≤ 999) {N113 : Nat} (hM113 : 1000 < x8.toInt + (N113 + 1)) (hk113 : ∀ (x6 : Int32) (x7 : Int32) (x8 : Int32) (σ : Mem), wiM σ → (∀ k, k < 101 → σ k = τ k) → σ 101 15 = τ 101 15 → σ 101 34 = τ 101 34 → σ 101 30 = τ 101 30 → σ 101 18 = τ 101 18 → 1000 < x8.toInt + N113 → -9 ≤ x6.toInt → x6.toInt ≤ 7 → -9 ≤ x7.toInt → x7.toInt ≤ 999 → 0 ≤ x8.toInt → x8.toInt ≤ 1000 → sf (k113 x6 x7 x8 σ) (fun r s => wiM s ∧ (∀ k, k < 101 → s k = τ k) ∧ s 101 15 = τ 101 15 ∧ s 101 34 = τ 101 34 ∧ s 101 30 = τ 101 30 ∧ s 101 18 = τ 101 18 ∧ -2147483648 ≤ r.toInt ∧ r.toInt ≤ 2147483647)) : ∀ (N : Nat) (x6 : Int32) (x7 : Int32) (x9 : Int32) (σ : Mem), wiM σ → (∀ k, k < 101 → σ k = τ k) → σ 101 15 = τ 101 15 → σ 101 34 = τ 101 34 → σ 101 30 = τ 101 30 → σ 101 18 = τ 101 18 → x9.toInt + 1 < N → -9 ≤ x6.toInt → x6.toInt ≤ 7 → -9 ≤ x7.toInt → x7.toInt ≤ 999 → -1 ≤ x9.toInt → x9.toInt ≤ 7 → sf (lp_X4_newcomer_130 F k113 x3 x5 x8 N x6 x7 x9 σ) (fun r s => wiM s ∧ (∀ k, k < 101 → s k = τ k) ∧ s 101 15 = τ 101 15 ∧ s 101 34 = τ 101 34 ∧ s 101 30 = τ 101 30 ∧ s 101 18 = τ 101 18 ∧ -2147483648 ≤ r.toInt ∧ r.toInt ≤ 2147483647) := by
  intro N
  induction N with
  | zero => intro x6 x7 x9 σ hI Fσ Of15_σ Of34_σ Of30_σ Of18_σ hN x6_1 x6_2 x7_1 x7_2 x9_1 x9_2; exfalso; omega
  | succ N ih =>
    intro x6 x7 x9 σ hI Fσ Of15_σ Of34_σ Of30_σ Of18_σ hN x6_1 x6_2 x7_1 x7_2 x9_1 x9_2
    rw [lp_X4_newcomer_130_s]
    refine sf_ite (fun c1 => ?_) (fun c1 => ?_)
    · have C1 : x9.toInt < (0 : Int) := ti_lt c1
      have t2 : (x8 + (1 : Int32)).toInt = x8.toInt + (1 : Int) := ti_add (show -2147483648 ≤ x8.toInt + (1 : Int) by omega) (show x8.toInt + (1 : Int) ≤ 2147483647 by omega)
      exact hk113 _ _ _ _ hI Fσ Of15_σ Of34_σ Of30_σ Of18_σ (by omega) (by omega) (by omega) (by omega) (by omega) (by omega) (by omega)
    have C1 : (0 : Int) ≤ x9.toInt := ti_nlt c1
    refine sf_bnd (s_X4_ownerIn hF hI (by omega) (by omega) (by omega) (by omega)) (fun r3 u4 p5 => ?_)
    obtain ⟨Iu4, Fu4_, Of15_u4_, Of34_u4_, Of1_u4_, Of30_u4_, Of18_u4_, p5_1, p5_2⟩ := p5
    have Fu4 : ∀ k, k < 101 → u4 k = τ k := fun k hk => (Fu4_ k hk).trans (Fσ k hk)
    have Of15_u4 : u4 101 15 = τ 101 15 := Of15_u4_.trans Of15_σ
    have Of34_u4 : u4 101 34 = τ 101 34 := Of34_u4_.trans Of34_σ
    have Of30_u4 : u4 101 30 = τ 101 30 := Of30_u4_.trans Of30_σ
    have Of18_u4 : u4 101 18 = τ 101 18 := Of18_u4_.trans Of18_σ
    refine sf_ite (fun c6 => ?_) (fun c6 => ?_)
    · have C6 : r3.toInt = x5.toInt := ti_eq c6
      rw [j_X4_newcomer_153_e]
      refine sf_ite (fun c7 => ?_) (fun c7 => ?_)
      · have C7 : (1 : Int) = (0 : Int) := ti_eq c7
        exfalso; omega
      have C7 : ¬ (1 : Int) = (0 : Int) := ti_ne c7
      rw [j_X4_newcomer_167_e]
      refine sf_ite (fun c8 => ?_) (fun c8 => ?_)
      · have C8 : (1 : Int) = (0 : Int) := ti_eq c8
        exfalso; omega
      have C8 : ¬ (1 : Int) = (0 : Int) := ti_ne c8
      rw [j_X4_newcomer_181_e]
      have t20 := ti_m1 (x := x9) (by omega)
      generalize x9 + (-1 : Int32) = x99 at t20 ⊢
      exact ih _ _ _ _ Iu4 Fu4 Of15_u4 Of34_u4 Of30_u4 Of18_u4 (by omega) (by omega) (by omega) (by omega) (by omega) (by omega) (by omega)
    have C6 : ¬ r3.toInt = x5.toInt := ti_ne c6
    rw [j_X4_newcomer_153_e]
    refine sf_ite (fun c10 => ?_) (fun c10 => ?_)
    · have C10 : (0 : Int) = (0 : Int) := ti_eq c10
      rw [j_X4_newcomer_167_e]
      refine sf_ite (fun c11 => ?_) (fun c11 => ?_)
      · have C11 : (0 : Int) = (0 : Int) := ti_eq c11
        rw [j_X4_newcomer_181_e]
        have t20 := ti_m1 (x := x9) (by omega)
        generalize x9 + (-1 : Int32) = x99 at t20 ⊢
        exact ih _ _ _ _ Iu4 Fu4 Of15_u4 Of34_u4 Of30_u4 Of18_u4 (by omega) (by omega) (by omega) (by omega) (by omega) (by omega) (by omega)
      have C11 : ¬ (0 : Int) = (0 : Int) := ti_ne c11
      exfalso; omega
    have C10 : ¬ (0 : Int) = (0 : Int) := ti_ne c10
    exfalso; omega
set_option maxHeartbeats 4000000 in
set_option maxRecDepth 100000 in
theorem sl_X4_newcomer_113 {F : Nat} (hF : 73786976294838206464 ≤ F) {x3 : Int32} {x5 : Int32} {τ : Mem} (x3_1 : 0 ≤ x3.toInt) (x3_2 : x3.toInt ≤ 1) (x5_1 : 0 ≤ x5.toInt) (x5_2 : x5.toInt ≤ 4) : ∀ (N : Nat) (x6 : Int32) (x7 : Int32) (x8 : Int32) (σ : Mem), wiM σ → (∀ k, k < 101 → σ k = τ k) → σ 101 15 = τ 101 15 → σ 101 34 = τ 101 34 → σ 101 30 = τ 101 30 → σ 101 18 = τ 101 18 → 1000 < x8.toInt + N → -9 ≤ x6.toInt → x6.toInt ≤ 7 → -9 ≤ x7.toInt → x7.toInt ≤ 999 → 0 ≤ x8.toInt → x8.toInt ≤ 1000 → sf (lp_X4_newcomer_113 F x3 x5 N x6 x7 x8 σ) (fun r s => wiM s ∧ (∀ k, k < 101 → s k = τ k) ∧ s 101 15 = τ 101 15 ∧ s 101 34 = τ 101 34 ∧ s 101 30 = τ 101 30 ∧ s 101 18 = τ 101 18 ∧ -2147483648 ≤ r.toInt ∧ r.toInt ≤ 2147483647) := by
  intro N
  induction N with
  | zero => intro x6 x7 x8 σ hI Fσ Of15_σ Of34_σ Of30_σ Of18_σ hN x6_1 x6_2 x7_1 x7_2 x8_1 x8_2; exfalso; omega
  | succ N ih =>
    intro x6 x7 x8 σ hI Fσ Of15_σ Of34_σ Of30_σ Of18_σ hN x6_1 x6_2 x7_1 x7_2 x8_1 x8_2
    rw [lp_X4_newcomer_113_s]
    refine sf_ite (fun c1 => ?_) (fun c1 => ?_)
    · have C1 : (999 : Int) < x8.toInt := ti_lt c1
      rw [j_X4_newcomer_195_e]
      refine sf_bnd (s_X4_stand hF hI (by omega) (by omega) (by decide) (by decide) (by decide) (by decide) (by first | omega | decide)) (fun r2 u3 p4 => ?_)
      obtain ⟨Iu3, Fu3_, Of15_u3_, Of34_u3_, Of1_u3_, Of30_u3_, Of18_u3_, -⟩ := p4
      have Fu3 : ∀ k, k < 101 → u3 k = τ k := fun k hk => (Fu3_ k hk).trans (Fσ k hk)
      have Of15_u3 : u3 101 15 = τ 101 15 := Of15_u3_.trans Of15_σ
      have Of34_u3 : u3 101 34 = τ 101 34 := Of34_u3_.trans Of34_σ
      have Of30_u3 : u3 101 30 = τ 101 30 := Of30_u3_.trans Of30_σ
      have Of18_u3 : u3 101 18 = τ 101 18 := Of18_u3_.trans Of18_σ
      refine sf_bnd (s_X4_again hF Iu3) (fun r5 u6 p7 => ?_)
      obtain ⟨Iu6, Fu6_, Of15_u6_, Of34_u6_, Of30_u6_, Of18_u6_, -⟩ := p7
      have Fu6 : ∀ k, k < 101 → u6 k = τ k := fun k hk => (Fu6_ k hk).trans (Fu3 k hk)
      have Of15_u6 : u6 101 15 = τ 101 15 := Of15_u6_.trans Of15_u3
      have Of34_u6 : u6 101 34 = τ 101 34 := Of34_u6_.trans Of34_u3
      have Of30_u6 : u6 101 30 = τ 101 30 := Of30_u6_.trans Of30_u3
      have Of18_u6 : u6 101 18 = τ 101 18 := Of18_u6_.trans Of18_u3
      refine sf_ite (fun c8 => ?_) (fun c8 => ?_)
      · have C8 : x3.toInt = (0 : Int) := ti_eq c8
        exact sf_ret ⟨Iu6, Fu6, Of15_u6, Of34_u6, Of30_u6, Of18_u6, ti_lo _, ti_hi _⟩
      have C8 : ¬ x3.toInt = (0 : Int) := ti_ne c8
      exact sf_ret ⟨Iu6, Fu6, Of15_u6, Of34_u6, Of30_u6, Of18_u6, ti_lo _, ti_hi _⟩
    have C1 : x8.toInt ≤ (999 : Int) := ti_nlt c1
    refine sf_ite (fun c9 => ?_) (fun c9 => ?_)
    · have C9 : (0 : Int) ≤ x7.toInt := ti_le c9
      rw [j_X4_newcomer_195_e]
      refine sf_bnd (s_X4_stand hF hI (by omega) (by omega) (by decide) (by decide) (by decide) (by decide) (by first | omega | decide)) (fun r10 u11 p12 => ?_)
      obtain ⟨Iu11, Fu11_, Of15_u11_, Of34_u11_, Of1_u11_, Of30_u11_, Of18_u11_, -⟩ := p12
      have Fu11 : ∀ k, k < 101 → u11 k = τ k := fun k hk => (Fu11_ k hk).trans (Fσ k hk)
      have Of15_u11 : u11 101 15 = τ 101 15 := Of15_u11_.trans Of15_σ
      have Of34_u11 : u11 101 34 = τ 101 34 := Of34_u11_.trans Of34_σ
      have Of30_u11 : u11 101 30 = τ 101 30 := Of30_u11_.trans Of30_σ
      have Of18_u11 : u11 101 18 = τ 101 18 := Of18_u11_.trans Of18_σ
      refine sf_bnd (s_X4_again hF Iu11) (fun r13 u14 p15 => ?_)
      obtain ⟨Iu14, Fu14_, Of15_u14_, Of34_u14_, Of30_u14_, Of18_u14_, -⟩ := p15
      have Fu14 : ∀ k, k < 101 → u14 k = τ k := fun k hk => (Fu14_ k hk).trans (Fu11 k hk)
      have Of15_u14 : u14 101 15 = τ 101 15 := Of15_u14_.trans Of15_u11
      have Of34_u14 : u14 101 34 = τ 101 34 := Of34_u14_.trans Of34_u11
      have Of30_u14 : u14 101 30 = τ 101 30 := Of30_u14_.trans Of30_u11
      have Of18_u14 : u14 101 18 = τ 101 18 := Of18_u14_.trans Of18_u11
      refine sf_ite (fun c16 => ?_) (fun c16 => ?_)
      · have C16 : x3.toInt = (0 : Int) := ti_eq c16
        exact sf_ret ⟨Iu14, Fu14, Of15_u14, Of34_u14, Of30_u14, Of18_u14, ti_lo _, ti_hi _⟩
      have C16 : ¬ x3.toInt = (0 : Int) := ti_ne c16
      exact sf_ret ⟨Iu14, Fu14, Of15_u14, Of34_u14, Of30_u14, Of18_u14, ti_lo _, ti_hi _⟩
    have C9 : x7.toInt < (0 : Int) := ti_nle c9
    have l_7 : (7 : Int32).toInt = 7 := rfl
    exact sl_X4_newcomer_130 hF (by omega) (by omega) (by omega) (by omega) (by omega) (by omega) (by omega) ih _ _ _ _ _ hI Fσ Of15_σ Of34_σ Of30_σ Of18_σ (by omega) (by omega) (by omega) (by omega) (by omega) (by decide) (by decide)
set_option maxHeartbeats 4000000 in
set_option maxRecDepth 100000 in
theorem s_X4_newcomer {F : Nat} (hF : 73786976294838206464 ≤ F) {x1 : Int32} {x2 : Int32} {x3 : Int32} {τ : Mem} (hI : wiM τ) : sf (f_X4_newcomer F x1 x2 x3 τ) (fun r s => wiM s ∧ (∀ k, k < 101 → s k = τ k) ∧ s 101 15 = τ 101 15 ∧ s 101 34 = τ 101 34 ∧ s 101 30 = τ 101 30 ∧ s 101 18 = τ 101 18 ∧ -2147483648 ≤ r.toInt ∧ r.toInt ≤ 2147483647) := by
  have Fτ : ∀ k, k < 101 → τ k = τ k := fun _ _ => rfl
  have Of15_τ : τ 101 15 = τ 101 15 := rfl
  have Of34_τ : τ 101 34 = τ 101 34 := rfl
  have Of1_τ : τ 101 1 = τ 101 1 := rfl
  have Of30_τ : τ 101 30 = τ 101 30 := rfl
  have Of18_τ : τ 101 18 = τ 101 18 := rfl
  rw [f_X4_newcomer_e]
  refine sf_lt (fun s1 hs1 => ?_)
  have Is1 : wiM s1 := by rw [hs1]; exact wm_fld hI (by decide) (by decide) (by decide) (by decide) (by decide) (by decide) (by decide)
  have Fs1 : ∀ k, k < 101 → s1 k = τ k := fun k hk => (show s1 k = τ k by rw [hs1, up2_k (by omega)]).trans (Fτ k hk)
  have Of15_s1 : s1 101 15 = τ 101 15 := (show s1 101 15 = τ 101 15 by rw [hs1, up2_i (by decide)]).trans Of15_τ
  have Of34_s1 : s1 101 34 = τ 101 34 := (show s1 101 34 = τ 101 34 by rw [hs1, up2_i (by decide)]).trans Of34_τ
  have Of1_s1 : s1 101 1 = τ 101 1 := (show s1 101 1 = τ 101 1 by rw [hs1, up2_i (by decide)]).trans Of1_τ
  have Of30_s1 : s1 101 30 = τ 101 30 := (show s1 101 30 = τ 101 30 by rw [hs1, up2_i (by decide)]).trans Of30_τ
  have Of18_s1 : s1 101 18 = τ 101 18 := (show s1 101 18 = τ 101 18 by rw [hs1, up2_i (by decide)]).trans Of18_τ
  have b2 := ti_lo x2
  have b3 := ti_hi x2
  refine sf_bnd (s_X4_isPane hF Is1) (fun r4 u5 p6 => ?_)
  obtain ⟨e9, p6⟩ := p6
  have e9 := e9.symm
  subst e9
  rcases p6 with ⟨rfl, q7, q8⟩ | p6
  · refine sf_ite (fun c9 => ?_) (fun c9 => ?_)
    · have C9 : (1 : Int) = (0 : Int) := ti_eq c9
      exfalso; omega
    have C9 : ¬ (1 : Int) = (0 : Int) := ti_ne c9
    refine sf_in ?_
    rw [f_X4_in_e]
    have b10 := ti_lo x1
    have b11 := ti_hi x1
    have b12 := ti_lo (lg_cmp (Int32.toInt64 x1) (0 : Int64))
    have b13 := ti_hi (lg_cmp (Int32.toInt64 x1) (0 : Int64))
    refine sf_ite (fun c14 => ?_) (fun c14 => ?_)
    · have C14 : (lg_cmp (Int32.toInt64 x1) (0 : Int64)).toInt < (0 : Int) := ti_lt c14
      have L14 : x1.toInt < (0 : Int) := by have q := lg_ltl c14; (repeat (rw [Int32.toInt_toInt64] at q)); exact q
      rw [j_X4_in_17_e]
      refine sf_ret ?_
      refine sf_ite (fun c15 => ?_) (fun c15 => ?_)
      · have C15 : (0 : Int) = (0 : Int) := ti_eq c15
        rw [j_X4_newcomer_39_e]
        rw [j_X4_newcomer_58_e]
        refine sf_ite (fun c16 => ?_) (fun c16 => ?_)
        · have C16 : (0 : Int) ≤ (-2 : Int) := ti_le c16
          exfalso; omega
        have C16 : (-2 : Int) < (0 : Int) := ti_nle c16
        refine sf_bnd (s_X4_refuse hF Is1 (by decide) (by decide)) (fun r17 u18 p19 => ?_)
        obtain ⟨Iu18, Fu18_, Of15_u18_, Of34_u18_, Of1_u18_, Of30_u18_, Of18_u18_, p19_1, p19_2, p19_x0⟩ := p19
        have Fu18 : ∀ k, k < 101 → u18 k = τ k := fun k hk => (Fu18_ k hk).trans (Fs1 k hk)
        have Of15_u18 : u18 101 15 = τ 101 15 := Of15_u18_.trans Of15_s1
        have Of34_u18 : u18 101 34 = τ 101 34 := Of34_u18_.trans Of34_s1
        have Of1_u18 : u18 101 1 = τ 101 1 := Of1_u18_.trans Of1_s1
        have Of30_u18 : u18 101 30 = τ 101 30 := Of30_u18_.trans Of30_s1
        have Of18_u18 : u18 101 18 = τ 101 18 := Of18_u18_.trans Of18_s1
        replace p19_x0 : r17.toInt = (-2 : Int) := p19_x0
        exact sf_ret ⟨Iu18, Fu18, Of15_u18, Of34_u18, Of30_u18, Of18_u18, ti_lo _, ti_hi _⟩
      have C15 : ¬ (0 : Int) = (0 : Int) := ti_ne c15
      exfalso; omega
    have C14 : (0 : Int) ≤ (lg_cmp (Int32.toInt64 x1) (0 : Int64)).toInt := ti_nlt c14
    have L14 : (0 : Int) ≤ x1.toInt := by have q := lg_ltln c14; (repeat (rw [Int32.toInt_toInt64] at q)); exact q
    have b20 := ti_lo (lg_cmp (Int32.toInt64 x1) (5 : Int64))
    have b21 := ti_hi (lg_cmp (Int32.toInt64 x1) (5 : Int64))
    refine sf_ite (fun c22 => ?_) (fun c22 => ?_)
    · have C22 : (0 : Int) < (lg_cmp (Int32.toInt64 x1) (5 : Int64)).toInt := ti_lt c22
      have L22 : (5 : Int) < x1.toInt := by have q := lg_ltr c22; (repeat (rw [Int32.toInt_toInt64] at q)); exact q
      rw [j_X4_in_17_e]
      refine sf_ret ?_
      refine sf_ite (fun c23 => ?_) (fun c23 => ?_)
      · have C23 : (0 : Int) = (0 : Int) := ti_eq c23
        rw [j_X4_newcomer_39_e]
        rw [j_X4_newcomer_58_e]
        refine sf_ite (fun c24 => ?_) (fun c24 => ?_)
        · have C24 : (0 : Int) ≤ (-2 : Int) := ti_le c24
          exfalso; omega
        have C24 : (-2 : Int) < (0 : Int) := ti_nle c24
        refine sf_bnd (s_X4_refuse hF Is1 (by decide) (by decide)) (fun r25 u26 p27 => ?_)
        obtain ⟨Iu26, Fu26_, Of15_u26_, Of34_u26_, Of1_u26_, Of30_u26_, Of18_u26_, p27_1, p27_2, p27_x0⟩ := p27
        have Fu26 : ∀ k, k < 101 → u26 k = τ k := fun k hk => (Fu26_ k hk).trans (Fs1 k hk)
        have Of15_u26 : u26 101 15 = τ 101 15 := Of15_u26_.trans Of15_s1
        have Of34_u26 : u26 101 34 = τ 101 34 := Of34_u26_.trans Of34_s1
        have Of1_u26 : u26 101 1 = τ 101 1 := Of1_u26_.trans Of1_s1
        have Of30_u26 : u26 101 30 = τ 101 30 := Of30_u26_.trans Of30_s1
        have Of18_u26 : u26 101 18 = τ 101 18 := Of18_u26_.trans Of18_s1
        replace p27_x0 : r25.toInt = (-2 : Int) := p27_x0
        exact sf_ret ⟨Iu26, Fu26, Of15_u26, Of34_u26, Of30_u26, Of18_u26, ti_lo _, ti_hi _⟩
      have C23 : ¬ (0 : Int) = (0 : Int) := ti_ne c23
      exfalso; omega
    have C22 : (lg_cmp (Int32.toInt64 x1) (5 : Int64)).toInt ≤ (0 : Int) := ti_nlt c22
    have L22 : x1.toInt ≤ (5 : Int) := by have q := lg_ltrn c22; (repeat (rw [Int32.toInt_toInt64] at q)); exact q
    refine sf_ret ?_
    refine sf_ite (fun c28 => ?_) (fun c28 => ?_)
    · have C28 : (1 : Int) = (0 : Int) := ti_eq c28
      exfalso; omega
    have C28 : ¬ (1 : Int) = (0 : Int) := ti_ne c28
    refine sf_in ?_
    rw [f_X4_in_e]
    have b29 := ti_lo x3
    have b30 := ti_hi x3
    have b31 := ti_lo (lg_cmp (Int32.toInt64 x3) (0 : Int64))
    have b32 := ti_hi (lg_cmp (Int32.toInt64 x3) (0 : Int64))
    refine sf_ite (fun c33 => ?_) (fun c33 => ?_)
    · have C33 : (lg_cmp (Int32.toInt64 x3) (0 : Int64)).toInt < (0 : Int) := ti_lt c33
      have L33 : x3.toInt < (0 : Int) := by have q := lg_ltl c33; (repeat (rw [Int32.toInt_toInt64] at q)); exact q
      rw [j_X4_in_17_e]
      refine sf_ret ?_
      refine sf_ite (fun c34 => ?_) (fun c34 => ?_)
      · have C34 : (0 : Int) = (0 : Int) := ti_eq c34
        rw [j_X4_newcomer_39_e]
        rw [j_X4_newcomer_58_e]
        refine sf_ite (fun c35 => ?_) (fun c35 => ?_)
        · have C35 : (0 : Int) ≤ (-2 : Int) := ti_le c35
          exfalso; omega
        have C35 : (-2 : Int) < (0 : Int) := ti_nle c35
        refine sf_bnd (s_X4_refuse hF Is1 (by decide) (by decide)) (fun r36 u37 p38 => ?_)
        obtain ⟨Iu37, Fu37_, Of15_u37_, Of34_u37_, Of1_u37_, Of30_u37_, Of18_u37_, p38_1, p38_2, p38_x0⟩ := p38
        have Fu37 : ∀ k, k < 101 → u37 k = τ k := fun k hk => (Fu37_ k hk).trans (Fs1 k hk)
        have Of15_u37 : u37 101 15 = τ 101 15 := Of15_u37_.trans Of15_s1
        have Of34_u37 : u37 101 34 = τ 101 34 := Of34_u37_.trans Of34_s1
        have Of1_u37 : u37 101 1 = τ 101 1 := Of1_u37_.trans Of1_s1
        have Of30_u37 : u37 101 30 = τ 101 30 := Of30_u37_.trans Of30_s1
        have Of18_u37 : u37 101 18 = τ 101 18 := Of18_u37_.trans Of18_s1
        replace p38_x0 : r36.toInt = (-2 : Int) := p38_x0
        exact sf_ret ⟨Iu37, Fu37, Of15_u37, Of34_u37, Of30_u37, Of18_u37, ti_lo _, ti_hi _⟩
      have C34 : ¬ (0 : Int) = (0 : Int) := ti_ne c34
      exfalso; omega
    have C33 : (0 : Int) ≤ (lg_cmp (Int32.toInt64 x3) (0 : Int64)).toInt := ti_nlt c33
    have L33 : (0 : Int) ≤ x3.toInt := by have q := lg_ltln c33; (repeat (rw [Int32.toInt_toInt64] at q)); exact q
    have b39 := ti_lo (lg_cmp (Int32.toInt64 x3) (1 : Int64))
    have b40 := ti_hi (lg_cmp (Int32.toInt64 x3) (1 : Int64))
    refine sf_ite (fun c41 => ?_) (fun c41 => ?_)
    · have C41 : (0 : Int) < (lg_cmp (Int32.toInt64 x3) (1 : Int64)).toInt := ti_lt c41
      have L41 : (1 : Int) < x3.toInt := by have q := lg_ltr c41; (repeat (rw [Int32.toInt_toInt64] at q)); exact q
      rw [j_X4_in_17_e]
      refine sf_ret ?_
      refine sf_ite (fun c42 => ?_) (fun c42 => ?_)
      · have C42 : (0 : Int) = (0 : Int) := ti_eq c42
        rw [j_X4_newcomer_39_e]
        rw [j_X4_newcomer_58_e]
        refine sf_ite (fun c43 => ?_) (fun c43 => ?_)
        · have C43 : (0 : Int) ≤ (-2 : Int) := ti_le c43
          exfalso; omega
        have C43 : (-2 : Int) < (0 : Int) := ti_nle c43
        refine sf_bnd (s_X4_refuse hF Is1 (by decide) (by decide)) (fun r44 u45 p46 => ?_)
        obtain ⟨Iu45, Fu45_, Of15_u45_, Of34_u45_, Of1_u45_, Of30_u45_, Of18_u45_, p46_1, p46_2, p46_x0⟩ := p46
        have Fu45 : ∀ k, k < 101 → u45 k = τ k := fun k hk => (Fu45_ k hk).trans (Fs1 k hk)
        have Of15_u45 : u45 101 15 = τ 101 15 := Of15_u45_.trans Of15_s1
        have Of34_u45 : u45 101 34 = τ 101 34 := Of34_u45_.trans Of34_s1
        have Of1_u45 : u45 101 1 = τ 101 1 := Of1_u45_.trans Of1_s1
        have Of30_u45 : u45 101 30 = τ 101 30 := Of30_u45_.trans Of30_s1
        have Of18_u45 : u45 101 18 = τ 101 18 := Of18_u45_.trans Of18_s1
        replace p46_x0 : r44.toInt = (-2 : Int) := p46_x0
        exact sf_ret ⟨Iu45, Fu45, Of15_u45, Of34_u45, Of30_u45, Of18_u45, ti_lo _, ti_hi _⟩
      have C42 : ¬ (0 : Int) = (0 : Int) := ti_ne c42
      exfalso; omega
    have C41 : (lg_cmp (Int32.toInt64 x3) (1 : Int64)).toInt ≤ (0 : Int) := ti_nlt c41
    have L41 : x3.toInt ≤ (1 : Int) := by have q := lg_ltrn c41; (repeat (rw [Int32.toInt_toInt64] at q)); exact q
    refine sf_ret ?_
    refine sf_ite (fun c47 => ?_) (fun c47 => ?_)
    · have C47 : (1 : Int) = (0 : Int) := ti_eq c47
      exfalso; omega
    have C47 : ¬ (1 : Int) = (0 : Int) := ti_ne c47
    have m48 := wx_X4_3 Is1
    have m49 := wx_X4_3 hI
    have e50 : (s1 101 3).toInt = (τ 101 3).toInt := congrArg Int32.toInt (by rw [hs1, up2_i (by decide)])
    refine sf_ite (fun c51 => ?_) (fun c51 => ?_)
    · have C51 : (s1 101 3).toInt = (5 : Int) := ti_eq c51
      rw [j_X4_newcomer_58_e]
      refine sf_ite (fun c52 => ?_) (fun c52 => ?_)
      · have C52 : (0 : Int) ≤ (-3 : Int) := ti_le c52
        exfalso; omega
      have C52 : (-3 : Int) < (0 : Int) := ti_nle c52
      refine sf_bnd (s_X4_refuse hF Is1 (by decide) (by decide)) (fun r53 u54 p55 => ?_)
      obtain ⟨Iu54, Fu54_, Of15_u54_, Of34_u54_, Of1_u54_, Of30_u54_, Of18_u54_, p55_1, p55_2, p55_x0⟩ := p55
      have Fu54 : ∀ k, k < 101 → u54 k = τ k := fun k hk => (Fu54_ k hk).trans (Fs1 k hk)
      have Of15_u54 : u54 101 15 = τ 101 15 := Of15_u54_.trans Of15_s1
      have Of34_u54 : u54 101 34 = τ 101 34 := Of34_u54_.trans Of34_s1
      have Of1_u54 : u54 101 1 = τ 101 1 := Of1_u54_.trans Of1_s1
      have Of30_u54 : u54 101 30 = τ 101 30 := Of30_u54_.trans Of30_s1
      have Of18_u54 : u54 101 18 = τ 101 18 := Of18_u54_.trans Of18_s1
      replace p55_x0 : r53.toInt = (-3 : Int) := p55_x0
      exact sf_ret ⟨Iu54, Fu54, Of15_u54, Of34_u54, Of30_u54, Of18_u54, ti_lo _, ti_hi _⟩
    have C51 : ¬ (s1 101 3).toInt = (5 : Int) := ti_ne c51
    rw [j_X4_newcomer_58_e]
    refine sf_ite (fun c56 => ?_) (fun c56 => ?_)
    · have C56 : (0 : Int) ≤ (0 : Int) := ti_le c56
      have m57 := wx_X4_1 Is1
      have m58 := wx_X4_1 hI
      have e59 : (s1 101 1).toInt = (τ 101 1).toInt := congrArg Int32.toInt (by rw [hs1, up2_i (by decide)])
      refine sf_bnd (s_X4_think hF Is1) (fun r60 u61 p62 => ?_)
      obtain ⟨Iu61, Fu61_, Of15_u61_, Of34_u61_, Of30_u61_, Of18_u61_, -, p62_x0⟩ := p62
      have Fu61 : ∀ k, k < 101 → u61 k = τ k := fun k hk => (Fu61_ k hk).trans (Fs1 k hk)
      have Of15_u61 : u61 101 15 = τ 101 15 := Of15_u61_.trans Of15_s1
      have Of34_u61 : u61 101 34 = τ 101 34 := Of34_u61_.trans Of34_s1
      have Of30_u61 : u61 101 30 = τ 101 30 := Of30_u61_.trans Of30_s1
      have Of18_u61 : u61 101 18 = τ 101 18 := Of18_u61_.trans Of18_s1
      replace p62_x0 : (u61 101 1).toInt = (s1 101 1).toInt ∧ (u61 101 3).toInt = (s1 101 3).toInt := p62_x0
      have m63 := wx_X4_1 Iu61
      have m64 := wx_X4_3 Iu61
      refine sf_bnd (s_X4_lookerComes hF Iu61 (by omega) (by omega) (by decide) (by decide) (by first | omega | decide)) (fun r65 u66 p67 => ?_)
      obtain ⟨Iu66, Fu66_, Of15_u66_, Of34_u66_, Of1_u66_, Of30_u66_, Of18_u66_, -⟩ := p67
      have Fu66 : ∀ k, k < 101 → u66 k = τ k := fun k hk => (Fu66_ k hk).trans (Fu61 k hk)
      have Of15_u66 : u66 101 15 = τ 101 15 := Of15_u66_.trans Of15_u61
      have Of34_u66 : u66 101 34 = τ 101 34 := Of34_u66_.trans Of34_u61
      have Of30_u66 : u66 101 30 = τ 101 30 := Of30_u66_.trans Of30_u61
      have Of18_u66 : u66 101 18 = τ 101 18 := Of18_u66_.trans Of18_u61
      refine sf_bnd (s_X4_stand hF Iu66 (by omega) (by omega) (by decide) (by decide) (by decide) (by decide) (by first | omega | decide)) (fun r68 u69 p70 => ?_)
      obtain ⟨Iu69, Fu69_, Of15_u69_, Of34_u69_, Of1_u69_, Of30_u69_, Of18_u69_, -⟩ := p70
      have Fu69 : ∀ k, k < 101 → u69 k = τ k := fun k hk => (Fu69_ k hk).trans (Fu66 k hk)
      have Of15_u69 : u69 101 15 = τ 101 15 := Of15_u69_.trans Of15_u66
      have Of34_u69 : u69 101 34 = τ 101 34 := Of34_u69_.trans Of34_u66
      have Of30_u69 : u69 101 30 = τ 101 30 := Of30_u69_.trans Of30_u66
      have Of18_u69 : u69 101 18 = τ 101 18 := Of18_u69_.trans Of18_u66
      refine sf_bnd (s_X4_layBrings hF Iu69) (fun r71 u72 p73 => ?_)
      obtain ⟨Iu72, Fu72_, Of15_u72_, Of34_u72_, Of1_u72_, Of30_u72_, Of18_u72_, -⟩ := p73
      have Fu72 : ∀ k, k < 101 → u72 k = τ k := fun k hk => (Fu72_ k hk).trans (Fu69 k hk)
      have Of15_u72 : u72 101 15 = τ 101 15 := Of15_u72_.trans Of15_u69
      have Of34_u72 : u72 101 34 = τ 101 34 := Of34_u72_.trans Of34_u69
      have Of30_u72 : u72 101 30 = τ 101 30 := Of30_u72_.trans Of30_u69
      have Of18_u72 : u72 101 18 = τ 101 18 := Of18_u72_.trans Of18_u69
      have l_0 : (0 : Int32).toInt = 0 := rfl
      exact sl_X4_newcomer_113 hF (by omega) (by omega) (by omega) (by omega) _ _ _ _ _ Iu72 Fu72 Of15_u72 Of34_u72 Of30_u72 Of18_u72 (by omega) (by decide) (by decide) (by decide) (by decide) (by decide) (by decide)
    have C56 : (0 : Int) < (0 : Int) := ti_nle c56
    exfalso; omega
  obtain rfl := p6
  refine sf_ite (fun c74 => ?_) (fun c74 => ?_)
  · have C74 : (0 : Int) = (0 : Int) := ti_eq c74
    rw [j_X4_newcomer_58_e]
    refine sf_ite (fun c75 => ?_) (fun c75 => ?_)
    · have C75 : (0 : Int) ≤ (-1 : Int) := ti_le c75
      exfalso; omega
    have C75 : (-1 : Int) < (0 : Int) := ti_nle c75
    refine sf_bnd (s_X4_refuse hF Is1 (by decide) (by decide)) (fun r76 u77 p78 => ?_)
    obtain ⟨Iu77, Fu77_, Of15_u77_, Of34_u77_, Of1_u77_, Of30_u77_, Of18_u77_, p78_1, p78_2, p78_x0⟩ := p78
    have Fu77 : ∀ k, k < 101 → u77 k = τ k := fun k hk => (Fu77_ k hk).trans (Fs1 k hk)
    have Of15_u77 : u77 101 15 = τ 101 15 := Of15_u77_.trans Of15_s1
    have Of34_u77 : u77 101 34 = τ 101 34 := Of34_u77_.trans Of34_s1
    have Of1_u77 : u77 101 1 = τ 101 1 := Of1_u77_.trans Of1_s1
    have Of30_u77 : u77 101 30 = τ 101 30 := Of30_u77_.trans Of30_s1
    have Of18_u77 : u77 101 18 = τ 101 18 := Of18_u77_.trans Of18_s1
    replace p78_x0 : r76.toInt = (-1 : Int) := p78_x0
    exact sf_ret ⟨Iu77, Fu77, Of15_u77, Of34_u77, Of30_u77, Of18_u77, ti_lo _, ti_hi _⟩
  have C74 : ¬ (0 : Int) = (0 : Int) := ti_ne c74
  exfalso; omega
set_option maxHeartbeats 4000000 in
set_option maxRecDepth 100000 in
theorem sl_X4_broughtToAll_4 {F : Nat} (hF : 73786976294838206464 ≤ F) {x1 : Int32} {τ : Mem} (hI : wiM τ) (x1_1 : 0 ≤ x1.toInt) (x1_2 : x1.toInt ≤ 7) : ∀ (N : Nat) (x2 : Int32) (x3 : Int32) , 5 < x3.toInt + N → 0 ≤ x3.toInt → x3.toInt ≤ 5 → sf (lp_X4_broughtToAll_4 F x1 N x2 x3 τ) (fun r s => s = τ ∧ -2147483648 ≤ r.toInt ∧ r.toInt ≤ 2147483647) := by
  intro N
  induction N with
  | zero => intro x2 x3 hN x3_1 x3_2; exfalso; omega
  | succ N ih =>
    intro x2 x3 hN x3_1 x3_2
    rw [lp_X4_broughtToAll_4_s]
    have m1 := wx_X4_3 hI
    refine sf_ite (fun c2 => ?_) (fun c2 => ?_)
    · have C2 : (τ 101 3).toInt ≤ x3.toInt := ti_le c2
      have b3 := ti_lo x2
      have b4 := ti_hi x2
      exact sf_ret ⟨rfl, ti_lo _, ti_hi _⟩
    have C2 : x3.toInt < (τ 101 3).toInt := ti_nle c2
    have t5 : ((8 : Int32) * x3).toInt = (8 : Int) * x3.toInt := ti_mul (show -2147483648 ≤ (8 : Int) * x3.toInt by omega) (show (8 : Int) * x3.toInt ≤ 2147483647 by omega)
    have t6 : (((8 : Int32) * x3) + x1).toInt = ((8 : Int32) * x3).toInt + x1.toInt := ti_add (show -2147483648 ≤ ((8 : Int32) * x3).toInt + x1.toInt by omega) (show ((8 : Int32) * x3).toInt + x1.toInt ≤ 2147483647 by omega)
    refine sf_chk (ti_in (by omega) (by omega)) ?_
    have v7 : Int32.toNatClampNeg (((8 : Int32) * x3) + x1) = (((8 : Int32) * x3) + x1).toInt.toNat := rfl
    have b9 := ti_lo x2
    have b10 := ti_hi x2
    have b11 := ti_lo (τ 109 (Int32.toNatClampNeg (((8 : Int32) * x3) + x1)))
    have b12 := ti_hi (τ 109 (Int32.toNatClampNeg (((8 : Int32) * x3) + x1)))
    have b13 := ti_lo (x2 + (τ 109 (Int32.toNatClampNeg (((8 : Int32) * x3) + x1))))
    have b14 := ti_hi (x2 + (τ 109 (Int32.toNatClampNeg (((8 : Int32) * x3) + x1))))
    refine sf_lt (fun z8 hz8 => ?_)
    have hz8_ : z8.toInt = (x2 + (τ 109 (Int32.toNatClampNeg (((8 : Int32) * x3) + x1)))).toInt := (show z8.toInt = (x2 + (τ 109 (Int32.toNatClampNeg (((8 : Int32) * x3) + x1)))).toInt from congrArg Int32.toInt hz8)
    have b15 := ti_lo z8
    have b16 := ti_hi z8
    have t17 : (x3 + (1 : Int32)).toInt = x3.toInt + (1 : Int) := ti_add (show -2147483648 ≤ x3.toInt + (1 : Int) by omega) (show x3.toInt + (1 : Int) ≤ 2147483647 by omega)
    exact ih _ _ (by omega) (by omega) (by omega)
set_option maxHeartbeats 4000000 in
set_option maxRecDepth 100000 in
theorem s_X4_broughtToAll {F : Nat} (hF : 73786976294838206464 ≤ F) {x1 : Int32} {τ : Mem} (hI : wiM τ) (x1_1 : 0 ≤ x1.toInt) (x1_2 : x1.toInt ≤ 7) : sf (f_X4_broughtToAll F x1 τ) (fun r s => s = τ ∧ -2147483648 ≤ r.toInt ∧ r.toInt ≤ 2147483647) := by
  rw [f_X4_broughtToAll_e]
  have l_0 : (0 : Int32).toInt = 0 := rfl
  exact sl_X4_broughtToAll_4 hF hI (by omega) (by omega) _ _ _  (by omega) (by decide) (by decide)
set_option maxHeartbeats 4000000 in
set_option maxRecDepth 100000 in
theorem sl_X4_mostSeen_30 {F : Nat} (hF : 73786976294838206464 ≤ F) {x1 : Int32} {τ : Mem} (x1_1 : 0 ≤ x1.toInt) (x1_2 : x1.toInt ≤ 1) : ∀ (N : Nat) (x2 : Int32) (x3 : Int32) (σ : Mem), wiM σ → (∀ k, k < 101 → σ k = τ k) → σ 101 15 = τ 101 15 → σ 101 34 = τ 101 34 → σ 101 1 = τ 101 1 → σ 101 30 = τ 101 30 → σ 101 18 = τ 101 18 → 8 < x3.toInt + N → 0 ≤ x2.toInt → x2.toInt ≤ 7 → 1 ≤ x3.toInt → x3.toInt ≤ 8 → sf (lp_X4_mostSeen_30 F x1 N x2 x3 σ) (fun r s => wiM s ∧ (∀ k, k < 101 → s k = τ k) ∧ s 101 15 = τ 101 15 ∧ s 101 34 = τ 101 34 ∧ s 101 1 = τ 101 1 ∧ s 101 30 = τ 101 30 ∧ s 101 18 = τ 101 18 ∧ -2147483648 ≤ r.toInt ∧ r.toInt ≤ 2147483647) := by
  intro N
  induction N with
  | zero => intro x2 x3 σ hI Fσ Of15_σ Of34_σ Of1_σ Of30_σ Of18_σ hN x2_1 x2_2 x3_1 x3_2; exfalso; omega
  | succ N ih =>
    intro x2 x3 σ hI Fσ Of15_σ Of34_σ Of1_σ Of30_σ Of18_σ hN x2_1 x2_2 x3_1 x3_2
    rw [lp_X4_mostSeen_30_s]
    refine sf_ite (fun c1 => ?_) (fun c1 => ?_)
    · have C1 : (8 : Int) ≤ x3.toInt := ti_le c1
      refine sf_ite (fun c2 => ?_) (fun c2 => ?_)
      · have C2 : x1.toInt = (0 : Int) := ti_eq c2
        exact sf_ret ⟨hI, Fσ, Of15_σ, Of34_σ, Of1_σ, Of30_σ, Of18_σ, ti_lo _, ti_hi _⟩
      have C2 : ¬ x1.toInt = (0 : Int) := ti_ne c2
      refine sf_bnd (s_X4_broughtToAll hF hI (by omega) (by omega)) (fun r3 u4 p5 => ?_)
      obtain ⟨e9, p5_1, p5_2⟩ := p5
      have e9 := e9.symm
      subst e9
      have b6 := ti_lo r3
      have b7 := ti_hi r3
      exact sf_ret ⟨hI, Fσ, Of15_σ, Of34_σ, Of1_σ, Of30_σ, Of18_σ, ti_lo _, ti_hi _⟩
    have C1 : x3.toInt < (8 : Int) := ti_nle c1
    refine sf_bnd (s_X4_broughtToAll hF hI (by omega) (by omega)) (fun r8 u9 p10 => ?_)
    obtain ⟨e9, p10_1, p10_2⟩ := p10
    have e9 := e9.symm
    subst e9
    refine sf_bnd (s_X4_broughtToAll hF hI (by omega) (by omega)) (fun r11 u12 p13 => ?_)
    obtain ⟨e9, p13_1, p13_2⟩ := p13
    have e9 := e9.symm
    subst e9
    have b14 := ti_lo r8
    have b15 := ti_hi r8
    have b16 := ti_lo r11
    have b17 := ti_hi r11
    refine sf_ite (fun c18 => ?_) (fun c18 => ?_)
    · have C18 : r8.toInt ≤ r11.toInt := ti_le c18
      rw [j_X4_mostSeen_54_e]
      have t19 : (x3 + (1 : Int32)).toInt = x3.toInt + (1 : Int) := ti_add (show -2147483648 ≤ x3.toInt + (1 : Int) by omega) (show x3.toInt + (1 : Int) ≤ 2147483647 by omega)
      exact ih _ _ _ hI Fσ Of15_σ Of34_σ Of1_σ Of30_σ Of18_σ (by omega) (by omega) (by omega) (by omega) (by omega)
    have C18 : r11.toInt < r8.toInt := ti_nle c18
    rw [j_X4_mostSeen_54_e]
    have t20 : (x3 + (1 : Int32)).toInt = x3.toInt + (1 : Int) := ti_add (show -2147483648 ≤ x3.toInt + (1 : Int) by omega) (show x3.toInt + (1 : Int) ≤ 2147483647 by omega)
    exact ih _ _ _ hI Fσ Of15_σ Of34_σ Of1_σ Of30_σ Of18_σ (by omega) (by omega) (by omega) (by omega) (by omega)
set_option maxHeartbeats 4000000 in
set_option maxRecDepth 100000 in
theorem s_X4_mostSeen {F : Nat} (hF : 73786976294838206464 ≤ F) {x1 : Int32} {τ : Mem} (hI : wiM τ) : sf (f_X4_mostSeen F x1 τ) (fun r s => wiM s ∧ (∀ k, k < 101 → s k = τ k) ∧ s 101 15 = τ 101 15 ∧ s 101 34 = τ 101 34 ∧ s 101 1 = τ 101 1 ∧ s 101 30 = τ 101 30 ∧ s 101 18 = τ 101 18 ∧ -2147483648 ≤ r.toInt ∧ r.toInt ≤ 2147483647) := by
  have Fτ : ∀ k, k < 101 → τ k = τ k := fun _ _ => rfl
  have Of15_τ : τ 101 15 = τ 101 15 := rfl
  have Of34_τ : τ 101 34 = τ 101 34 := rfl
  have Of1_τ : τ 101 1 = τ 101 1 := rfl
  have Of30_τ : τ 101 30 = τ 101 30 := rfl
  have Of18_τ : τ 101 18 = τ 101 18 := rfl
  rw [f_X4_mostSeen_e]
  refine sf_lt (fun s1 hs1 => ?_)
  have Is1 : wiM s1 := by rw [hs1]; exact wm_fld hI (by decide) (by decide) (by decide) (by decide) (by decide) (by decide) (by decide)
  have Fs1 : ∀ k, k < 101 → s1 k = τ k := fun k hk => (show s1 k = τ k by rw [hs1, up2_k (by omega)]).trans (Fτ k hk)
  have Of15_s1 : s1 101 15 = τ 101 15 := (show s1 101 15 = τ 101 15 by rw [hs1, up2_i (by decide)]).trans Of15_τ
  have Of34_s1 : s1 101 34 = τ 101 34 := (show s1 101 34 = τ 101 34 by rw [hs1, up2_i (by decide)]).trans Of34_τ
  have Of1_s1 : s1 101 1 = τ 101 1 := (show s1 101 1 = τ 101 1 by rw [hs1, up2_i (by decide)]).trans Of1_τ
  have Of30_s1 : s1 101 30 = τ 101 30 := (show s1 101 30 = τ 101 30 by rw [hs1, up2_i (by decide)]).trans Of30_τ
  have Of18_s1 : s1 101 18 = τ 101 18 := (show s1 101 18 = τ 101 18 by rw [hs1, up2_i (by decide)]).trans Of18_τ
  refine sf_in ?_
  rw [f_X4_in_e]
  have b2 := ti_lo x1
  have b3 := ti_hi x1
  have b4 := ti_lo (lg_cmp (Int32.toInt64 x1) (0 : Int64))
  have b5 := ti_hi (lg_cmp (Int32.toInt64 x1) (0 : Int64))
  refine sf_ite (fun c6 => ?_) (fun c6 => ?_)
  · have C6 : (lg_cmp (Int32.toInt64 x1) (0 : Int64)).toInt < (0 : Int) := ti_lt c6
    have L6 : x1.toInt < (0 : Int) := by have q := lg_ltl c6; (repeat (rw [Int32.toInt_toInt64] at q)); exact q
    rw [j_X4_in_17_e]
    refine sf_ret ?_
    refine sf_ite (fun c7 => ?_) (fun c7 => ?_)
    · have C7 : (0 : Int) = (0 : Int) := ti_eq c7
      refine sf_bnd (s_X4_refuse hF Is1 (by decide) (by decide)) (fun r8 u9 p10 => ?_)
      obtain ⟨Iu9, Fu9_, Of15_u9_, Of34_u9_, Of1_u9_, Of30_u9_, Of18_u9_, p10_1, p10_2, p10_x0⟩ := p10
      have Fu9 : ∀ k, k < 101 → u9 k = τ k := fun k hk => (Fu9_ k hk).trans (Fs1 k hk)
      have Of15_u9 : u9 101 15 = τ 101 15 := Of15_u9_.trans Of15_s1
      have Of34_u9 : u9 101 34 = τ 101 34 := Of34_u9_.trans Of34_s1
      have Of1_u9 : u9 101 1 = τ 101 1 := Of1_u9_.trans Of1_s1
      have Of30_u9 : u9 101 30 = τ 101 30 := Of30_u9_.trans Of30_s1
      have Of18_u9 : u9 101 18 = τ 101 18 := Of18_u9_.trans Of18_s1
      replace p10_x0 : r8.toInt = (-2 : Int) := p10_x0
      exact sf_ret ⟨Iu9, Fu9, Of15_u9, Of34_u9, Of1_u9, Of30_u9, Of18_u9, ti_lo _, ti_hi _⟩
    have C7 : ¬ (0 : Int) = (0 : Int) := ti_ne c7
    exfalso; omega
  have C6 : (0 : Int) ≤ (lg_cmp (Int32.toInt64 x1) (0 : Int64)).toInt := ti_nlt c6
  have L6 : (0 : Int) ≤ x1.toInt := by have q := lg_ltln c6; (repeat (rw [Int32.toInt_toInt64] at q)); exact q
  have b11 := ti_lo (lg_cmp (Int32.toInt64 x1) (1 : Int64))
  have b12 := ti_hi (lg_cmp (Int32.toInt64 x1) (1 : Int64))
  refine sf_ite (fun c13 => ?_) (fun c13 => ?_)
  · have C13 : (0 : Int) < (lg_cmp (Int32.toInt64 x1) (1 : Int64)).toInt := ti_lt c13
    have L13 : (1 : Int) < x1.toInt := by have q := lg_ltr c13; (repeat (rw [Int32.toInt_toInt64] at q)); exact q
    rw [j_X4_in_17_e]
    refine sf_ret ?_
    refine sf_ite (fun c14 => ?_) (fun c14 => ?_)
    · have C14 : (0 : Int) = (0 : Int) := ti_eq c14
      refine sf_bnd (s_X4_refuse hF Is1 (by decide) (by decide)) (fun r15 u16 p17 => ?_)
      obtain ⟨Iu16, Fu16_, Of15_u16_, Of34_u16_, Of1_u16_, Of30_u16_, Of18_u16_, p17_1, p17_2, p17_x0⟩ := p17
      have Fu16 : ∀ k, k < 101 → u16 k = τ k := fun k hk => (Fu16_ k hk).trans (Fs1 k hk)
      have Of15_u16 : u16 101 15 = τ 101 15 := Of15_u16_.trans Of15_s1
      have Of34_u16 : u16 101 34 = τ 101 34 := Of34_u16_.trans Of34_s1
      have Of1_u16 : u16 101 1 = τ 101 1 := Of1_u16_.trans Of1_s1
      have Of30_u16 : u16 101 30 = τ 101 30 := Of30_u16_.trans Of30_s1
      have Of18_u16 : u16 101 18 = τ 101 18 := Of18_u16_.trans Of18_s1
      replace p17_x0 : r15.toInt = (-2 : Int) := p17_x0
      exact sf_ret ⟨Iu16, Fu16, Of15_u16, Of34_u16, Of1_u16, Of30_u16, Of18_u16, ti_lo _, ti_hi _⟩
    have C14 : ¬ (0 : Int) = (0 : Int) := ti_ne c14
    exfalso; omega
  have C13 : (lg_cmp (Int32.toInt64 x1) (1 : Int64)).toInt ≤ (0 : Int) := ti_nlt c13
  have L13 : x1.toInt ≤ (1 : Int) := by have q := lg_ltrn c13; (repeat (rw [Int32.toInt_toInt64] at q)); exact q
  refine sf_ret ?_
  refine sf_ite (fun c18 => ?_) (fun c18 => ?_)
  · have C18 : (1 : Int) = (0 : Int) := ti_eq c18
    exfalso; omega
  have C18 : ¬ (1 : Int) = (0 : Int) := ti_ne c18
  refine sf_bnd (s_X4_layBrings hF Is1) (fun r19 u20 p21 => ?_)
  obtain ⟨Iu20, Fu20_, Of15_u20_, Of34_u20_, Of1_u20_, Of30_u20_, Of18_u20_, -⟩ := p21
  have Fu20 : ∀ k, k < 101 → u20 k = τ k := fun k hk => (Fu20_ k hk).trans (Fs1 k hk)
  have Of15_u20 : u20 101 15 = τ 101 15 := Of15_u20_.trans Of15_s1
  have Of34_u20 : u20 101 34 = τ 101 34 := Of34_u20_.trans Of34_s1
  have Of1_u20 : u20 101 1 = τ 101 1 := Of1_u20_.trans Of1_s1
  have Of30_u20 : u20 101 30 = τ 101 30 := Of30_u20_.trans Of30_s1
  have Of18_u20 : u20 101 18 = τ 101 18 := Of18_u20_.trans Of18_s1
  have l_1 : (1 : Int32).toInt = 1 := rfl
  exact sl_X4_mostSeen_30 hF (by omega) (by omega) _ _ _ _ Iu20 Fu20 Of15_u20 Of34_u20 Of1_u20 Of30_u20 Of18_u20 (by omega) (by decide) (by decide) (by decide) (by decide)
set_option maxHeartbeats 4000000 in
set_option maxRecDepth 100000 in
theorem sl_X4_duels_25 {F : Nat} (hF : 73786976294838206464 ≤ F) {x1 : Int32} {x2 : Int32} {τ : Mem} (x1_1 : 0 ≤ x1.toInt) (x1_2 : x1.toInt ≤ 4) (x2_1 : 0 ≤ x2.toInt) (x2_2 : x2.toInt ≤ 4) : ∀ (N : Nat) (x3 : Int32) (x4 : Int32) (σ : Mem), wiM σ → (∀ k, k < 101 → σ k = τ k) → σ 101 15 = τ 101 15 → σ 101 34 = τ 101 34 → σ 101 1 = τ 101 1 → σ 101 30 = τ 101 30 → σ 101 18 = τ 101 18 → 8 < x4.toInt + N → 0 ≤ x4.toInt → x4.toInt ≤ 8 → sf (lp_X4_duels_25 F x1 x2 N x3 x4 σ) (fun r s => wiM s ∧ (∀ k, k < 101 → s k = τ k) ∧ s 101 15 = τ 101 15 ∧ s 101 34 = τ 101 34 ∧ s 101 1 = τ 101 1 ∧ s 101 30 = τ 101 30 ∧ s 101 18 = τ 101 18 ∧ -2147483648 ≤ r.toInt ∧ r.toInt ≤ 2147483647) := by
  intro N
  induction N with
  | zero => intro x3 x4 σ hI Fσ Of15_σ Of34_σ Of1_σ Of30_σ Of18_σ hN x4_1 x4_2; exfalso; omega
  | succ N ih =>
    intro x3 x4 σ hI Fσ Of15_σ Of34_σ Of1_σ Of30_σ Of18_σ hN x4_1 x4_2
    rw [lp_X4_duels_25_s]
    refine sf_ite (fun c1 => ?_) (fun c1 => ?_)
    · have C1 : (8 : Int) ≤ x4.toInt := ti_le c1
      have b2 := ti_lo x3
      have b3 := ti_hi x3
      exact sf_ret ⟨hI, Fσ, Of15_σ, Of34_σ, Of1_σ, Of30_σ, Of18_σ, ti_lo _, ti_hi _⟩
    have C1 : x4.toInt < (8 : Int) := ti_nle c1
    refine sf_bnd (s_X4_bringsOf hF hI (by omega) (by omega) (by omega) (by omega)) (fun r4 u5 p6 => ?_)
    obtain ⟨e9, p6_1, p6_2⟩ := p6
    have e9 := e9.symm
    subst e9
    have b7 := ti_lo r4
    have b8 := ti_hi r4
    refine sf_ite (fun c9 => ?_) (fun c9 => ?_)
    · have C9 : r4.toInt ≤ (0 : Int) := ti_le c9
      rw [j_X4_duels_57_e]
      rw [j_X4_duels_58_e]
      have b10 := ti_lo x3
      have b11 := ti_hi x3
      have t12 : (x3 + (0 : Int32)).toInt = x3.toInt + (0 : Int) := ti_add (show -2147483648 ≤ x3.toInt + (0 : Int) by omega) (show x3.toInt + (0 : Int) ≤ 2147483647 by omega)
      have t13 : (x4 + (1 : Int32)).toInt = x4.toInt + (1 : Int) := ti_add (show -2147483648 ≤ x4.toInt + (1 : Int) by omega) (show x4.toInt + (1 : Int) ≤ 2147483647 by omega)
      exact ih _ _ _ hI Fσ Of15_σ Of34_σ Of1_σ Of30_σ Of18_σ (by omega) (by omega) (by omega)
    have C9 : (0 : Int) < r4.toInt := ti_nle c9
    refine sf_bnd (s_X4_bringsOf hF hI (by omega) (by omega) (by omega) (by omega)) (fun r14 u15 p16 => ?_)
    obtain ⟨e9, p16_1, p16_2⟩ := p16
    have e9 := e9.symm
    subst e9
    have b17 := ti_lo r14
    have b18 := ti_hi r14
    refine sf_ite (fun c19 => ?_) (fun c19 => ?_)
    · have C19 : r14.toInt ≤ (0 : Int) := ti_le c19
      rw [j_X4_duels_57_e]
      rw [j_X4_duels_58_e]
      have b20 := ti_lo x3
      have b21 := ti_hi x3
      have t22 : (x3 + (0 : Int32)).toInt = x3.toInt + (0 : Int) := ti_add (show -2147483648 ≤ x3.toInt + (0 : Int) by omega) (show x3.toInt + (0 : Int) ≤ 2147483647 by omega)
      have t23 : (x4 + (1 : Int32)).toInt = x4.toInt + (1 : Int) := ti_add (show -2147483648 ≤ x4.toInt + (1 : Int) by omega) (show x4.toInt + (1 : Int) ≤ 2147483647 by omega)
      exact ih _ _ _ hI Fσ Of15_σ Of34_σ Of1_σ Of30_σ Of18_σ (by omega) (by omega) (by omega)
    have C19 : (0 : Int) < r14.toInt := ti_nle c19
    rw [j_X4_duels_58_e]
    have b24 := ti_lo x3
    have b25 := ti_hi x3
    have b26 := ti_lo (x3 + (1 : Int32))
    have b27 := ti_hi (x3 + (1 : Int32))
    have t28 : (x4 + (1 : Int32)).toInt = x4.toInt + (1 : Int) := ti_add (show -2147483648 ≤ x4.toInt + (1 : Int) by omega) (show x4.toInt + (1 : Int) ≤ 2147483647 by omega)
    exact ih _ _ _ hI Fσ Of15_σ Of34_σ Of1_σ Of30_σ Of18_σ (by omega) (by omega) (by omega)
set_option maxHeartbeats 4000000 in
set_option maxRecDepth 100000 in
theorem s_X4_duels {F : Nat} (hF : 73786976294838206464 ≤ F) {x1 : Int32} {x2 : Int32} {τ : Mem} (hI : wiM τ) : sf (f_X4_duels F x1 x2 τ) (fun r s => wiM s ∧ (∀ k, k < 101 → s k = τ k) ∧ s 101 15 = τ 101 15 ∧ s 101 34 = τ 101 34 ∧ s 101 1 = τ 101 1 ∧ s 101 30 = τ 101 30 ∧ s 101 18 = τ 101 18 ∧ -2147483648 ≤ r.toInt ∧ r.toInt ≤ 2147483647) := by
  have Fτ : ∀ k, k < 101 → τ k = τ k := fun _ _ => rfl
  have Of15_τ : τ 101 15 = τ 101 15 := rfl
  have Of34_τ : τ 101 34 = τ 101 34 := rfl
  have Of1_τ : τ 101 1 = τ 101 1 := rfl
  have Of30_τ : τ 101 30 = τ 101 30 := rfl
  have Of18_τ : τ 101 18 = τ 101 18 := rfl
  rw [f_X4_duels_e]
  refine sf_lt (fun s1 hs1 => ?_)
  have Is1 : wiM s1 := by rw [hs1]; exact wm_fld hI (by decide) (by decide) (by decide) (by decide) (by decide) (by decide) (by decide)
  have Fs1 : ∀ k, k < 101 → s1 k = τ k := fun k hk => (show s1 k = τ k by rw [hs1, up2_k (by omega)]).trans (Fτ k hk)
  have Of15_s1 : s1 101 15 = τ 101 15 := (show s1 101 15 = τ 101 15 by rw [hs1, up2_i (by decide)]).trans Of15_τ
  have Of34_s1 : s1 101 34 = τ 101 34 := (show s1 101 34 = τ 101 34 by rw [hs1, up2_i (by decide)]).trans Of34_τ
  have Of1_s1 : s1 101 1 = τ 101 1 := (show s1 101 1 = τ 101 1 by rw [hs1, up2_i (by decide)]).trans Of1_τ
  have Of30_s1 : s1 101 30 = τ 101 30 := (show s1 101 30 = τ 101 30 by rw [hs1, up2_i (by decide)]).trans Of30_τ
  have Of18_s1 : s1 101 18 = τ 101 18 := (show s1 101 18 = τ 101 18 by rw [hs1, up2_i (by decide)]).trans Of18_τ
  have b2 := ti_lo x1
  have b3 := ti_hi x1
  have b4 := ti_lo x2
  have b5 := ti_hi x2
  refine sf_bnd (s_X4_areTwo hF Is1) (fun r6 u7 p8 => ?_)
  obtain ⟨e9, p8⟩ := p8
  have e9 := e9.symm
  subst e9
  rcases p8 with ⟨rfl, q9, q10, q11, q12⟩ | p8
  · refine sf_ite (fun c13 => ?_) (fun c13 => ?_)
    · have C13 : (1 : Int) = (0 : Int) := ti_eq c13
      exfalso; omega
    have C13 : ¬ (1 : Int) = (0 : Int) := ti_ne c13
    have l_0 : (0 : Int32).toInt = 0 := rfl
    exact sl_X4_duels_25 hF (by omega) (by omega) (by omega) (by omega) _ _ _ _ Is1 Fs1 Of15_s1 Of34_s1 Of1_s1 Of30_s1 Of18_s1 (by omega) (by decide) (by decide)
  obtain rfl := p8
  refine sf_ite (fun c14 => ?_) (fun c14 => ?_)
  · have C14 : (0 : Int) = (0 : Int) := ti_eq c14
    refine sf_bnd (s_X4_refuse hF Is1 (by decide) (by decide)) (fun r15 u16 p17 => ?_)
    obtain ⟨Iu16, Fu16_, Of15_u16_, Of34_u16_, Of1_u16_, Of30_u16_, Of18_u16_, p17_1, p17_2, p17_x0⟩ := p17
    have Fu16 : ∀ k, k < 101 → u16 k = τ k := fun k hk => (Fu16_ k hk).trans (Fs1 k hk)
    have Of15_u16 : u16 101 15 = τ 101 15 := Of15_u16_.trans Of15_s1
    have Of34_u16 : u16 101 34 = τ 101 34 := Of34_u16_.trans Of34_s1
    have Of1_u16 : u16 101 1 = τ 101 1 := Of1_u16_.trans Of1_s1
    have Of30_u16 : u16 101 30 = τ 101 30 := Of30_u16_.trans Of30_s1
    have Of18_u16 : u16 101 18 = τ 101 18 := Of18_u16_.trans Of18_s1
    replace p17_x0 : r15.toInt = (-1 : Int) := p17_x0
    exact sf_ret ⟨Iu16, Fu16, Of15_u16, Of34_u16, Of1_u16, Of30_u16, Of18_u16, ti_lo _, ti_hi _⟩
  have C14 : ¬ (0 : Int) = (0 : Int) := ti_ne c14
  exfalso; omega
set_option maxHeartbeats 4000000 in
set_option maxRecDepth 100000 in
theorem s_X4_row {F : Nat} (hF : 73786976294838206464 ≤ F) {x1 : Int32} {τ : Mem} (hI : wiM τ) : sf (f_X4_row F x1 τ) (fun r s => wiM s ∧ (∀ k, k < 101 → s k = τ k) ∧ s 101 15 = τ 101 15 ∧ s 101 1 = τ 101 1 ∧ s 101 30 = τ 101 30 ∧ s 101 18 = τ 101 18 ∧ -2147483648 ≤ r.toInt ∧ r.toInt ≤ 2147483647 ∧ ((0 ≤ x1.toInt ∧ x1.toInt ≤ 99 ∧ (τ 101 34).toInt ≤ 11 ∧ (s 101 34).toInt = (τ 101 34).toInt + 1 ∧ r.toInt = (s 101 34).toInt) ∨ (x1.toInt < 0 ∧ (s 101 34).toInt = (τ 101 34).toInt ∧ r.toInt = -4) ∨ (0 ≤ x1.toInt ∧ (99 < x1.toInt ∨ 12 ≤ (τ 101 34).toInt) ∧ (s 101 34).toInt = (τ 101 34).toInt ∧ r.toInt = -6))) := by
  have Fτ : ∀ k, k < 101 → τ k = τ k := fun _ _ => rfl
  have Of15_τ : τ 101 15 = τ 101 15 := rfl
  have Of34_τ : τ 101 34 = τ 101 34 := rfl
  have Of1_τ : τ 101 1 = τ 101 1 := rfl
  have Of30_τ : τ 101 30 = τ 101 30 := rfl
  have Of18_τ : τ 101 18 = τ 101 18 := rfl
  rw [f_X4_row_e]
  refine sf_lt (fun s1 hs1 => ?_)
  have Is1 : wiM s1 := by rw [hs1]; exact wm_fld hI (by decide) (by decide) (by decide) (by decide) (by decide) (by decide) (by decide)
  have Fs1 : ∀ k, k < 101 → s1 k = τ k := fun k hk => (show s1 k = τ k by rw [hs1, up2_k (by omega)]).trans (Fτ k hk)
  have Of15_s1 : s1 101 15 = τ 101 15 := (show s1 101 15 = τ 101 15 by rw [hs1, up2_i (by decide)]).trans Of15_τ
  have Of34_s1 : s1 101 34 = τ 101 34 := (show s1 101 34 = τ 101 34 by rw [hs1, up2_i (by decide)]).trans Of34_τ
  have Of1_s1 : s1 101 1 = τ 101 1 := (show s1 101 1 = τ 101 1 by rw [hs1, up2_i (by decide)]).trans Of1_τ
  have Of30_s1 : s1 101 30 = τ 101 30 := (show s1 101 30 = τ 101 30 by rw [hs1, up2_i (by decide)]).trans Of30_τ
  have Of18_s1 : s1 101 18 = τ 101 18 := (show s1 101 18 = τ 101 18 by rw [hs1, up2_i (by decide)]).trans Of18_τ
  have b2 := ti_lo x1
  have b3 := ti_hi x1
  refine sf_ite (fun c4 => ?_) (fun c4 => ?_)
  · have C4 : (0 : Int) ≤ x1.toInt := ti_le c4
    refine sf_ite (fun c5 => ?_) (fun c5 => ?_)
    · have C5 : (99 : Int) < x1.toInt := ti_lt c5
      rw [j_X4_row_31_e]
      refine sf_bnd (s_X4_refuse hF Is1 (by decide) (by decide)) (fun r6 u7 p8 => ?_)
      obtain ⟨Iu7, Fu7_, Of15_u7_, Of34_u7_, Of1_u7_, Of30_u7_, Of18_u7_, p8_1, p8_2, p8_x0⟩ := p8
      have Fu7 : ∀ k, k < 101 → u7 k = τ k := fun k hk => (Fu7_ k hk).trans (Fs1 k hk)
      have Of15_u7 : u7 101 15 = τ 101 15 := Of15_u7_.trans Of15_s1
      have Of34_u7 : u7 101 34 = τ 101 34 := Of34_u7_.trans Of34_s1
      have Of1_u7 : u7 101 1 = τ 101 1 := Of1_u7_.trans Of1_s1
      have Of30_u7 : u7 101 30 = τ 101 30 := Of30_u7_.trans Of30_s1
      have Of18_u7 : u7 101 18 = τ 101 18 := Of18_u7_.trans Of18_s1
      replace p8_x0 : r6.toInt = (-6 : Int) := p8_x0
      have m9 := wx_X4_34 Iu7
      have m10 := wx_X4_34 Is1
      have m11 := wx_X4_34 hI
      have e12 : (s1 101 34).toInt = (τ 101 34).toInt := congrArg Int32.toInt (by rw [hs1, up2_i (by decide)])
      have e13 : (u7 101 34).toInt = (s1 101 34).toInt := congrArg Int32.toInt Of34_u7_
      exact sf_ret ⟨Iu7, Fu7, Of15_u7, Of1_u7, Of30_u7, Of18_u7, ti_lo _, ti_hi _, (show (0 ≤ x1.toInt ∧ x1.toInt ≤ 99 ∧ (τ 101 34).toInt ≤ 11 ∧ (u7 101 34).toInt = (τ 101 34).toInt + 1 ∧ r6.toInt = (u7 101 34).toInt) ∨ (x1.toInt < 0 ∧ (u7 101 34).toInt = (τ 101 34).toInt ∧ r6.toInt = -4) ∨ (0 ≤ x1.toInt ∧ (99 < x1.toInt ∨ 12 ≤ (τ 101 34).toInt) ∧ (u7 101 34).toInt = (τ 101 34).toInt ∧ r6.toInt = -6) from by omega)⟩
    have C5 : x1.toInt ≤ (99 : Int) := ti_nlt c5
    have m14 := wx_X4_34 Is1
    have m15 := wx_X4_34 hI
    have e16 : (s1 101 34).toInt = (τ 101 34).toInt := congrArg Int32.toInt (by rw [hs1, up2_i (by decide)])
    refine sf_ite (fun c17 => ?_) (fun c17 => ?_)
    · have C17 : (s1 101 34).toInt = (12 : Int) := ti_eq c17
      rw [j_X4_row_31_e]
      refine sf_bnd (s_X4_refuse hF Is1 (by decide) (by decide)) (fun r18 u19 p20 => ?_)
      obtain ⟨Iu19, Fu19_, Of15_u19_, Of34_u19_, Of1_u19_, Of30_u19_, Of18_u19_, p20_1, p20_2, p20_x0⟩ := p20
      have Fu19 : ∀ k, k < 101 → u19 k = τ k := fun k hk => (Fu19_ k hk).trans (Fs1 k hk)
      have Of15_u19 : u19 101 15 = τ 101 15 := Of15_u19_.trans Of15_s1
      have Of34_u19 : u19 101 34 = τ 101 34 := Of34_u19_.trans Of34_s1
      have Of1_u19 : u19 101 1 = τ 101 1 := Of1_u19_.trans Of1_s1
      have Of30_u19 : u19 101 30 = τ 101 30 := Of30_u19_.trans Of30_s1
      have Of18_u19 : u19 101 18 = τ 101 18 := Of18_u19_.trans Of18_s1
      replace p20_x0 : r18.toInt = (-6 : Int) := p20_x0
      have m21 := wx_X4_34 Iu19
      have e22 : (u19 101 34).toInt = (s1 101 34).toInt := congrArg Int32.toInt Of34_u19_
      exact sf_ret ⟨Iu19, Fu19, Of15_u19, Of1_u19, Of30_u19, Of18_u19, ti_lo _, ti_hi _, (show (0 ≤ x1.toInt ∧ x1.toInt ≤ 99 ∧ (τ 101 34).toInt ≤ 11 ∧ (u19 101 34).toInt = (τ 101 34).toInt + 1 ∧ r18.toInt = (u19 101 34).toInt) ∨ (x1.toInt < 0 ∧ (u19 101 34).toInt = (τ 101 34).toInt ∧ r18.toInt = -4) ∨ (0 ≤ x1.toInt ∧ (99 < x1.toInt ∨ 12 ≤ (τ 101 34).toInt) ∧ (u19 101 34).toInt = (τ 101 34).toInt ∧ r18.toInt = -6) from by omega)⟩
    have C17 : ¬ (s1 101 34).toInt = (12 : Int) := ti_ne c17
    refine sf_chk (ti_in (by omega) (by omega)) ?_
    have v23 : Int32.toNatClampNeg (s1 101 34) = (s1 101 34).toInt.toNat := rfl
    refine sf_lt (fun s24 hs24 => ?_)
    have Is24 : wiM s24 := by rw [hs24]; exact wm_oth Is1 (by decide) (by decide) (by decide) (by decide)
    have Fs24 : ∀ k, k < 101 → s24 k = τ k := fun k hk => (show s24 k = s1 k by rw [hs24, up2_k (by omega)]).trans (Fs1 k hk)
    have Of15_s24 : s24 101 15 = τ 101 15 := (show s24 101 15 = s1 101 15 by rw [hs24, up2_k (by omega)]).trans Of15_s1
    have Of34_s24 : s24 101 34 = τ 101 34 := (show s24 101 34 = s1 101 34 by rw [hs24, up2_k (by omega)]).trans Of34_s1
    have Of1_s24 : s24 101 1 = τ 101 1 := (show s24 101 1 = s1 101 1 by rw [hs24, up2_k (by omega)]).trans Of1_s1
    have Of30_s24 : s24 101 30 = τ 101 30 := (show s24 101 30 = s1 101 30 by rw [hs24, up2_k (by omega)]).trans Of30_s1
    have Of18_s24 : s24 101 18 = τ 101 18 := (show s24 101 18 = s1 101 18 by rw [hs24, up2_k (by omega)]).trans Of18_s1
    refine sf_lt (fun s25 hs25 => ?_)
    have m26 := wx_X4_34 Is24
    have e27 : (s24 101 34).toInt = (s1 101 34).toInt := congrArg Int32.toInt (by rw [hs24, up2_k (by omega)])
    have t28 : ((s24 101 34) + (1 : Int32)).toInt = (s24 101 34).toInt + (1 : Int) := ti_add (show -2147483648 ≤ (s24 101 34).toInt + (1 : Int) by omega) (show (s24 101 34).toInt + (1 : Int) ≤ 2147483647 by omega)
    have Is25 : wiM s25 := by rw [hs25]; exact wx_put_X4_34 Is24 (by omega) (by omega)
    have Fs25 : ∀ k, k < 101 → s25 k = τ k := fun k hk => (show s25 k = s24 k by rw [hs25, up2_k (by omega)]).trans (Fs24 k hk)
    have Of15_s25 : s25 101 15 = τ 101 15 := (show s25 101 15 = s24 101 15 by rw [hs25, up2_i (by decide)]).trans Of15_s24
    have Of1_s25 : s25 101 1 = τ 101 1 := (show s25 101 1 = s24 101 1 by rw [hs25, up2_i (by decide)]).trans Of1_s24
    have Of30_s25 : s25 101 30 = τ 101 30 := (show s25 101 30 = s24 101 30 by rw [hs25, up2_i (by decide)]).trans Of30_s24
    have Of18_s25 : s25 101 18 = τ 101 18 := (show s25 101 18 = s24 101 18 by rw [hs25, up2_i (by decide)]).trans Of18_s24
    have m29 := wx_X4_34 Is25
    have e30 : (s25 101 34).toInt = ((s24 101 34) + (1 : Int32)).toInt := (show (s25 101 34).toInt = ((s24 101 34) + (1 : Int32)).toInt from congrArg Int32.toInt (by rw [hs25, up2_s]))
    exact sf_ret ⟨Is25, Fs25, Of15_s25, Of1_s25, Of30_s25, Of18_s25, ti_lo _, ti_hi _, (show (0 ≤ x1.toInt ∧ x1.toInt ≤ 99 ∧ (τ 101 34).toInt ≤ 11 ∧ (s25 101 34).toInt = (τ 101 34).toInt + 1 ∧ (s25 101 34).toInt = (s25 101 34).toInt) ∨ (x1.toInt < 0 ∧ (s25 101 34).toInt = (τ 101 34).toInt ∧ (s25 101 34).toInt = -4) ∨ (0 ≤ x1.toInt ∧ (99 < x1.toInt ∨ 12 ≤ (τ 101 34).toInt) ∧ (s25 101 34).toInt = (τ 101 34).toInt ∧ (s25 101 34).toInt = -6) from by omega)⟩
  have C4 : x1.toInt < (0 : Int) := ti_nle c4
  refine sf_bnd (s_X4_refuse hF Is1 (by decide) (by decide)) (fun r31 u32 p33 => ?_)
  obtain ⟨Iu32, Fu32_, Of15_u32_, Of34_u32_, Of1_u32_, Of30_u32_, Of18_u32_, p33_1, p33_2, p33_x0⟩ := p33
  have Fu32 : ∀ k, k < 101 → u32 k = τ k := fun k hk => (Fu32_ k hk).trans (Fs1 k hk)
  have Of15_u32 : u32 101 15 = τ 101 15 := Of15_u32_.trans Of15_s1
  have Of34_u32 : u32 101 34 = τ 101 34 := Of34_u32_.trans Of34_s1
  have Of1_u32 : u32 101 1 = τ 101 1 := Of1_u32_.trans Of1_s1
  have Of30_u32 : u32 101 30 = τ 101 30 := Of30_u32_.trans Of30_s1
  have Of18_u32 : u32 101 18 = τ 101 18 := Of18_u32_.trans Of18_s1
  replace p33_x0 : r31.toInt = (-4 : Int) := p33_x0
  have m34 := wx_X4_34 Iu32
  have m35 := wx_X4_34 Is1
  have m36 := wx_X4_34 hI
  have e37 : (s1 101 34).toInt = (τ 101 34).toInt := congrArg Int32.toInt (by rw [hs1, up2_i (by decide)])
  have e38 : (u32 101 34).toInt = (s1 101 34).toInt := congrArg Int32.toInt Of34_u32_
  exact sf_ret ⟨Iu32, Fu32, Of15_u32, Of1_u32, Of30_u32, Of18_u32, ti_lo _, ti_hi _, (show (0 ≤ x1.toInt ∧ x1.toInt ≤ 99 ∧ (τ 101 34).toInt ≤ 11 ∧ (u32 101 34).toInt = (τ 101 34).toInt + 1 ∧ r31.toInt = (u32 101 34).toInt) ∨ (x1.toInt < 0 ∧ (u32 101 34).toInt = (τ 101 34).toInt ∧ r31.toInt = -4) ∨ (0 ≤ x1.toInt ∧ (99 < x1.toInt ∨ 12 ≤ (τ 101 34).toInt) ∧ (u32 101 34).toInt = (τ 101 34).toInt ∧ r31.toInt = -6) from by omega)⟩
set_option maxHeartbeats 4000000 in
set_option maxRecDepth 100000 in
theorem sl_X4_judge_34 {F : Nat} (hF : 73786976294838206464 ≤ F) {x1 : Int32} {x2 : Int32} {τ : Mem} (x1_1 : 0 ≤ x1.toInt) (x1_2 : x1.toInt ≤ 7) (x2_1 : 0 ≤ x2.toInt) (x2_2 : x2.toInt ≤ 12) : ∀ (N : Nat) (x3 : Int32) (σ : Mem), wiM σ → (∀ k, k < 101 → σ k = τ k) → σ 101 15 = τ 101 15 → σ 101 1 = τ 101 1 → σ 101 30 = τ 101 30 → σ 101 18 = τ 101 18 → 12 < x3.toInt + N → 0 ≤ x3.toInt → x3.toInt ≤ 12 → ((σ 101 34).toInt = 0) → sf (lp_X4_judge_34 F x1 x2 N x3 σ) (fun r s => wiM s ∧ (∀ k, k < 101 → s k = τ k) ∧ s 101 15 = τ 101 15 ∧ s 101 1 = τ 101 1 ∧ s 101 30 = τ 101 30 ∧ s 101 18 = τ 101 18 ∧ -2147483648 ≤ r.toInt ∧ r.toInt ≤ 2147483647 ∧ ((0 ≤ x1.toInt ∧ x1.toInt ≤ 7 ∧ (s 101 34).toInt = 0) ∨ ((x1.toInt < 0 ∨ 7 < x1.toInt) ∧ (s 101 34).toInt = (τ 101 34).toInt))) := by
  intro N
  induction N with
  | zero => intro x3 σ hI Fσ Of15_σ Of1_σ Of30_σ Of18_σ hN x3_1 x3_2 xl0; exfalso; omega
  | succ N ih =>
    intro x3 σ hI Fσ Of15_σ Of1_σ Of30_σ Of18_σ hN x3_1 x3_2 xl0
    rw [lp_X4_judge_34_s]
    refine sf_ite (fun c1 => ?_) (fun c1 => ?_)
    · have C1 : x2.toInt ≤ x3.toInt := ti_le c1
      have m2 := wx_X4_34 hI
      have b3 := ti_lo (τ 101 34)
      have b4 := ti_hi (τ 101 34)
      exact sf_ret ⟨hI, Fσ, Of15_σ, Of1_σ, Of30_σ, Of18_σ, ti_lo _, ti_hi _, (show (0 ≤ x1.toInt ∧ x1.toInt ≤ 7 ∧ (σ 101 34).toInt = 0) ∨ ((x1.toInt < 0 ∨ 7 < x1.toInt) ∧ (σ 101 34).toInt = (τ 101 34).toInt) from by omega)⟩
    have C1 : x3.toInt < x2.toInt := ti_nle c1
    refine sf_bnd (s_X4_ownerIn hF hI (by omega) (by omega) (by omega) (by omega)) (fun r5 u6 p7 => ?_)
    obtain ⟨Iu6, Fu6_, Of15_u6_, Of34_u6_, Of1_u6_, Of30_u6_, Of18_u6_, p7_1, p7_2⟩ := p7
    have Fu6 : ∀ k, k < 101 → u6 k = τ k := fun k hk => (Fu6_ k hk).trans (Fσ k hk)
    have Of15_u6 : u6 101 15 = τ 101 15 := Of15_u6_.trans Of15_σ
    have Of1_u6 : u6 101 1 = τ 101 1 := Of1_u6_.trans Of1_σ
    have Of30_u6 : u6 101 30 = τ 101 30 := Of30_u6_.trans Of30_σ
    have Of18_u6 : u6 101 18 = τ 101 18 := Of18_u6_.trans Of18_σ
    refine sf_chk (ti_in (by omega) (by omega)) ?_
    have v8 : Int32.toNatClampNeg x3 = x3.toInt.toNat := rfl
    refine sf_ite (fun c9 => ?_) (fun c9 => ?_)
    · have C9 : (0 : Int) ≤ r5.toInt := ti_le c9
      rw [j_X4_judge_65_e]
      have b10 := ti_lo (u6 121 (Int32.toNatClampNeg x3))
      have b11 := ti_hi (u6 121 (Int32.toNatClampNeg x3))
      refine sf_ite (fun c12 => ?_) (fun c12 => ?_)
      · have C12 : (u6 121 (Int32.toNatClampNeg x3)).toInt = r5.toInt := ti_eq c12
        have t13 : (x3 + (1 : Int32)).toInt = x3.toInt + (1 : Int) := ti_add (show -2147483648 ≤ x3.toInt + (1 : Int) by omega) (show x3.toInt + (1 : Int) ≤ 2147483647 by omega)
        have m14 := wx_X4_34 Iu6
        have m15 := wx_X4_34 hI
        have e16 : (u6 101 34).toInt = (σ 101 34).toInt := congrArg Int32.toInt Of34_u6_
        have b17 := ti_lo (τ 101 34)
        have b18 := ti_hi (τ 101 34)
        exact ih _ _ Iu6 Fu6 Of15_u6 Of1_u6 Of30_u6 Of18_u6 (by omega) (by omega) (by omega) (show (u6 101 34).toInt = 0 from by omega)
      have C12 : ¬ (u6 121 (Int32.toNatClampNeg x3)).toInt = r5.toInt := ti_ne c12
      have m19 := wx_X4_34 Iu6
      have m20 := wx_X4_34 hI
      have e21 : (u6 101 34).toInt = (σ 101 34).toInt := congrArg Int32.toInt Of34_u6_
      have b22 := ti_lo (τ 101 34)
      have b23 := ti_hi (τ 101 34)
      exact sf_ret ⟨Iu6, Fu6, Of15_u6, Of1_u6, Of30_u6, Of18_u6, ti_lo _, ti_hi _, (show (0 ≤ x1.toInt ∧ x1.toInt ≤ 7 ∧ (u6 101 34).toInt = 0) ∨ ((x1.toInt < 0 ∨ 7 < x1.toInt) ∧ (u6 101 34).toInt = (τ 101 34).toInt) from by omega)⟩
    have C9 : r5.toInt < (0 : Int) := ti_nle c9
    rw [j_X4_judge_65_e]
    have b24 := ti_lo (u6 121 (Int32.toNatClampNeg x3))
    have b25 := ti_hi (u6 121 (Int32.toNatClampNeg x3))
    refine sf_ite (fun c26 => ?_) (fun c26 => ?_)
    · have C26 : (u6 121 (Int32.toNatClampNeg x3)).toInt = (99 : Int) := ti_eq c26
      have t27 : (x3 + (1 : Int32)).toInt = x3.toInt + (1 : Int) := ti_add (show -2147483648 ≤ x3.toInt + (1 : Int) by omega) (show x3.toInt + (1 : Int) ≤ 2147483647 by omega)
      have m28 := wx_X4_34 Iu6
      have m29 := wx_X4_34 hI
      have e30 : (u6 101 34).toInt = (σ 101 34).toInt := congrArg Int32.toInt Of34_u6_
      have b31 := ti_lo (τ 101 34)
      have b32 := ti_hi (τ 101 34)
      exact ih _ _ Iu6 Fu6 Of15_u6 Of1_u6 Of30_u6 Of18_u6 (by omega) (by omega) (by omega) (show (u6 101 34).toInt = 0 from by omega)
    have C26 : ¬ (u6 121 (Int32.toNatClampNeg x3)).toInt = (99 : Int) := ti_ne c26
    have m33 := wx_X4_34 Iu6
    have m34 := wx_X4_34 hI
    have e35 : (u6 101 34).toInt = (σ 101 34).toInt := congrArg Int32.toInt Of34_u6_
    have b36 := ti_lo (τ 101 34)
    have b37 := ti_hi (τ 101 34)
    exact sf_ret ⟨Iu6, Fu6, Of15_u6, Of1_u6, Of30_u6, Of18_u6, ti_lo _, ti_hi _, (show (0 ≤ x1.toInt ∧ x1.toInt ≤ 7 ∧ (u6 101 34).toInt = 0) ∨ ((x1.toInt < 0 ∨ 7 < x1.toInt) ∧ (u6 101 34).toInt = (τ 101 34).toInt) from by omega)⟩
set_option maxHeartbeats 4000000 in
set_option maxRecDepth 100000 in
theorem s_X4_judge {F : Nat} (hF : 73786976294838206464 ≤ F) {x1 : Int32} {τ : Mem} (hI : wiM τ) : sf (f_X4_judge F x1 τ) (fun r s => wiM s ∧ (∀ k, k < 101 → s k = τ k) ∧ s 101 15 = τ 101 15 ∧ s 101 1 = τ 101 1 ∧ s 101 30 = τ 101 30 ∧ s 101 18 = τ 101 18 ∧ -2147483648 ≤ r.toInt ∧ r.toInt ≤ 2147483647 ∧ ((0 ≤ x1.toInt ∧ x1.toInt ≤ 7 ∧ (s 101 34).toInt = 0) ∨ ((x1.toInt < 0 ∨ 7 < x1.toInt) ∧ (s 101 34).toInt = (τ 101 34).toInt))) := by
  have Fτ : ∀ k, k < 101 → τ k = τ k := fun _ _ => rfl
  have Of15_τ : τ 101 15 = τ 101 15 := rfl
  have Of34_τ : τ 101 34 = τ 101 34 := rfl
  have Of1_τ : τ 101 1 = τ 101 1 := rfl
  have Of30_τ : τ 101 30 = τ 101 30 := rfl
  have Of18_τ : τ 101 18 = τ 101 18 := rfl
  rw [f_X4_judge_e]
  refine sf_lt (fun s1 hs1 => ?_)
  have Is1 : wiM s1 := by rw [hs1]; exact wm_fld hI (by decide) (by decide) (by decide) (by decide) (by decide) (by decide) (by decide)
  have Fs1 : ∀ k, k < 101 → s1 k = τ k := fun k hk => (show s1 k = τ k by rw [hs1, up2_k (by omega)]).trans (Fτ k hk)
  have Of15_s1 : s1 101 15 = τ 101 15 := (show s1 101 15 = τ 101 15 by rw [hs1, up2_i (by decide)]).trans Of15_τ
  have Of34_s1 : s1 101 34 = τ 101 34 := (show s1 101 34 = τ 101 34 by rw [hs1, up2_i (by decide)]).trans Of34_τ
  have Of1_s1 : s1 101 1 = τ 101 1 := (show s1 101 1 = τ 101 1 by rw [hs1, up2_i (by decide)]).trans Of1_τ
  have Of30_s1 : s1 101 30 = τ 101 30 := (show s1 101 30 = τ 101 30 by rw [hs1, up2_i (by decide)]).trans Of30_τ
  have Of18_s1 : s1 101 18 = τ 101 18 := (show s1 101 18 = τ 101 18 by rw [hs1, up2_i (by decide)]).trans Of18_τ
  have b2 := ti_lo x1
  have b3 := ti_hi x1
  refine sf_bnd (s_X4_isView hF Is1) (fun r4 u5 p6 => ?_)
  obtain ⟨e9, p6⟩ := p6
  have e9 := e9.symm
  subst e9
  rcases p6 with ⟨rfl, q7, q8⟩ | p6
  · refine sf_ite (fun c9 => ?_) (fun c9 => ?_)
    · have C9 : (1 : Int) = (0 : Int) := ti_eq c9
      exfalso; omega
    have C9 : ¬ (1 : Int) = (0 : Int) := ti_ne c9
    refine sf_lt (fun s10 hs10 => ?_)
    have Is10 : wiM s10 := by rw [hs10]; exact wx_put_X4_34 Is1 (by decide) (by decide)
    have Fs10 : ∀ k, k < 101 → s10 k = τ k := fun k hk => (show s10 k = s1 k by rw [hs10, up2_k (by omega)]).trans (Fs1 k hk)
    have Of15_s10 : s10 101 15 = τ 101 15 := (show s10 101 15 = s1 101 15 by rw [hs10, up2_i (by decide)]).trans Of15_s1
    have Of1_s10 : s10 101 1 = τ 101 1 := (show s10 101 1 = s1 101 1 by rw [hs10, up2_i (by decide)]).trans Of1_s1
    have Of30_s10 : s10 101 30 = τ 101 30 := (show s10 101 30 = s1 101 30 by rw [hs10, up2_i (by decide)]).trans Of30_s1
    have Of18_s10 : s10 101 18 = τ 101 18 := (show s10 101 18 = s1 101 18 by rw [hs10, up2_i (by decide)]).trans Of18_s1
    refine sf_bnd (s_X4_layBrings hF Is10) (fun r11 u12 p13 => ?_)
    obtain ⟨Iu12, Fu12_, Of15_u12_, Of34_u12_, Of1_u12_, Of30_u12_, Of18_u12_, -⟩ := p13
    have Fu12 : ∀ k, k < 101 → u12 k = τ k := fun k hk => (Fu12_ k hk).trans (Fs10 k hk)
    have Of15_u12 : u12 101 15 = τ 101 15 := Of15_u12_.trans Of15_s10
    have Of1_u12 : u12 101 1 = τ 101 1 := Of1_u12_.trans Of1_s10
    have Of30_u12 : u12 101 30 = τ 101 30 := Of30_u12_.trans Of30_s10
    have Of18_u12 : u12 101 18 = τ 101 18 := Of18_u12_.trans Of18_s10
    have m14 := wx_X4_34 Is1
    have m15 := wx_X4_34 hI
    have e16 : (s1 101 34).toInt = (τ 101 34).toInt := congrArg Int32.toInt (by rw [hs1, up2_i (by decide)])
    have m17 := wx_X4_34 Iu12
    have m18 := wx_X4_34 Is10
    have e19 : (s10 101 34).toInt = (0 : Int) := (show (s10 101 34).toInt = (0 : Int32).toInt from congrArg Int32.toInt (by rw [hs10, up2_s]))
    have e20 : (u12 101 34).toInt = (s10 101 34).toInt := congrArg Int32.toInt Of34_u12_
    have l_0 : (0 : Int32).toInt = 0 := rfl
    exact sl_X4_judge_34 hF (by omega) (by omega) (by omega) (by omega) _ _ _ Iu12 Fu12 Of15_u12 Of1_u12 Of30_u12 Of18_u12 (by omega) (by decide) (by decide) (show (u12 101 34).toInt = 0 from by omega)
  obtain ⟨rfl, q21⟩ := p6
  refine sf_ite (fun c22 => ?_) (fun c22 => ?_)
  · have C22 : (0 : Int) = (0 : Int) := ti_eq c22
    refine sf_bnd (s_X4_refuse hF Is1 (by decide) (by decide)) (fun r23 u24 p25 => ?_)
    obtain ⟨Iu24, Fu24_, Of15_u24_, Of34_u24_, Of1_u24_, Of30_u24_, Of18_u24_, p25_1, p25_2, p25_x0⟩ := p25
    have Fu24 : ∀ k, k < 101 → u24 k = τ k := fun k hk => (Fu24_ k hk).trans (Fs1 k hk)
    have Of15_u24 : u24 101 15 = τ 101 15 := Of15_u24_.trans Of15_s1
    have Of34_u24 : u24 101 34 = τ 101 34 := Of34_u24_.trans Of34_s1
    have Of1_u24 : u24 101 1 = τ 101 1 := Of1_u24_.trans Of1_s1
    have Of30_u24 : u24 101 30 = τ 101 30 := Of30_u24_.trans Of30_s1
    have Of18_u24 : u24 101 18 = τ 101 18 := Of18_u24_.trans Of18_s1
    replace p25_x0 : r23.toInt = (-1 : Int) := p25_x0
    have m26 := wx_X4_34 Iu24
    have m27 := wx_X4_34 Is1
    have m28 := wx_X4_34 hI
    have e29 : (s1 101 34).toInt = (τ 101 34).toInt := congrArg Int32.toInt (by rw [hs1, up2_i (by decide)])
    have e30 : (u24 101 34).toInt = (s1 101 34).toInt := congrArg Int32.toInt Of34_u24_
    exact sf_ret ⟨Iu24, Fu24, Of15_u24, Of1_u24, Of30_u24, Of18_u24, ti_lo _, ti_hi _, (show (0 ≤ x1.toInt ∧ x1.toInt ≤ 7 ∧ (u24 101 34).toInt = 0) ∨ ((x1.toInt < 0 ∨ 7 < x1.toInt) ∧ (u24 101 34).toInt = (τ 101 34).toInt) from by omega)⟩
  have C22 : ¬ (0 : Int) = (0 : Int) := ti_ne c22
  exfalso; omega
