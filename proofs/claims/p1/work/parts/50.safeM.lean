set_option maxHeartbeats 4000000 in
set_option maxRecDepth 100000 in
theorem sl_X4_bestPane_74 {F : Nat} (hF : 73786976294838206464 ≤ F) {x1 : Int32} {x2 : Int32} {x3 : Int32} {x4 : Int32} {x6 : Int32} {τ : Mem} (x1_1 : 0 ≤ x1.toInt) (x1_2 : x1.toInt ≤ 4) (x2_1 : 0 ≤ x2.toInt) (x2_2 : x2.toInt ≤ 23) (x3_1 : 0 ≤ x3.toInt) (x3_2 : x3.toInt ≤ 999) (x4_1 : 0 ≤ x4.toInt) (x4_2 : x4.toInt ≤ 1) (x6_1 : -9 ≤ x6.toInt) (x6_2 : x6.toInt ≤ 5) : ∀ (N : Nat) (x7 : Int32) (x8 : Int32) (x9 : Int32) (σ : Mem), wiM σ → (∀ k, k < 101 → σ k = τ k) → σ 101 15 = τ 101 15 → σ 101 34 = τ 101 34 → σ 101 1 = τ 101 1 → σ 101 30 = τ 101 30 → σ 101 18 = τ 101 18 → 7 < x9.toInt + N → -1 ≤ x7.toInt → x7.toInt ≤ 9 → -1 ≤ x8.toInt → x8.toInt ≤ 2147483647 → 0 ≤ x9.toInt → x9.toInt ≤ 7 → sf (lp_X4_bestPane_74 F x1 x2 x3 x4 x6 N x7 x8 x9 σ) (fun r s => wiM s ∧ (∀ k, k < 101 → s k = τ k) ∧ s 101 15 = τ 101 15 ∧ s 101 34 = τ 101 34 ∧ s 101 1 = τ 101 1 ∧ s 101 30 = τ 101 30 ∧ s 101 18 = τ 101 18 ∧ -2147483648 ≤ r.toInt ∧ r.toInt ≤ 2147483647) := by
  intro N
  induction N with
  | zero => intro x7 x8 x9 σ hI Fσ Of15_σ Of34_σ Of1_σ Of30_σ Of18_σ hN x7_1 x7_2 x8_1 x8_2 x9_1 x9_2; exfalso; omega
  | succ N ih =>
    intro x7 x8 x9 σ hI Fσ Of15_σ Of34_σ Of1_σ Of30_σ Of18_σ hN x7_1 x7_2 x8_1 x8_2 x9_1 x9_2
    rw [lp_X4_bestPane_74_s]
    have m1 := wx_X4_1 hI
    have e2 : (σ 101 1).toInt = (τ 101 1).toInt := congrArg Int32.toInt Of1_σ
    refine sf_ite (fun c3 => ?_) (fun c3 => ?_)
    · have C3 : (σ 101 1).toInt < x9.toInt := ti_lt c3
      have t4 : ((24 : Int32) * x1).toInt = (24 : Int) * x1.toInt := ti_mul (show -2147483648 ≤ (24 : Int) * x1.toInt by omega) (show (24 : Int) * x1.toInt ≤ 2147483647 by omega)
      have t5 : (((24 : Int32) * x1) + x2).toInt = ((24 : Int32) * x1).toInt + x2.toInt := ti_add (show -2147483648 ≤ ((24 : Int32) * x1).toInt + x2.toInt by omega) (show ((24 : Int32) * x1).toInt + x2.toInt ≤ 2147483647 by omega)
      refine sf_chk (ti_in (by omega) (by omega)) ?_
      have v6 : Int32.toNatClampNeg (((24 : Int32) * x1) + x2) = (((24 : Int32) * x1) + x2).toInt.toNat := rfl
      refine sf_lt (fun s7 hs7 => ?_)
      have Is7 : wiM s7 := by rw [hs7]; exact wx_put_106 hI (by omega) (by omega)
      have Fs7 : ∀ k, k < 101 → s7 k = τ k := fun k hk => (show s7 k = σ k by rw [hs7, up2_k (by omega)]).trans (Fσ k hk)
      have Of15_s7 : s7 101 15 = τ 101 15 := (show s7 101 15 = σ 101 15 by rw [hs7, up2_k (by omega)]).trans Of15_σ
      have Of34_s7 : s7 101 34 = τ 101 34 := (show s7 101 34 = σ 101 34 by rw [hs7, up2_k (by omega)]).trans Of34_σ
      have Of1_s7 : s7 101 1 = τ 101 1 := (show s7 101 1 = σ 101 1 by rw [hs7, up2_k (by omega)]).trans Of1_σ
      have Of30_s7 : s7 101 30 = τ 101 30 := (show s7 101 30 = σ 101 30 by rw [hs7, up2_k (by omega)]).trans Of30_σ
      have Of18_s7 : s7 101 18 = τ 101 18 := (show s7 101 18 = σ 101 18 by rw [hs7, up2_k (by omega)]).trans Of18_σ
      refine sf_ite (fun c8 => ?_) (fun c8 => ?_)
      · have C8 : x4.toInt = (0 : Int) := ti_eq c8
        exact sf_ret ⟨Is7, Fs7, Of15_s7, Of34_s7, Of1_s7, Of30_s7, Of18_s7, ti_lo _, ti_hi _⟩
      have C8 : ¬ x4.toInt = (0 : Int) := ti_ne c8
      have b9 := ti_lo x8
      have b10 := ti_hi x8
      exact sf_ret ⟨Is7, Fs7, Of15_s7, Of34_s7, Of1_s7, Of30_s7, Of18_s7, ti_lo _, ti_hi _⟩
    have C3 : x9.toInt ≤ (σ 101 1).toInt := ti_nlt c3
    refine sf_ite (fun c11 => ?_) (fun c11 => ?_)
    · have C11 : x9.toInt = (σ 101 1).toInt := ti_eq c11
      rw [j_X4_bestPane_109_e]
      have t12 : ((24 : Int32) * x1).toInt = (24 : Int) * x1.toInt := ti_mul (show -2147483648 ≤ (24 : Int) * x1.toInt by omega) (show (24 : Int) * x1.toInt ≤ 2147483647 by omega)
      have t13 : (((24 : Int32) * x1) + x2).toInt = ((24 : Int32) * x1).toInt + x2.toInt := ti_add (show -2147483648 ≤ ((24 : Int32) * x1).toInt + x2.toInt by omega) (show ((24 : Int32) * x1).toInt + x2.toInt ≤ 2147483647 by omega)
      refine sf_chk (ti_in (by omega) (by omega)) ?_
      have v14 : Int32.toNatClampNeg (((24 : Int32) * x1) + x2) = (((24 : Int32) * x1) + x2).toInt.toNat := rfl
      refine sf_lt (fun s15 hs15 => ?_)
      have Is15 : wiM s15 := by rw [hs15]; exact wx_put_106 hI (by decide) (by decide)
      have Fs15 : ∀ k, k < 101 → s15 k = τ k := fun k hk => (show s15 k = σ k by rw [hs15, up2_k (by omega)]).trans (Fσ k hk)
      have Of15_s15 : s15 101 15 = τ 101 15 := (show s15 101 15 = σ 101 15 by rw [hs15, up2_k (by omega)]).trans Of15_σ
      have Of34_s15 : s15 101 34 = τ 101 34 := (show s15 101 34 = σ 101 34 by rw [hs15, up2_k (by omega)]).trans Of34_σ
      have Of1_s15 : s15 101 1 = τ 101 1 := (show s15 101 1 = σ 101 1 by rw [hs15, up2_k (by omega)]).trans Of1_σ
      have Of30_s15 : s15 101 30 = τ 101 30 := (show s15 101 30 = σ 101 30 by rw [hs15, up2_k (by omega)]).trans Of30_σ
      have Of18_s15 : s15 101 18 = τ 101 18 := (show s15 101 18 = σ 101 18 by rw [hs15, up2_k (by omega)]).trans Of18_σ
      refine sf_bnd (s_X4_worthAnew hF Is15 (by omega) (by omega) (by omega) (by omega)) (fun r16 u17 p18 => ?_)
      obtain ⟨Iu17, Fu17_, Of15_u17_, Of34_u17_, Of1_u17_, Of30_u17_, Of18_u17_, p18_1, p18_2⟩ := p18
      have Fu17 : ∀ k, k < 101 → u17 k = τ k := fun k hk => (Fu17_ k hk).trans (Fs15 k hk)
      have Of15_u17 : u17 101 15 = τ 101 15 := Of15_u17_.trans Of15_s15
      have Of34_u17 : u17 101 34 = τ 101 34 := Of34_u17_.trans Of34_s15
      have Of1_u17 : u17 101 1 = τ 101 1 := Of1_u17_.trans Of1_s15
      have Of30_u17 : u17 101 30 = τ 101 30 := Of30_u17_.trans Of30_s15
      have Of18_u17 : u17 101 18 = τ 101 18 := Of18_u17_.trans Of18_s15
      have b19 := ti_lo r16
      have b20 := ti_hi r16
      have b21 := ti_lo x8
      have b22 := ti_hi x8
      refine sf_ite (fun c23 => ?_) (fun c23 => ?_)
      · have C23 : r16.toInt ≤ x8.toInt := ti_le c23
        rw [j_X4_bestPane_146_e]
        refine sf_ite (fun c24 => ?_) (fun c24 => ?_)
        · have C24 : r16.toInt ≤ x8.toInt := ti_le c24
          rw [j_X4_bestPane_162_e]
          have t25 : (x9 + (1 : Int32)).toInt = x9.toInt + (1 : Int) := ti_add (show -2147483648 ≤ x9.toInt + (1 : Int) by omega) (show x9.toInt + (1 : Int) ≤ 2147483647 by omega)
          exact ih _ _ _ _ Iu17 Fu17 Of15_u17 Of34_u17 Of1_u17 Of30_u17 Of18_u17 (by omega) (by omega) (by omega) (by omega) (by omega) (by omega) (by omega)
        have C24 : x8.toInt < r16.toInt := ti_nle c24
        rw [j_X4_bestPane_162_e]
        have t26 : (x9 + (1 : Int32)).toInt = x9.toInt + (1 : Int) := ti_add (show -2147483648 ≤ x9.toInt + (1 : Int) by omega) (show x9.toInt + (1 : Int) ≤ 2147483647 by omega)
        exact ih _ _ _ _ Iu17 Fu17 Of15_u17 Of34_u17 Of1_u17 Of30_u17 Of18_u17 (by omega) (by omega) (by omega) (by omega) (by omega) (by omega) (by omega)
      have C23 : x8.toInt < r16.toInt := ti_nle c23
      have m27 := wx_X4_1 Iu17
      have m28 := wx_X4_1 Is15
      have e29 : (s15 101 1).toInt = (σ 101 1).toInt := congrArg Int32.toInt (by rw [hs15, up2_k (by omega)])
      have e30 : (u17 101 1).toInt = (s15 101 1).toInt := congrArg Int32.toInt Of1_u17_
      refine sf_ite (fun c31 => ?_) (fun c31 => ?_)
      · have C31 : x9.toInt = (u17 101 1).toInt := ti_eq c31
        rw [j_X4_bestPane_146_e]
        refine sf_ite (fun c32 => ?_) (fun c32 => ?_)
        · have C32 : r16.toInt ≤ x8.toInt := ti_le c32
          rw [j_X4_bestPane_162_e]
          have t33 : (x9 + (1 : Int32)).toInt = x9.toInt + (1 : Int) := ti_add (show -2147483648 ≤ x9.toInt + (1 : Int) by omega) (show x9.toInt + (1 : Int) ≤ 2147483647 by omega)
          exact ih _ _ _ _ Iu17 Fu17 Of15_u17 Of34_u17 Of1_u17 Of30_u17 Of18_u17 (by omega) (by decide) (by decide) (by omega) (by omega) (by omega) (by omega)
        have C32 : x8.toInt < r16.toInt := ti_nle c32
        rw [j_X4_bestPane_162_e]
        have t34 : (x9 + (1 : Int32)).toInt = x9.toInt + (1 : Int) := ti_add (show -2147483648 ≤ x9.toInt + (1 : Int) by omega) (show x9.toInt + (1 : Int) ≤ 2147483647 by omega)
        exact ih _ _ _ _ Iu17 Fu17 Of15_u17 Of34_u17 Of1_u17 Of30_u17 Of18_u17 (by omega) (by decide) (by decide) (by omega) (by omega) (by omega) (by omega)
      have C31 : ¬ x9.toInt = (u17 101 1).toInt := ti_ne c31
      rw [j_X4_bestPane_146_e]
      refine sf_ite (fun c35 => ?_) (fun c35 => ?_)
      · have C35 : r16.toInt ≤ x8.toInt := ti_le c35
        rw [j_X4_bestPane_162_e]
        have t36 : (x9 + (1 : Int32)).toInt = x9.toInt + (1 : Int) := ti_add (show -2147483648 ≤ x9.toInt + (1 : Int) by omega) (show x9.toInt + (1 : Int) ≤ 2147483647 by omega)
        exact ih _ _ _ _ Iu17 Fu17 Of15_u17 Of34_u17 Of1_u17 Of30_u17 Of18_u17 (by omega) (by omega) (by omega) (by omega) (by omega) (by omega) (by omega)
      have C35 : x8.toInt < r16.toInt := ti_nle c35
      rw [j_X4_bestPane_162_e]
      have t37 : (x9 + (1 : Int32)).toInt = x9.toInt + (1 : Int) := ti_add (show -2147483648 ≤ x9.toInt + (1 : Int) by omega) (show x9.toInt + (1 : Int) ≤ 2147483647 by omega)
      exact ih _ _ _ _ Iu17 Fu17 Of15_u17 Of34_u17 Of1_u17 Of30_u17 Of18_u17 (by omega) (by omega) (by omega) (by omega) (by omega) (by omega) (by omega)
    have C11 : ¬ x9.toInt = (σ 101 1).toInt := ti_ne c11
    rw [j_X4_bestPane_109_e]
    have t38 : ((24 : Int32) * x1).toInt = (24 : Int) * x1.toInt := ti_mul (show -2147483648 ≤ (24 : Int) * x1.toInt by omega) (show (24 : Int) * x1.toInt ≤ 2147483647 by omega)
    have t39 : (((24 : Int32) * x1) + x2).toInt = ((24 : Int32) * x1).toInt + x2.toInt := ti_add (show -2147483648 ≤ ((24 : Int32) * x1).toInt + x2.toInt by omega) (show ((24 : Int32) * x1).toInt + x2.toInt ≤ 2147483647 by omega)
    refine sf_chk (ti_in (by omega) (by omega)) ?_
    have v40 : Int32.toNatClampNeg (((24 : Int32) * x1) + x2) = (((24 : Int32) * x1) + x2).toInt.toNat := rfl
    refine sf_lt (fun s41 hs41 => ?_)
    have Is41 : wiM s41 := by rw [hs41]; exact wx_put_106 hI (by omega) (by omega)
    have Fs41 : ∀ k, k < 101 → s41 k = τ k := fun k hk => (show s41 k = σ k by rw [hs41, up2_k (by omega)]).trans (Fσ k hk)
    have Of15_s41 : s41 101 15 = τ 101 15 := (show s41 101 15 = σ 101 15 by rw [hs41, up2_k (by omega)]).trans Of15_σ
    have Of34_s41 : s41 101 34 = τ 101 34 := (show s41 101 34 = σ 101 34 by rw [hs41, up2_k (by omega)]).trans Of34_σ
    have Of1_s41 : s41 101 1 = τ 101 1 := (show s41 101 1 = σ 101 1 by rw [hs41, up2_k (by omega)]).trans Of1_σ
    have Of30_s41 : s41 101 30 = τ 101 30 := (show s41 101 30 = σ 101 30 by rw [hs41, up2_k (by omega)]).trans Of30_σ
    have Of18_s41 : s41 101 18 = τ 101 18 := (show s41 101 18 = σ 101 18 by rw [hs41, up2_k (by omega)]).trans Of18_σ
    refine sf_bnd (s_X4_worthAnew hF Is41 (by omega) (by omega) (by omega) (by omega)) (fun r42 u43 p44 => ?_)
    obtain ⟨Iu43, Fu43_, Of15_u43_, Of34_u43_, Of1_u43_, Of30_u43_, Of18_u43_, p44_1, p44_2⟩ := p44
    have Fu43 : ∀ k, k < 101 → u43 k = τ k := fun k hk => (Fu43_ k hk).trans (Fs41 k hk)
    have Of15_u43 : u43 101 15 = τ 101 15 := Of15_u43_.trans Of15_s41
    have Of34_u43 : u43 101 34 = τ 101 34 := Of34_u43_.trans Of34_s41
    have Of1_u43 : u43 101 1 = τ 101 1 := Of1_u43_.trans Of1_s41
    have Of30_u43 : u43 101 30 = τ 101 30 := Of30_u43_.trans Of30_s41
    have Of18_u43 : u43 101 18 = τ 101 18 := Of18_u43_.trans Of18_s41
    have b45 := ti_lo r42
    have b46 := ti_hi r42
    have b47 := ti_lo x8
    have b48 := ti_hi x8
    refine sf_ite (fun c49 => ?_) (fun c49 => ?_)
    · have C49 : r42.toInt ≤ x8.toInt := ti_le c49
      rw [j_X4_bestPane_146_e]
      refine sf_ite (fun c50 => ?_) (fun c50 => ?_)
      · have C50 : r42.toInt ≤ x8.toInt := ti_le c50
        rw [j_X4_bestPane_162_e]
        have t51 : (x9 + (1 : Int32)).toInt = x9.toInt + (1 : Int) := ti_add (show -2147483648 ≤ x9.toInt + (1 : Int) by omega) (show x9.toInt + (1 : Int) ≤ 2147483647 by omega)
        exact ih _ _ _ _ Iu43 Fu43 Of15_u43 Of34_u43 Of1_u43 Of30_u43 Of18_u43 (by omega) (by omega) (by omega) (by omega) (by omega) (by omega) (by omega)
      have C50 : x8.toInt < r42.toInt := ti_nle c50
      rw [j_X4_bestPane_162_e]
      have t52 : (x9 + (1 : Int32)).toInt = x9.toInt + (1 : Int) := ti_add (show -2147483648 ≤ x9.toInt + (1 : Int) by omega) (show x9.toInt + (1 : Int) ≤ 2147483647 by omega)
      exact ih _ _ _ _ Iu43 Fu43 Of15_u43 Of34_u43 Of1_u43 Of30_u43 Of18_u43 (by omega) (by omega) (by omega) (by omega) (by omega) (by omega) (by omega)
    have C49 : x8.toInt < r42.toInt := ti_nle c49
    have m53 := wx_X4_1 Iu43
    have m54 := wx_X4_1 Is41
    have e55 : (s41 101 1).toInt = (σ 101 1).toInt := congrArg Int32.toInt (by rw [hs41, up2_k (by omega)])
    have e56 : (u43 101 1).toInt = (s41 101 1).toInt := congrArg Int32.toInt Of1_u43_
    refine sf_ite (fun c57 => ?_) (fun c57 => ?_)
    · have C57 : x9.toInt = (u43 101 1).toInt := ti_eq c57
      rw [j_X4_bestPane_146_e]
      refine sf_ite (fun c58 => ?_) (fun c58 => ?_)
      · have C58 : r42.toInt ≤ x8.toInt := ti_le c58
        rw [j_X4_bestPane_162_e]
        have t59 : (x9 + (1 : Int32)).toInt = x9.toInt + (1 : Int) := ti_add (show -2147483648 ≤ x9.toInt + (1 : Int) by omega) (show x9.toInt + (1 : Int) ≤ 2147483647 by omega)
        exact ih _ _ _ _ Iu43 Fu43 Of15_u43 Of34_u43 Of1_u43 Of30_u43 Of18_u43 (by omega) (by decide) (by decide) (by omega) (by omega) (by omega) (by omega)
      have C58 : x8.toInt < r42.toInt := ti_nle c58
      rw [j_X4_bestPane_162_e]
      have t60 : (x9 + (1 : Int32)).toInt = x9.toInt + (1 : Int) := ti_add (show -2147483648 ≤ x9.toInt + (1 : Int) by omega) (show x9.toInt + (1 : Int) ≤ 2147483647 by omega)
      exact ih _ _ _ _ Iu43 Fu43 Of15_u43 Of34_u43 Of1_u43 Of30_u43 Of18_u43 (by omega) (by decide) (by decide) (by omega) (by omega) (by omega) (by omega)
    have C57 : ¬ x9.toInt = (u43 101 1).toInt := ti_ne c57
    rw [j_X4_bestPane_146_e]
    refine sf_ite (fun c61 => ?_) (fun c61 => ?_)
    · have C61 : r42.toInt ≤ x8.toInt := ti_le c61
      rw [j_X4_bestPane_162_e]
      have t62 : (x9 + (1 : Int32)).toInt = x9.toInt + (1 : Int) := ti_add (show -2147483648 ≤ x9.toInt + (1 : Int) by omega) (show x9.toInt + (1 : Int) ≤ 2147483647 by omega)
      exact ih _ _ _ _ Iu43 Fu43 Of15_u43 Of34_u43 Of1_u43 Of30_u43 Of18_u43 (by omega) (by omega) (by omega) (by omega) (by omega) (by omega) (by omega)
    have C61 : x8.toInt < r42.toInt := ti_nle c61
    rw [j_X4_bestPane_162_e]
    have t63 : (x9 + (1 : Int32)).toInt = x9.toInt + (1 : Int) := ti_add (show -2147483648 ≤ x9.toInt + (1 : Int) by omega) (show x9.toInt + (1 : Int) ≤ 2147483647 by omega)
    exact ih _ _ _ _ Iu43 Fu43 Of15_u43 Of34_u43 Of1_u43 Of30_u43 Of18_u43 (by omega) (by omega) (by omega) (by omega) (by omega) (by omega) (by omega)
set_option maxHeartbeats 4000000 in
set_option maxRecDepth 100000 in
theorem s_X4_bestPane {F : Nat} (hF : 73786976294838206464 ≤ F) {x1 : Int32} {x2 : Int32} {x3 : Int32} {x4 : Int32} {τ : Mem} (hI : wiM τ) : sf (f_X4_bestPane F x1 x2 x3 x4 τ) (fun r s => wiM s ∧ (∀ k, k < 101 → s k = τ k) ∧ s 101 15 = τ 101 15 ∧ s 101 34 = τ 101 34 ∧ s 101 1 = τ 101 1 ∧ s 101 30 = τ 101 30 ∧ s 101 18 = τ 101 18 ∧ -2147483648 ≤ r.toInt ∧ r.toInt ≤ 2147483647) := by
  have Fτ : ∀ k, k < 101 → τ k = τ k := fun _ _ => rfl
  have Of15_τ : τ 101 15 = τ 101 15 := rfl
  have Of34_τ : τ 101 34 = τ 101 34 := rfl
  have Of1_τ : τ 101 1 = τ 101 1 := rfl
  have Of30_τ : τ 101 30 = τ 101 30 := rfl
  have Of18_τ : τ 101 18 = τ 101 18 := rfl
  rw [f_X4_bestPane_e]
  refine sf_lt (fun s1 hs1 => ?_)
  have Is1 : wiM s1 := by rw [hs1]; exact wm_fld hI (by decide) (by decide) (by decide) (by decide) (by decide) (by decide) (by decide)
  have Fs1 : ∀ k, k < 101 → s1 k = τ k := fun k hk => (show s1 k = τ k by rw [hs1, up2_k (by omega)]).trans (Fτ k hk)
  have Of15_s1 : s1 101 15 = τ 101 15 := (show s1 101 15 = τ 101 15 by rw [hs1, up2_i (by decide)]).trans Of15_τ
  have Of34_s1 : s1 101 34 = τ 101 34 := (show s1 101 34 = τ 101 34 by rw [hs1, up2_i (by decide)]).trans Of34_τ
  have Of1_s1 : s1 101 1 = τ 101 1 := (show s1 101 1 = τ 101 1 by rw [hs1, up2_i (by decide)]).trans Of1_τ
  have Of30_s1 : s1 101 30 = τ 101 30 := (show s1 101 30 = τ 101 30 by rw [hs1, up2_i (by decide)]).trans Of30_τ
  have Of18_s1 : s1 101 18 = τ 101 18 := (show s1 101 18 = τ 101 18 by rw [hs1, up2_i (by decide)]).trans Of18_τ
  have b2 := ti_lo x1
  have b3 := ti_hi x1
  refine sf_bnd (s_X4_isLooker hF Is1) (fun r4 u5 p6 => ?_)
  obtain ⟨e9, p6⟩ := p6
  have e9 := e9.symm
  subst e9
  rcases p6 with ⟨rfl, q7, q8⟩ | p6
  · refine sf_ite (fun c9 => ?_) (fun c9 => ?_)
    · have C9 : (1 : Int) = (0 : Int) := ti_eq c9
      exfalso; omega
    have C9 : ¬ (1 : Int) = (0 : Int) := ti_ne c9
    have b10 := ti_lo x2
    have b11 := ti_hi x2
    refine sf_bnd (s_X4_isHour hF Is1) (fun r12 u13 p14 => ?_)
    obtain ⟨e9, p14⟩ := p14
    have e9 := e9.symm
    subst e9
    rcases p14 with ⟨rfl, q15, q16⟩ | p14
    · refine sf_ite (fun c17 => ?_) (fun c17 => ?_)
      · have C17 : (1 : Int) = (0 : Int) := ti_eq c17
        exfalso; omega
      have C17 : ¬ (1 : Int) = (0 : Int) := ti_ne c17
      refine sf_in ?_
      rw [f_X4_wrongNumber_e]
      have b18 := ti_lo x3
      have b19 := ti_hi x3
      refine sf_ite (fun c20 => ?_) (fun c20 => ?_)
      · have C20 : (0 : Int) ≤ x3.toInt := ti_le c20
        refine sf_ite (fun c21 => ?_) (fun c21 => ?_)
        · have C21 : x3.toInt ≤ (999 : Int) := ti_le c21
          refine sf_ret ?_
          rw [j_X4_bestPane_32_e]
          refine sf_in ?_
          rw [f_X4_wrongBit_e]
          refine sf_ite (fun c22 => ?_) (fun c22 => ?_)
          · have C22 : (0 : Int) = (0 : Int) := ti_eq c22
            refine sf_in ?_
            rw [f_X4_in_e]
            have b23 := ti_lo x4
            have b24 := ti_hi x4
            have b25 := ti_lo (lg_cmp (Int32.toInt64 x4) (0 : Int64))
            have b26 := ti_hi (lg_cmp (Int32.toInt64 x4) (0 : Int64))
            refine sf_ite (fun c27 => ?_) (fun c27 => ?_)
            · have C27 : (lg_cmp (Int32.toInt64 x4) (0 : Int64)).toInt < (0 : Int) := ti_lt c27
              have L27 : x4.toInt < (0 : Int) := by have q := lg_ltl c27; (repeat (rw [Int32.toInt_toInt64] at q)); exact q
              rw [j_X4_in_17_e]
              refine sf_ret ?_
              refine sf_ite (fun c28 => ?_) (fun c28 => ?_)
              · have C28 : (0 : Int) = (0 : Int) := ti_eq c28
                refine sf_ret ?_
                refine sf_ite (fun c29 => ?_) (fun c29 => ?_)
                · have C29 : (0 : Int) ≤ (-2 : Int) := ti_le c29
                  exfalso; omega
                have C29 : (-2 : Int) < (0 : Int) := ti_nle c29
                refine sf_bnd (s_X4_refuse hF Is1 (by decide) (by decide)) (fun r30 u31 p32 => ?_)
                obtain ⟨Iu31, Fu31_, Of15_u31_, Of34_u31_, Of1_u31_, Of30_u31_, Of18_u31_, p32_1, p32_2, p32_x0⟩ := p32
                have Fu31 : ∀ k, k < 101 → u31 k = τ k := fun k hk => (Fu31_ k hk).trans (Fs1 k hk)
                have Of15_u31 : u31 101 15 = τ 101 15 := Of15_u31_.trans Of15_s1
                have Of34_u31 : u31 101 34 = τ 101 34 := Of34_u31_.trans Of34_s1
                have Of1_u31 : u31 101 1 = τ 101 1 := Of1_u31_.trans Of1_s1
                have Of30_u31 : u31 101 30 = τ 101 30 := Of30_u31_.trans Of30_s1
                have Of18_u31 : u31 101 18 = τ 101 18 := Of18_u31_.trans Of18_s1
                replace p32_x0 : r30.toInt = (-2 : Int) := p32_x0
                exact sf_ret ⟨Iu31, Fu31, Of15_u31, Of34_u31, Of1_u31, Of30_u31, Of18_u31, ti_lo _, ti_hi _⟩
              have C28 : ¬ (0 : Int) = (0 : Int) := ti_ne c28
              exfalso; omega
            have C27 : (0 : Int) ≤ (lg_cmp (Int32.toInt64 x4) (0 : Int64)).toInt := ti_nlt c27
            have L27 : (0 : Int) ≤ x4.toInt := by have q := lg_ltln c27; (repeat (rw [Int32.toInt_toInt64] at q)); exact q
            have b33 := ti_lo (lg_cmp (Int32.toInt64 x4) (Int32.toInt64 (1 : Int32)))
            have b34 := ti_hi (lg_cmp (Int32.toInt64 x4) (Int32.toInt64 (1 : Int32)))
            refine sf_ite (fun c35 => ?_) (fun c35 => ?_)
            · have C35 : (0 : Int) < (lg_cmp (Int32.toInt64 x4) (Int32.toInt64 (1 : Int32))).toInt := ti_lt c35
              have L35 : (1 : Int) < x4.toInt := by have q := lg_ltr c35; (repeat (rw [Int32.toInt_toInt64] at q)); exact q
              rw [j_X4_in_17_e]
              refine sf_ret ?_
              refine sf_ite (fun c36 => ?_) (fun c36 => ?_)
              · have C36 : (0 : Int) = (0 : Int) := ti_eq c36
                refine sf_ret ?_
                refine sf_ite (fun c37 => ?_) (fun c37 => ?_)
                · have C37 : (0 : Int) ≤ (-2 : Int) := ti_le c37
                  exfalso; omega
                have C37 : (-2 : Int) < (0 : Int) := ti_nle c37
                refine sf_bnd (s_X4_refuse hF Is1 (by decide) (by decide)) (fun r38 u39 p40 => ?_)
                obtain ⟨Iu39, Fu39_, Of15_u39_, Of34_u39_, Of1_u39_, Of30_u39_, Of18_u39_, p40_1, p40_2, p40_x0⟩ := p40
                have Fu39 : ∀ k, k < 101 → u39 k = τ k := fun k hk => (Fu39_ k hk).trans (Fs1 k hk)
                have Of15_u39 : u39 101 15 = τ 101 15 := Of15_u39_.trans Of15_s1
                have Of34_u39 : u39 101 34 = τ 101 34 := Of34_u39_.trans Of34_s1
                have Of1_u39 : u39 101 1 = τ 101 1 := Of1_u39_.trans Of1_s1
                have Of30_u39 : u39 101 30 = τ 101 30 := Of30_u39_.trans Of30_s1
                have Of18_u39 : u39 101 18 = τ 101 18 := Of18_u39_.trans Of18_s1
                replace p40_x0 : r38.toInt = (-2 : Int) := p40_x0
                exact sf_ret ⟨Iu39, Fu39, Of15_u39, Of34_u39, Of1_u39, Of30_u39, Of18_u39, ti_lo _, ti_hi _⟩
              have C36 : ¬ (0 : Int) = (0 : Int) := ti_ne c36
              exfalso; omega
            have C35 : (lg_cmp (Int32.toInt64 x4) (Int32.toInt64 (1 : Int32))).toInt ≤ (0 : Int) := ti_nlt c35
            have L35 : x4.toInt ≤ (1 : Int) := by have q := lg_ltrn c35; (repeat (rw [Int32.toInt_toInt64] at q)); exact q
            refine sf_ret ?_
            refine sf_ite (fun c41 => ?_) (fun c41 => ?_)
            · have C41 : (1 : Int) = (0 : Int) := ti_eq c41
              exfalso; omega
            have C41 : ¬ (1 : Int) = (0 : Int) := ti_ne c41
            rw [j_X4_wrongBit_20_e]
            refine sf_ret ?_
            refine sf_ite (fun c42 => ?_) (fun c42 => ?_)
            · have C42 : (0 : Int) ≤ (0 : Int) := ti_le c42
              have t43 : ((24 : Int32) * x1).toInt = (24 : Int) * x1.toInt := ti_mul (show -2147483648 ≤ (24 : Int) * x1.toInt by omega) (show (24 : Int) * x1.toInt ≤ 2147483647 by omega)
              have t44 : (((24 : Int32) * x1) + x2).toInt = ((24 : Int32) * x1).toInt + x2.toInt := ti_add (show -2147483648 ≤ ((24 : Int32) * x1).toInt + x2.toInt by omega) (show ((24 : Int32) * x1).toInt + x2.toInt ≤ 2147483647 by omega)
              refine sf_chk (ti_in (by omega) (by omega)) ?_
              have v45 : Int32.toNatClampNeg (((24 : Int32) * x1) + x2) = (((24 : Int32) * x1) + x2).toInt.toNat := rfl
              have m47 := wx_106 Is1 (Int32.toNatClampNeg (((24 : Int32) * x1) + x2))
              refine sf_lt (fun z46 hz46 => ?_)
              have hz46_ : z46.toInt = (s1 106 (Int32.toNatClampNeg (((24 : Int32) * x1) + x2))).toInt := (show z46.toInt = (s1 106 (Int32.toNatClampNeg (((24 : Int32) * x1) + x2))).toInt from congrArg Int32.toInt hz46)
              have l_0 : (0 : Int32).toInt = 0 := rfl
              exact sl_X4_bestPane_74 hF (by omega) (by omega) (by omega) (by omega) (by omega) (by omega) (by omega) (by omega) (by omega) (by omega) _ _ _ _ _ Is1 Fs1 Of15_s1 Of34_s1 Of1_s1 Of30_s1 Of18_s1 (by omega) (by decide) (by decide) (by decide) (by decide) (by decide) (by decide)
            have C42 : (0 : Int) < (0 : Int) := ti_nle c42
            exfalso; omega
          have C22 : ¬ (0 : Int) = (0 : Int) := ti_ne c22
          exfalso; omega
        have C21 : (999 : Int) < x3.toInt := ti_nle c21
        refine sf_ret ?_
        rw [j_X4_bestPane_32_e]
        refine sf_in ?_
        rw [f_X4_wrongBit_e]
        refine sf_ite (fun c48 => ?_) (fun c48 => ?_)
        · have C48 : (-6 : Int) = (0 : Int) := ti_eq c48
          exfalso; omega
        have C48 : ¬ (-6 : Int) = (0 : Int) := ti_ne c48
        rw [j_X4_wrongBit_20_e]
        refine sf_ret ?_
        refine sf_ite (fun c49 => ?_) (fun c49 => ?_)
        · have C49 : (0 : Int) ≤ (-6 : Int) := ti_le c49
          exfalso; omega
        have C49 : (-6 : Int) < (0 : Int) := ti_nle c49
        refine sf_bnd (s_X4_refuse hF Is1 (by decide) (by decide)) (fun r50 u51 p52 => ?_)
        obtain ⟨Iu51, Fu51_, Of15_u51_, Of34_u51_, Of1_u51_, Of30_u51_, Of18_u51_, p52_1, p52_2, p52_x0⟩ := p52
        have Fu51 : ∀ k, k < 101 → u51 k = τ k := fun k hk => (Fu51_ k hk).trans (Fs1 k hk)
        have Of15_u51 : u51 101 15 = τ 101 15 := Of15_u51_.trans Of15_s1
        have Of34_u51 : u51 101 34 = τ 101 34 := Of34_u51_.trans Of34_s1
        have Of1_u51 : u51 101 1 = τ 101 1 := Of1_u51_.trans Of1_s1
        have Of30_u51 : u51 101 30 = τ 101 30 := Of30_u51_.trans Of30_s1
        have Of18_u51 : u51 101 18 = τ 101 18 := Of18_u51_.trans Of18_s1
        replace p52_x0 : r50.toInt = (-6 : Int) := p52_x0
        exact sf_ret ⟨Iu51, Fu51, Of15_u51, Of34_u51, Of1_u51, Of30_u51, Of18_u51, ti_lo _, ti_hi _⟩
      have C20 : x3.toInt < (0 : Int) := ti_nle c20
      refine sf_ret ?_
      rw [j_X4_bestPane_32_e]
      refine sf_in ?_
      rw [f_X4_wrongBit_e]
      refine sf_ite (fun c53 => ?_) (fun c53 => ?_)
      · have C53 : (-4 : Int) = (0 : Int) := ti_eq c53
        exfalso; omega
      have C53 : ¬ (-4 : Int) = (0 : Int) := ti_ne c53
      rw [j_X4_wrongBit_20_e]
      refine sf_ret ?_
      refine sf_ite (fun c54 => ?_) (fun c54 => ?_)
      · have C54 : (0 : Int) ≤ (-4 : Int) := ti_le c54
        exfalso; omega
      have C54 : (-4 : Int) < (0 : Int) := ti_nle c54
      refine sf_bnd (s_X4_refuse hF Is1 (by decide) (by decide)) (fun r55 u56 p57 => ?_)
      obtain ⟨Iu56, Fu56_, Of15_u56_, Of34_u56_, Of1_u56_, Of30_u56_, Of18_u56_, p57_1, p57_2, p57_x0⟩ := p57
      have Fu56 : ∀ k, k < 101 → u56 k = τ k := fun k hk => (Fu56_ k hk).trans (Fs1 k hk)
      have Of15_u56 : u56 101 15 = τ 101 15 := Of15_u56_.trans Of15_s1
      have Of34_u56 : u56 101 34 = τ 101 34 := Of34_u56_.trans Of34_s1
      have Of1_u56 : u56 101 1 = τ 101 1 := Of1_u56_.trans Of1_s1
      have Of30_u56 : u56 101 30 = τ 101 30 := Of30_u56_.trans Of30_s1
      have Of18_u56 : u56 101 18 = τ 101 18 := Of18_u56_.trans Of18_s1
      replace p57_x0 : r55.toInt = (-4 : Int) := p57_x0
      exact sf_ret ⟨Iu56, Fu56, Of15_u56, Of34_u56, Of1_u56, Of30_u56, Of18_u56, ti_lo _, ti_hi _⟩
    obtain ⟨rfl, q58⟩ := p14
    refine sf_ite (fun c59 => ?_) (fun c59 => ?_)
    · have C59 : (0 : Int) = (0 : Int) := ti_eq c59
      rw [j_X4_bestPane_31_e]
      rw [j_X4_bestPane_32_e]
      refine sf_in ?_
      rw [f_X4_wrongBit_e]
      refine sf_ite (fun c60 => ?_) (fun c60 => ?_)
      · have C60 : (-1 : Int) = (0 : Int) := ti_eq c60
        exfalso; omega
      have C60 : ¬ (-1 : Int) = (0 : Int) := ti_ne c60
      rw [j_X4_wrongBit_20_e]
      refine sf_ret ?_
      refine sf_ite (fun c61 => ?_) (fun c61 => ?_)
      · have C61 : (0 : Int) ≤ (-1 : Int) := ti_le c61
        exfalso; omega
      have C61 : (-1 : Int) < (0 : Int) := ti_nle c61
      refine sf_bnd (s_X4_refuse hF Is1 (by decide) (by decide)) (fun r62 u63 p64 => ?_)
      obtain ⟨Iu63, Fu63_, Of15_u63_, Of34_u63_, Of1_u63_, Of30_u63_, Of18_u63_, p64_1, p64_2, p64_x0⟩ := p64
      have Fu63 : ∀ k, k < 101 → u63 k = τ k := fun k hk => (Fu63_ k hk).trans (Fs1 k hk)
      have Of15_u63 : u63 101 15 = τ 101 15 := Of15_u63_.trans Of15_s1
      have Of34_u63 : u63 101 34 = τ 101 34 := Of34_u63_.trans Of34_s1
      have Of1_u63 : u63 101 1 = τ 101 1 := Of1_u63_.trans Of1_s1
      have Of30_u63 : u63 101 30 = τ 101 30 := Of30_u63_.trans Of30_s1
      have Of18_u63 : u63 101 18 = τ 101 18 := Of18_u63_.trans Of18_s1
      replace p64_x0 : r62.toInt = (-1 : Int) := p64_x0
      exact sf_ret ⟨Iu63, Fu63, Of15_u63, Of34_u63, Of1_u63, Of30_u63, Of18_u63, ti_lo _, ti_hi _⟩
    have C59 : ¬ (0 : Int) = (0 : Int) := ti_ne c59
    exfalso; omega
  obtain rfl := p6
  refine sf_ite (fun c65 => ?_) (fun c65 => ?_)
  · have C65 : (0 : Int) = (0 : Int) := ti_eq c65
    rw [j_X4_bestPane_31_e]
    rw [j_X4_bestPane_32_e]
    refine sf_in ?_
    rw [f_X4_wrongBit_e]
    refine sf_ite (fun c66 => ?_) (fun c66 => ?_)
    · have C66 : (-1 : Int) = (0 : Int) := ti_eq c66
      exfalso; omega
    have C66 : ¬ (-1 : Int) = (0 : Int) := ti_ne c66
    rw [j_X4_wrongBit_20_e]
    refine sf_ret ?_
    refine sf_ite (fun c67 => ?_) (fun c67 => ?_)
    · have C67 : (0 : Int) ≤ (-1 : Int) := ti_le c67
      exfalso; omega
    have C67 : (-1 : Int) < (0 : Int) := ti_nle c67
    refine sf_bnd (s_X4_refuse hF Is1 (by decide) (by decide)) (fun r68 u69 p70 => ?_)
    obtain ⟨Iu69, Fu69_, Of15_u69_, Of34_u69_, Of1_u69_, Of30_u69_, Of18_u69_, p70_1, p70_2, p70_x0⟩ := p70
    have Fu69 : ∀ k, k < 101 → u69 k = τ k := fun k hk => (Fu69_ k hk).trans (Fs1 k hk)
    have Of15_u69 : u69 101 15 = τ 101 15 := Of15_u69_.trans Of15_s1
    have Of34_u69 : u69 101 34 = τ 101 34 := Of34_u69_.trans Of34_s1
    have Of1_u69 : u69 101 1 = τ 101 1 := Of1_u69_.trans Of1_s1
    have Of30_u69 : u69 101 30 = τ 101 30 := Of30_u69_.trans Of30_s1
    have Of18_u69 : u69 101 18 = τ 101 18 := Of18_u69_.trans Of18_s1
    replace p70_x0 : r68.toInt = (-1 : Int) := p70_x0
    exact sf_ret ⟨Iu69, Fu69, Of15_u69, Of34_u69, Of1_u69, Of30_u69, Of18_u69, ti_lo _, ti_hi _⟩
  have C65 : ¬ (0 : Int) = (0 : Int) := ti_ne c65
  exfalso; omega
set_option maxHeartbeats 4000000 in
set_option maxRecDepth 100000 in
theorem sl_X4_freeHours_54 {F : Nat} (hF : 73786976294838206464 ≤ F) {x1 : Int32} {x2 : Int32} {x4 : Int32} {τ : Mem} (x1_1 : 0 ≤ x1.toInt) (x1_2 : x1.toInt ≤ 4) (x2_1 : 0 ≤ x2.toInt) (x2_2 : x2.toInt ≤ 999) : ∀ (N : Nat) (x5 : Int32) (x6 : Int32) (σ : Mem), wiM σ → (∀ k, k < 101 → σ k = τ k) → σ 101 15 = τ 101 15 → σ 101 34 = τ 101 34 → σ 101 1 = τ 101 1 → σ 101 30 = τ 101 30 → σ 101 18 = τ 101 18 → 24 < x6.toInt + N → 0 ≤ x6.toInt → x6.toInt ≤ 24 → sf (lp_X4_freeHours_54 F x1 x2 x4 N x5 x6 σ) (fun r s => wiM s ∧ (∀ k, k < 101 → s k = τ k) ∧ s 101 15 = τ 101 15 ∧ s 101 34 = τ 101 34 ∧ s 101 1 = τ 101 1 ∧ s 101 30 = τ 101 30 ∧ s 101 18 = τ 101 18 ∧ -2147483648 ≤ r.toInt ∧ r.toInt ≤ 2147483647) := by
  intro N
  induction N with
  | zero => intro x5 x6 σ hI Fσ Of15_σ Of34_σ Of1_σ Of30_σ Of18_σ hN x6_1 x6_2; exfalso; omega
  | succ N ih =>
    intro x5 x6 σ hI Fσ Of15_σ Of34_σ Of1_σ Of30_σ Of18_σ hN x6_1 x6_2
    rw [lp_X4_freeHours_54_s]
    refine sf_ite (fun c1 => ?_) (fun c1 => ?_)
    · have C1 : (24 : Int) ≤ x6.toInt := ti_le c1
      have b2 := ti_lo x5
      have b3 := ti_hi x5
      exact sf_ret ⟨hI, Fσ, Of15_σ, Of34_σ, Of1_σ, Of30_σ, Of18_σ, ti_lo _, ti_hi _⟩
    have C1 : x6.toInt < (24 : Int) := ti_nle c1
    have t4 : ((24 : Int32) * x1).toInt = (24 : Int) * x1.toInt := ti_mul (show -2147483648 ≤ (24 : Int) * x1.toInt by omega) (show (24 : Int) * x1.toInt ≤ 2147483647 by omega)
    have t5 : (((24 : Int32) * x1) + x6).toInt = ((24 : Int32) * x1).toInt + x6.toInt := ti_add (show -2147483648 ≤ ((24 : Int32) * x1).toInt + x6.toInt by omega) (show ((24 : Int32) * x1).toInt + x6.toInt ≤ 2147483647 by omega)
    refine sf_chk (ti_in (by omega) (by omega)) ?_
    have v6 : Int32.toNatClampNeg (((24 : Int32) * x1) + x6) = (((24 : Int32) * x1) + x6).toInt.toNat := rfl
    have m8 := wx_106 hI (Int32.toNatClampNeg (((24 : Int32) * x1) + x6))
    refine sf_lt (fun z7 hz7 => ?_)
    have hz7_ : z7.toInt = (σ 106 (Int32.toNatClampNeg (((24 : Int32) * x1) + x6))).toInt := (show z7.toInt = (σ 106 (Int32.toNatClampNeg (((24 : Int32) * x1) + x6))).toInt from congrArg Int32.toInt hz7)
    refine sf_lt (fun s9 hs9 => ?_)
    have Is9 : wiM s9 := by rw [hs9]; exact wx_put_106 hI (by decide) (by decide)
    have Fs9 : ∀ k, k < 101 → s9 k = τ k := fun k hk => (show s9 k = σ k by rw [hs9, up2_k (by omega)]).trans (Fσ k hk)
    have Of15_s9 : s9 101 15 = τ 101 15 := (show s9 101 15 = σ 101 15 by rw [hs9, up2_k (by omega)]).trans Of15_σ
    have Of34_s9 : s9 101 34 = τ 101 34 := (show s9 101 34 = σ 101 34 by rw [hs9, up2_k (by omega)]).trans Of34_σ
    have Of1_s9 : s9 101 1 = τ 101 1 := (show s9 101 1 = σ 101 1 by rw [hs9, up2_k (by omega)]).trans Of1_σ
    have Of30_s9 : s9 101 30 = τ 101 30 := (show s9 101 30 = σ 101 30 by rw [hs9, up2_k (by omega)]).trans Of30_σ
    have Of18_s9 : s9 101 18 = τ 101 18 := (show s9 101 18 = σ 101 18 by rw [hs9, up2_k (by omega)]).trans Of18_σ
    refine sf_bnd (s_X4_layBrings hF Is9) (fun r10 u11 p12 => ?_)
    obtain ⟨Iu11, Fu11_, Of15_u11_, Of34_u11_, Of1_u11_, Of30_u11_, Of18_u11_, -⟩ := p12
    have Fu11 : ∀ k, k < 101 → u11 k = τ k := fun k hk => (Fu11_ k hk).trans (Fs9 k hk)
    have Of15_u11 : u11 101 15 = τ 101 15 := Of15_u11_.trans Of15_s9
    have Of34_u11 : u11 101 34 = τ 101 34 := Of34_u11_.trans Of34_s9
    have Of1_u11 : u11 101 1 = τ 101 1 := Of1_u11_.trans Of1_s9
    have Of30_u11 : u11 101 30 = τ 101 30 := Of30_u11_.trans Of30_s9
    have Of18_u11 : u11 101 18 = τ 101 18 := Of18_u11_.trans Of18_s9
    refine sf_ite (fun c13 => ?_) (fun c13 => ?_)
    · have C13 : z7.toInt < (0 : Int) := ti_lt c13
      rw [j_X4_freeHours_118_e]
      rw [j_X4_freeHours_119_e]
      refine sf_chk (ti_in (by omega) (by omega)) ?_
      have v14 : Int32.toNatClampNeg (((24 : Int32) * x1) + x6) = (((24 : Int32) * x1) + x6).toInt.toNat := rfl
      refine sf_lt (fun s15 hs15 => ?_)
      have Is15 : wiM s15 := by rw [hs15]; exact wx_put_106 Iu11 (by omega) (by omega)
      have Fs15 : ∀ k, k < 101 → s15 k = τ k := fun k hk => (show s15 k = u11 k by rw [hs15, up2_k (by omega)]).trans (Fu11 k hk)
      have Of15_s15 : s15 101 15 = τ 101 15 := (show s15 101 15 = u11 101 15 by rw [hs15, up2_k (by omega)]).trans Of15_u11
      have Of34_s15 : s15 101 34 = τ 101 34 := (show s15 101 34 = u11 101 34 by rw [hs15, up2_k (by omega)]).trans Of34_u11
      have Of1_s15 : s15 101 1 = τ 101 1 := (show s15 101 1 = u11 101 1 by rw [hs15, up2_k (by omega)]).trans Of1_u11
      have Of30_s15 : s15 101 30 = τ 101 30 := (show s15 101 30 = u11 101 30 by rw [hs15, up2_k (by omega)]).trans Of30_u11
      have Of18_s15 : s15 101 18 = τ 101 18 := (show s15 101 18 = u11 101 18 by rw [hs15, up2_k (by omega)]).trans Of18_u11
      have b16 := ti_lo (x5 ||| (0 : Int32))
      have b17 := ti_hi (x5 ||| (0 : Int32))
      have t18 : (x6 + (1 : Int32)).toInt = x6.toInt + (1 : Int) := ti_add (show -2147483648 ≤ x6.toInt + (1 : Int) by omega) (show x6.toInt + (1 : Int) ≤ 2147483647 by omega)
      exact ih _ _ _ Is15 Fs15 Of15_s15 Of34_s15 Of1_s15 Of30_s15 Of18_s15 (by omega) (by omega) (by omega)
    have C13 : (0 : Int) ≤ z7.toInt := ti_nlt c13
    refine sf_bnd (s_X4_viewsIn hF Iu11 (by omega) (by omega) (by omega) (by omega)) (fun r19 u20 p21 => ?_)
    obtain ⟨Iu20, Fu20_, Of15_u20_, Of34_u20_, Of1_u20_, Of30_u20_, Of18_u20_, p21_1, p21_2⟩ := p21
    have Fu20 : ∀ k, k < 101 → u20 k = τ k := fun k hk => (Fu20_ k hk).trans (Fu11 k hk)
    have Of15_u20 : u20 101 15 = τ 101 15 := Of15_u20_.trans Of15_u11
    have Of34_u20 : u20 101 34 = τ 101 34 := Of34_u20_.trans Of34_u11
    have Of1_u20 : u20 101 1 = τ 101 1 := Of1_u20_.trans Of1_u11
    have Of30_u20 : u20 101 30 = τ 101 30 := Of30_u20_.trans Of30_u11
    have Of18_u20 : u20 101 18 = τ 101 18 := Of18_u20_.trans Of18_u11
    have b22 := ti_lo r19
    have b23 := ti_hi r19
    have b24 := ti_lo x4
    have b25 := ti_hi x4
    refine sf_ite (fun c26 => ?_) (fun c26 => ?_)
    · have C26 : r19.toInt = x4.toInt := ti_eq c26
      rw [j_X4_freeHours_119_e]
      refine sf_chk (ti_in (by omega) (by omega)) ?_
      have v27 : Int32.toNatClampNeg (((24 : Int32) * x1) + x6) = (((24 : Int32) * x1) + x6).toInt.toNat := rfl
      refine sf_lt (fun s28 hs28 => ?_)
      have Is28 : wiM s28 := by rw [hs28]; exact wx_put_106 Iu20 (by omega) (by omega)
      have Fs28 : ∀ k, k < 101 → s28 k = τ k := fun k hk => (show s28 k = u20 k by rw [hs28, up2_k (by omega)]).trans (Fu20 k hk)
      have Of15_s28 : s28 101 15 = τ 101 15 := (show s28 101 15 = u20 101 15 by rw [hs28, up2_k (by omega)]).trans Of15_u20
      have Of34_s28 : s28 101 34 = τ 101 34 := (show s28 101 34 = u20 101 34 by rw [hs28, up2_k (by omega)]).trans Of34_u20
      have Of1_s28 : s28 101 1 = τ 101 1 := (show s28 101 1 = u20 101 1 by rw [hs28, up2_k (by omega)]).trans Of1_u20
      have Of30_s28 : s28 101 30 = τ 101 30 := (show s28 101 30 = u20 101 30 by rw [hs28, up2_k (by omega)]).trans Of30_u20
      have Of18_s28 : s28 101 18 = τ 101 18 := (show s28 101 18 = u20 101 18 by rw [hs28, up2_k (by omega)]).trans Of18_u20
      have b29 := ti_lo (x5 ||| ((1 : Int32) <<< (x6 &&& 31)))
      have b30 := ti_hi (x5 ||| ((1 : Int32) <<< (x6 &&& 31)))
      have t31 : (x6 + (1 : Int32)).toInt = x6.toInt + (1 : Int) := ti_add (show -2147483648 ≤ x6.toInt + (1 : Int) by omega) (show x6.toInt + (1 : Int) ≤ 2147483647 by omega)
      exact ih _ _ _ Is28 Fs28 Of15_s28 Of34_s28 Of1_s28 Of30_s28 Of18_s28 (by omega) (by omega) (by omega)
    have C26 : ¬ r19.toInt = x4.toInt := ti_ne c26
    rw [j_X4_freeHours_118_e]
    rw [j_X4_freeHours_119_e]
    refine sf_chk (ti_in (by omega) (by omega)) ?_
    have v32 : Int32.toNatClampNeg (((24 : Int32) * x1) + x6) = (((24 : Int32) * x1) + x6).toInt.toNat := rfl
    refine sf_lt (fun s33 hs33 => ?_)
    have Is33 : wiM s33 := by rw [hs33]; exact wx_put_106 Iu20 (by omega) (by omega)
    have Fs33 : ∀ k, k < 101 → s33 k = τ k := fun k hk => (show s33 k = u20 k by rw [hs33, up2_k (by omega)]).trans (Fu20 k hk)
    have Of15_s33 : s33 101 15 = τ 101 15 := (show s33 101 15 = u20 101 15 by rw [hs33, up2_k (by omega)]).trans Of15_u20
    have Of34_s33 : s33 101 34 = τ 101 34 := (show s33 101 34 = u20 101 34 by rw [hs33, up2_k (by omega)]).trans Of34_u20
    have Of1_s33 : s33 101 1 = τ 101 1 := (show s33 101 1 = u20 101 1 by rw [hs33, up2_k (by omega)]).trans Of1_u20
    have Of30_s33 : s33 101 30 = τ 101 30 := (show s33 101 30 = u20 101 30 by rw [hs33, up2_k (by omega)]).trans Of30_u20
    have Of18_s33 : s33 101 18 = τ 101 18 := (show s33 101 18 = u20 101 18 by rw [hs33, up2_k (by omega)]).trans Of18_u20
    have b34 := ti_lo (x5 ||| (0 : Int32))
    have b35 := ti_hi (x5 ||| (0 : Int32))
    have t36 : (x6 + (1 : Int32)).toInt = x6.toInt + (1 : Int) := ti_add (show -2147483648 ≤ x6.toInt + (1 : Int) by omega) (show x6.toInt + (1 : Int) ≤ 2147483647 by omega)
    exact ih _ _ _ Is33 Fs33 Of15_s33 Of34_s33 Of1_s33 Of30_s33 Of18_s33 (by omega) (by omega) (by omega)
set_option maxHeartbeats 4000000 in
set_option maxRecDepth 100000 in
theorem s_X4_freeHours {F : Nat} (hF : 73786976294838206464 ≤ F) {x1 : Int32} {x2 : Int32} {τ : Mem} (hI : wiM τ) : sf (f_X4_freeHours F x1 x2 τ) (fun r s => wiM s ∧ (∀ k, k < 101 → s k = τ k) ∧ s 101 15 = τ 101 15 ∧ s 101 34 = τ 101 34 ∧ s 101 1 = τ 101 1 ∧ s 101 30 = τ 101 30 ∧ s 101 18 = τ 101 18 ∧ -2147483648 ≤ r.toInt ∧ r.toInt ≤ 2147483647) := by
  have Fτ : ∀ k, k < 101 → τ k = τ k := fun _ _ => rfl
  have Of15_τ : τ 101 15 = τ 101 15 := rfl
  have Of34_τ : τ 101 34 = τ 101 34 := rfl
  have Of1_τ : τ 101 1 = τ 101 1 := rfl
  have Of30_τ : τ 101 30 = τ 101 30 := rfl
  have Of18_τ : τ 101 18 = τ 101 18 := rfl
  rw [f_X4_freeHours_e]
  refine sf_lt (fun s1 hs1 => ?_)
  have Is1 : wiM s1 := by rw [hs1]; exact wm_fld hI (by decide) (by decide) (by decide) (by decide) (by decide) (by decide) (by decide)
  have Fs1 : ∀ k, k < 101 → s1 k = τ k := fun k hk => (show s1 k = τ k by rw [hs1, up2_k (by omega)]).trans (Fτ k hk)
  have Of15_s1 : s1 101 15 = τ 101 15 := (show s1 101 15 = τ 101 15 by rw [hs1, up2_i (by decide)]).trans Of15_τ
  have Of34_s1 : s1 101 34 = τ 101 34 := (show s1 101 34 = τ 101 34 by rw [hs1, up2_i (by decide)]).trans Of34_τ
  have Of1_s1 : s1 101 1 = τ 101 1 := (show s1 101 1 = τ 101 1 by rw [hs1, up2_i (by decide)]).trans Of1_τ
  have Of30_s1 : s1 101 30 = τ 101 30 := (show s1 101 30 = τ 101 30 by rw [hs1, up2_i (by decide)]).trans Of30_τ
  have Of18_s1 : s1 101 18 = τ 101 18 := (show s1 101 18 = τ 101 18 by rw [hs1, up2_i (by decide)]).trans Of18_τ
  have b2 := ti_lo x1
  have b3 := ti_hi x1
  refine sf_bnd (s_X4_isLooker hF Is1) (fun r4 u5 p6 => ?_)
  obtain ⟨e9, p6⟩ := p6
  have e9 := e9.symm
  subst e9
  rcases p6 with ⟨rfl, q7, q8⟩ | p6
  · refine sf_ite (fun c9 => ?_) (fun c9 => ?_)
    · have C9 : (1 : Int) = (0 : Int) := ti_eq c9
      exfalso; omega
    have C9 : ¬ (1 : Int) = (0 : Int) := ti_ne c9
    refine sf_in ?_
    rw [f_X4_wrongNumber_e]
    have b10 := ti_lo x2
    have b11 := ti_hi x2
    refine sf_ite (fun c12 => ?_) (fun c12 => ?_)
    · have C12 : (0 : Int) ≤ x2.toInt := ti_le c12
      refine sf_ite (fun c13 => ?_) (fun c13 => ?_)
      · have C13 : x2.toInt ≤ (999 : Int) := ti_le c13
        refine sf_ret ?_
        rw [j_X4_freeHours_25_e]
        refine sf_ite (fun c14 => ?_) (fun c14 => ?_)
        · have C14 : (0 : Int) ≤ (0 : Int) := ti_le c14
          refine sf_bnd (s_X4_layBrings hF Is1) (fun r15 u16 p17 => ?_)
          obtain ⟨Iu16, Fu16_, Of15_u16_, Of34_u16_, Of1_u16_, Of30_u16_, Of18_u16_, -⟩ := p17
          have Fu16 : ∀ k, k < 101 → u16 k = τ k := fun k hk => (Fu16_ k hk).trans (Fs1 k hk)
          have Of15_u16 : u16 101 15 = τ 101 15 := Of15_u16_.trans Of15_s1
          have Of34_u16 : u16 101 34 = τ 101 34 := Of34_u16_.trans Of34_s1
          have Of1_u16 : u16 101 1 = τ 101 1 := Of1_u16_.trans Of1_s1
          have Of30_u16 : u16 101 30 = τ 101 30 := Of30_u16_.trans Of30_s1
          have Of18_u16 : u16 101 18 = τ 101 18 := Of18_u16_.trans Of18_s1
          refine sf_bnd (s_X4_viewsIn hF Iu16 (by omega) (by omega) (by omega) (by omega)) (fun r18 u19 p20 => ?_)
          obtain ⟨Iu19, Fu19_, Of15_u19_, Of34_u19_, Of1_u19_, Of30_u19_, Of18_u19_, p20_1, p20_2⟩ := p20
          have Fu19 : ∀ k, k < 101 → u19 k = τ k := fun k hk => (Fu19_ k hk).trans (Fu16 k hk)
          have Of15_u19 : u19 101 15 = τ 101 15 := Of15_u19_.trans Of15_u16
          have Of34_u19 : u19 101 34 = τ 101 34 := Of34_u19_.trans Of34_u16
          have Of1_u19 : u19 101 1 = τ 101 1 := Of1_u19_.trans Of1_u16
          have Of30_u19 : u19 101 30 = τ 101 30 := Of30_u19_.trans Of30_u16
          have Of18_u19 : u19 101 18 = τ 101 18 := Of18_u19_.trans Of18_u16
          have b21 := ti_lo r18
          have b22 := ti_hi r18
          have l_0 : (0 : Int32).toInt = 0 := rfl
          exact sl_X4_freeHours_54 hF (by omega) (by omega) (by omega) (by omega) _ _ _ _ Iu19 Fu19 Of15_u19 Of34_u19 Of1_u19 Of30_u19 Of18_u19 (by omega) (by decide) (by decide)
        have C14 : (0 : Int) < (0 : Int) := ti_nle c14
        exfalso; omega
      have C13 : (999 : Int) < x2.toInt := ti_nle c13
      refine sf_ret ?_
      rw [j_X4_freeHours_25_e]
      refine sf_ite (fun c23 => ?_) (fun c23 => ?_)
      · have C23 : (0 : Int) ≤ (-6 : Int) := ti_le c23
        exfalso; omega
      have C23 : (-6 : Int) < (0 : Int) := ti_nle c23
      refine sf_bnd (s_X4_refuse hF Is1 (by decide) (by decide)) (fun r24 u25 p26 => ?_)
      obtain ⟨Iu25, Fu25_, Of15_u25_, Of34_u25_, Of1_u25_, Of30_u25_, Of18_u25_, p26_1, p26_2, p26_x0⟩ := p26
      have Fu25 : ∀ k, k < 101 → u25 k = τ k := fun k hk => (Fu25_ k hk).trans (Fs1 k hk)
      have Of15_u25 : u25 101 15 = τ 101 15 := Of15_u25_.trans Of15_s1
      have Of34_u25 : u25 101 34 = τ 101 34 := Of34_u25_.trans Of34_s1
      have Of1_u25 : u25 101 1 = τ 101 1 := Of1_u25_.trans Of1_s1
      have Of30_u25 : u25 101 30 = τ 101 30 := Of30_u25_.trans Of30_s1
      have Of18_u25 : u25 101 18 = τ 101 18 := Of18_u25_.trans Of18_s1
      replace p26_x0 : r24.toInt = (-6 : Int) := p26_x0
      exact sf_ret ⟨Iu25, Fu25, Of15_u25, Of34_u25, Of1_u25, Of30_u25, Of18_u25, ti_lo _, ti_hi _⟩
    have C12 : x2.toInt < (0 : Int) := ti_nle c12
    refine sf_ret ?_
    rw [j_X4_freeHours_25_e]
    refine sf_ite (fun c27 => ?_) (fun c27 => ?_)
    · have C27 : (0 : Int) ≤ (-4 : Int) := ti_le c27
      exfalso; omega
    have C27 : (-4 : Int) < (0 : Int) := ti_nle c27
    refine sf_bnd (s_X4_refuse hF Is1 (by decide) (by decide)) (fun r28 u29 p30 => ?_)
    obtain ⟨Iu29, Fu29_, Of15_u29_, Of34_u29_, Of1_u29_, Of30_u29_, Of18_u29_, p30_1, p30_2, p30_x0⟩ := p30
    have Fu29 : ∀ k, k < 101 → u29 k = τ k := fun k hk => (Fu29_ k hk).trans (Fs1 k hk)
    have Of15_u29 : u29 101 15 = τ 101 15 := Of15_u29_.trans Of15_s1
    have Of34_u29 : u29 101 34 = τ 101 34 := Of34_u29_.trans Of34_s1
    have Of1_u29 : u29 101 1 = τ 101 1 := Of1_u29_.trans Of1_s1
    have Of30_u29 : u29 101 30 = τ 101 30 := Of30_u29_.trans Of30_s1
    have Of18_u29 : u29 101 18 = τ 101 18 := Of18_u29_.trans Of18_s1
    replace p30_x0 : r28.toInt = (-4 : Int) := p30_x0
    exact sf_ret ⟨Iu29, Fu29, Of15_u29, Of34_u29, Of1_u29, Of30_u29, Of18_u29, ti_lo _, ti_hi _⟩
  obtain rfl := p6
  refine sf_ite (fun c31 => ?_) (fun c31 => ?_)
  · have C31 : (0 : Int) = (0 : Int) := ti_eq c31
    rw [j_X4_freeHours_25_e]
    refine sf_ite (fun c32 => ?_) (fun c32 => ?_)
    · have C32 : (0 : Int) ≤ (-1 : Int) := ti_le c32
      exfalso; omega
    have C32 : (-1 : Int) < (0 : Int) := ti_nle c32
    refine sf_bnd (s_X4_refuse hF Is1 (by decide) (by decide)) (fun r33 u34 p35 => ?_)
    obtain ⟨Iu34, Fu34_, Of15_u34_, Of34_u34_, Of1_u34_, Of30_u34_, Of18_u34_, p35_1, p35_2, p35_x0⟩ := p35
    have Fu34 : ∀ k, k < 101 → u34 k = τ k := fun k hk => (Fu34_ k hk).trans (Fs1 k hk)
    have Of15_u34 : u34 101 15 = τ 101 15 := Of15_u34_.trans Of15_s1
    have Of34_u34 : u34 101 34 = τ 101 34 := Of34_u34_.trans Of34_s1
    have Of1_u34 : u34 101 1 = τ 101 1 := Of1_u34_.trans Of1_s1
    have Of30_u34 : u34 101 30 = τ 101 30 := Of30_u34_.trans Of30_s1
    have Of18_u34 : u34 101 18 = τ 101 18 := Of18_u34_.trans Of18_s1
    replace p35_x0 : r33.toInt = (-1 : Int) := p35_x0
    exact sf_ret ⟨Iu34, Fu34, Of15_u34, Of34_u34, Of1_u34, Of30_u34, Of18_u34, ti_lo _, ti_hi _⟩
  have C31 : ¬ (0 : Int) = (0 : Int) := ti_ne c31
  exfalso; omega
set_option maxHeartbeats 4000000 in
set_option maxRecDepth 100000 in
theorem sl_X4_cover_31 {F : Nat} (hF : 73786976294838206464 ≤ F) {x1 : Int32} {x2 : Int32} {x3 : Int32} {k21 : Int32 → Int32 → Mem → Option (Int32 × Mem)} {τ : Mem} (x2_1 : 0 ≤ x2.toInt) (x2_2 : x2.toInt ≤ 63) (x3_1 : 0 ≤ x3.toInt) (x3_2 : x3.toInt ≤ 63) {N21 : Nat} (hM21 : x3.toInt + 1 < (N21 + 1)) (hk21 : ∀ (x2 : Int32) (x3 : Int32) (σ : Mem), wiM σ → (∀ k, k < 101 → σ k = τ k) → σ 101 15 = τ 101 15 → σ 101 34 = τ 101 34 → σ 101 1 = τ 101 1 → σ 101 30 = τ 101 30 → σ 101 18 = τ 101 18 → x3.toInt + 1 < N21 → 0 ≤ x2.toInt → x2.toInt ≤ 63 → -1 ≤ x3.toInt → x3.toInt ≤ 63 → sf (k21 x2 x3 σ) (fun r s => wiM s ∧ (∀ k, k < 101 → s k = τ k) ∧ s 101 15 = τ 101 15 ∧ s 101 34 = τ 101 34 ∧ s 101 1 = τ 101 1 ∧ s 101 30 = τ 101 30 ∧ s 101 18 = τ 101 18 ∧ 0 ≤ r.toInt ∧ r.toInt ≤ 63)) : ∀ (N : Nat) (x4 : Int32) (x5 : Int32) (σ : Mem), wiM σ → (∀ k, k < 101 → σ k = τ k) → σ 101 15 = τ 101 15 → σ 101 34 = τ 101 34 → σ 101 1 = τ 101 1 → σ 101 30 = τ 101 30 → σ 101 18 = τ 101 18 → 6 < x5.toInt + N → 0 ≤ x5.toInt → x5.toInt ≤ 6 → sf (lp_X4_cover_31 F k21 x1 x2 x3 N x4 x5 σ) (fun r s => wiM s ∧ (∀ k, k < 101 → s k = τ k) ∧ s 101 15 = τ 101 15 ∧ s 101 34 = τ 101 34 ∧ s 101 1 = τ 101 1 ∧ s 101 30 = τ 101 30 ∧ s 101 18 = τ 101 18 ∧ 0 ≤ r.toInt ∧ r.toInt ≤ 63) := by
  intro N
  induction N with
  | zero => intro x4 x5 σ hI Fσ Of15_σ Of34_σ Of1_σ Of30_σ Of18_σ hN x5_1 x5_2; exfalso; omega
  | succ N ih =>
    intro x4 x5 σ hI Fσ Of15_σ Of34_σ Of1_σ Of30_σ Of18_σ hN x5_1 x5_2
    rw [lp_X4_cover_31_s]
    have m1 := wx_X4_1 hI
    have e2 : (σ 101 1).toInt = (τ 101 1).toInt := congrArg Int32.toInt Of1_σ
    refine sf_ite (fun c3 => ?_) (fun c3 => ?_)
    · have C3 : (σ 101 1).toInt ≤ x5.toInt := ti_le c3
      have b4 := ti_lo x4
      have b5 := ti_hi x4
      have b6 := ti_lo x1
      have b7 := ti_hi x1
      refine sf_ite (fun c8 => ?_) (fun c8 => ?_)
      · have C8 : x4.toInt = x1.toInt := ti_eq c8
        refine sf_bnd (s_X4_onesOf hF hI) (fun r9 u10 p11 => ?_)
        obtain ⟨e9, p11_1, p11_2⟩ := p11
        have e9 := e9.symm
        subst e9
        refine sf_bnd (s_X4_onesOf hF hI) (fun r12 u13 p14 => ?_)
        obtain ⟨e9, p14_1, p14_2⟩ := p14
        have e9 := e9.symm
        subst e9
        have b15 := ti_lo r12
        have b16 := ti_hi r12
        have b17 := ti_lo r9
        have b18 := ti_hi r9
        refine sf_ite (fun c19 => ?_) (fun c19 => ?_)
        · have C19 : r12.toInt < r9.toInt := ti_lt c19
          rw [j_X4_cover_92_e]
          rw [j_X4_cover_93_e]
          have t20 := ti_m1 (x := x3) (by omega)
          generalize x3 + (-1 : Int32) = x99 at t20 ⊢
          exact hk21 _ _ _ hI Fσ Of15_σ Of34_σ Of1_σ Of30_σ Of18_σ (by omega) (by omega) (by omega) (by omega) (by omega)
        have C19 : r9.toInt ≤ r12.toInt := ti_nlt c19
        rw [j_X4_cover_93_e]
        have t20 := ti_m1 (x := x3) (by omega)
        generalize x3 + (-1 : Int32) = x99 at t20 ⊢
        exact hk21 _ _ _ hI Fσ Of15_σ Of34_σ Of1_σ Of30_σ Of18_σ (by omega) (by omega) (by omega) (by omega) (by omega)
      have C8 : ¬ x4.toInt = x1.toInt := ti_ne c8
      rw [j_X4_cover_92_e]
      rw [j_X4_cover_93_e]
      have t20 := ti_m1 (x := x3) (by omega)
      generalize x3 + (-1 : Int32) = x99 at t20 ⊢
      exact hk21 _ _ _ hI Fσ Of15_σ Of34_σ Of1_σ Of30_σ Of18_σ (by omega) (by omega) (by omega) (by omega) (by omega)
    have C3 : x5.toInt < (σ 101 1).toInt := ti_nle c3
    refine sf_bnd (s_X4_hasBit hF hI (by omega) (by omega)) (fun r23 u24 p25 => ?_)
    obtain ⟨e9, p25_1, p25_2⟩ := p25
    have e9 := e9.symm
    subst e9
    have hb_r23 : r23 = 0 ∨ r23 = 1 := wi_bool p25_1 p25_2
    refine sf_ite (fun c26 => ?_) (fun c26 => ?_)
    · have C26 : r23.toInt = (0 : Int) := ti_eq c26
      rw [j_X4_cover_62_e]
      have b27 := ti_lo (x4 ||| (0 : Int32))
      have b28 := ti_hi (x4 ||| (0 : Int32))
      have t29 : (x5 + (1 : Int32)).toInt = x5.toInt + (1 : Int) := ti_add (show -2147483648 ≤ x5.toInt + (1 : Int) by omega) (show x5.toInt + (1 : Int) ≤ 2147483647 by omega)
      exact ih _ _ _ hI Fσ Of15_σ Of34_σ Of1_σ Of30_σ Of18_σ (by omega) (by omega) (by omega)
    have C26 : ¬ r23.toInt = (0 : Int) := ti_ne c26
    refine sf_chk (ti_in (by omega) (by omega)) ?_
    have v30 : Int32.toNatClampNeg x5 = x5.toInt.toNat := rfl
    rw [j_X4_cover_62_e]
    have b31 := ti_lo (x4 ||| (σ 103 (Int32.toNatClampNeg x5)))
    have b32 := ti_hi (x4 ||| (σ 103 (Int32.toNatClampNeg x5)))
    have t33 : (x5 + (1 : Int32)).toInt = x5.toInt + (1 : Int) := ti_add (show -2147483648 ≤ x5.toInt + (1 : Int) by omega) (show x5.toInt + (1 : Int) ≤ 2147483647 by omega)
    exact ih _ _ _ hI Fσ Of15_σ Of34_σ Of1_σ Of30_σ Of18_σ (by omega) (by omega) (by omega)
set_option maxHeartbeats 4000000 in
set_option maxRecDepth 100000 in
theorem sl_X4_cover_21 {F : Nat} (hF : 73786976294838206464 ≤ F) {x1 : Int32} {τ : Mem} : ∀ (N : Nat) (x2 : Int32) (x3 : Int32) (σ : Mem), wiM σ → (∀ k, k < 101 → σ k = τ k) → σ 101 15 = τ 101 15 → σ 101 34 = τ 101 34 → σ 101 1 = τ 101 1 → σ 101 30 = τ 101 30 → σ 101 18 = τ 101 18 → x3.toInt + 1 < N → 0 ≤ x2.toInt → x2.toInt ≤ 63 → -1 ≤ x3.toInt → x3.toInt ≤ 63 → sf (lp_X4_cover_21 F x1 N x2 x3 σ) (fun r s => wiM s ∧ (∀ k, k < 101 → s k = τ k) ∧ s 101 15 = τ 101 15 ∧ s 101 34 = τ 101 34 ∧ s 101 1 = τ 101 1 ∧ s 101 30 = τ 101 30 ∧ s 101 18 = τ 101 18 ∧ 0 ≤ r.toInt ∧ r.toInt ≤ 63) := by
  intro N
  induction N with
  | zero => intro x2 x3 σ hI Fσ Of15_σ Of34_σ Of1_σ Of30_σ Of18_σ hN x2_1 x2_2 x3_1 x3_2; exfalso; omega
  | succ N ih =>
    intro x2 x3 σ hI Fσ Of15_σ Of34_σ Of1_σ Of30_σ Of18_σ hN x2_1 x2_2 x3_1 x3_2
    rw [lp_X4_cover_21_s]
    refine sf_ite (fun c1 => ?_) (fun c1 => ?_)
    · have C1 : x3.toInt < (0 : Int) := ti_lt c1
      exact sf_ret ⟨hI, Fσ, Of15_σ, Of34_σ, Of1_σ, Of30_σ, Of18_σ, by omega, by omega⟩
    have C1 : (0 : Int) ≤ x3.toInt := ti_nlt c1
    have b2 := ti_lo x1
    have b3 := ti_hi x1
    have l_0 : (0 : Int32).toInt = 0 := rfl
    exact sl_X4_cover_31 hF (by omega) (by omega) (by omega) (by omega) (by omega) ih _ _ _ _ hI Fσ Of15_σ Of34_σ Of1_σ Of30_σ Of18_σ (by omega) (by decide) (by decide)
set_option maxHeartbeats 4000000 in
set_option maxRecDepth 100000 in
theorem s_X4_cover {F : Nat} (hF : 73786976294838206464 ≤ F) {τ : Mem} (hI : wiM τ) : sf (f_X4_cover F τ) (fun r s => wiM s ∧ (∀ k, k < 101 → s k = τ k) ∧ s 101 15 = τ 101 15 ∧ s 101 34 = τ 101 34 ∧ s 101 1 = τ 101 1 ∧ s 101 30 = τ 101 30 ∧ s 101 18 = τ 101 18 ∧ 0 ≤ r.toInt ∧ r.toInt ≤ 63) := by
  have Fτ : ∀ k, k < 101 → τ k = τ k := fun _ _ => rfl
  have Of15_τ : τ 101 15 = τ 101 15 := rfl
  have Of34_τ : τ 101 34 = τ 101 34 := rfl
  have Of1_τ : τ 101 1 = τ 101 1 := rfl
  have Of30_τ : τ 101 30 = τ 101 30 := rfl
  have Of18_τ : τ 101 18 = τ 101 18 := rfl
  rw [f_X4_cover_e]
  refine sf_lt (fun s1 hs1 => ?_)
  have Is1 : wiM s1 := by rw [hs1]; exact wm_fld hI (by decide) (by decide) (by decide) (by decide) (by decide) (by decide) (by decide)
  have Fs1 : ∀ k, k < 101 → s1 k = τ k := fun k hk => (show s1 k = τ k by rw [hs1, up2_k (by omega)]).trans (Fτ k hk)
  have Of15_s1 : s1 101 15 = τ 101 15 := (show s1 101 15 = τ 101 15 by rw [hs1, up2_i (by decide)]).trans Of15_τ
  have Of34_s1 : s1 101 34 = τ 101 34 := (show s1 101 34 = τ 101 34 by rw [hs1, up2_i (by decide)]).trans Of34_τ
  have Of1_s1 : s1 101 1 = τ 101 1 := (show s1 101 1 = τ 101 1 by rw [hs1, up2_i (by decide)]).trans Of1_τ
  have Of30_s1 : s1 101 30 = τ 101 30 := (show s1 101 30 = τ 101 30 by rw [hs1, up2_i (by decide)]).trans Of30_τ
  have Of18_s1 : s1 101 18 = τ 101 18 := (show s1 101 18 = τ 101 18 by rw [hs1, up2_i (by decide)]).trans Of18_τ
  refine sf_bnd (s_X4_allShown hF Is1) (fun r2 u3 p4 => ?_)
  obtain ⟨e9, p4_1, p4_2⟩ := p4
  have e9 := e9.symm
  subst e9
  have m6 := wx_X4_1 Is1
  have m7 := wx_X4_1 hI
  have e8 : (s1 101 1).toInt = (τ 101 1).toInt := congrArg Int32.toInt (by rw [hs1, up2_i (by decide)])
  obtain ⟨w9_1, w9_2⟩ := wi_shl (s1 101 1) (by omega) (by omega)
  have t10 : (((1 : Int32) <<< ((s1 101 1) &&& 31)) - (1 : Int32)).toInt = ((1 : Int32) <<< ((s1 101 1) &&& 31)).toInt - (1 : Int) := ti_sub (show -2147483648 ≤ ((1 : Int32) <<< ((s1 101 1) &&& 31)).toInt - (1 : Int) by omega) (show ((1 : Int32) <<< ((s1 101 1) &&& 31)).toInt - (1 : Int) ≤ 2147483647 by omega)
  refine sf_lt (fun z5 hz5 => ?_)
  have hz5_ : z5.toInt = (((1 : Int32) <<< ((s1 101 1) &&& 31)) - (1 : Int32)).toInt := (show z5.toInt = (((1 : Int32) <<< ((s1 101 1) &&& 31)) - (1 : Int32)).toInt from congrArg Int32.toInt hz5)
  have b11 := ti_lo r2
  have b12 := ti_hi r2
  exact sl_X4_cover_21 hF _ _ _ _ Is1 Fs1 Of15_s1 Of34_s1 Of1_s1 Of30_s1 Of18_s1 (by omega) (by omega) (by omega) (by omega) (by omega)
set_option maxHeartbeats 4000000 in
set_option maxRecDepth 100000 in
theorem sl_X4_shown_22 {F : Nat} (hF : 73786976294838206464 ≤ F) {x1 : Int32} {τ : Mem} (x1_1 : 0 ≤ x1.toInt) (x1_2 : x1.toInt ≤ 7) : ∀ (N : Nat) (x2 : Int32) (x3 : Int32) (σ : Mem), wiM σ → (∀ k, k < 101 → σ k = τ k) → σ 101 15 = τ 101 15 → σ 101 34 = τ 101 34 → σ 101 1 = τ 101 1 → σ 101 30 = τ 101 30 → σ 101 18 = τ 101 18 → 6 < x3.toInt + N → 0 ≤ x3.toInt → x3.toInt ≤ 6 → sf (lp_X4_shown_22 F x1 N x2 x3 σ) (fun r s => wiM s ∧ (∀ k, k < 101 → s k = τ k) ∧ s 101 15 = τ 101 15 ∧ s 101 34 = τ 101 34 ∧ s 101 1 = τ 101 1 ∧ s 101 30 = τ 101 30 ∧ s 101 18 = τ 101 18 ∧ -2147483648 ≤ r.toInt ∧ r.toInt ≤ 2147483647) := by
  intro N
  induction N with
  | zero => intro x2 x3 σ hI Fσ Of15_σ Of34_σ Of1_σ Of30_σ Of18_σ hN x3_1 x3_2; exfalso; omega
  | succ N ih =>
    intro x2 x3 σ hI Fσ Of15_σ Of34_σ Of1_σ Of30_σ Of18_σ hN x3_1 x3_2
    rw [lp_X4_shown_22_s]
    have m1 := wx_X4_1 hI
    have e2 : (σ 101 1).toInt = (τ 101 1).toInt := congrArg Int32.toInt Of1_σ
    refine sf_ite (fun c3 => ?_) (fun c3 => ?_)
    · have C3 : (σ 101 1).toInt ≤ x3.toInt := ti_le c3
      have b4 := ti_lo x2
      have b5 := ti_hi x2
      exact sf_ret ⟨hI, Fσ, Of15_σ, Of34_σ, Of1_σ, Of30_σ, Of18_σ, ti_lo _, ti_hi _⟩
    have C3 : x3.toInt < (σ 101 1).toInt := ti_nle c3
    refine sf_chk (ti_in (by omega) (by omega)) ?_
    have v6 : Int32.toNatClampNeg x3 = x3.toInt.toNat := rfl
    have b7 := ti_lo (σ 103 (Int32.toNatClampNeg x3))
    have b8 := ti_hi (σ 103 (Int32.toNatClampNeg x3))
    refine sf_bnd (s_X4_hasBit hF hI (by omega) (by omega)) (fun r9 u10 p11 => ?_)
    obtain ⟨e9, p11_1, p11_2⟩ := p11
    have e9 := e9.symm
    subst e9
    have hb_r9 : r9 = 0 ∨ r9 = 1 := wi_bool p11_1 p11_2
    refine sf_ite (fun c12 => ?_) (fun c12 => ?_)
    · have C12 : r9.toInt = (0 : Int) := ti_eq c12
      rw [j_X4_shown_49_e]
      have b13 := ti_lo x2
      have b14 := ti_hi x2
      have t15 : (x2 + (0 : Int32)).toInt = x2.toInt + (0 : Int) := ti_add (show -2147483648 ≤ x2.toInt + (0 : Int) by omega) (show x2.toInt + (0 : Int) ≤ 2147483647 by omega)
      have t16 : (x3 + (1 : Int32)).toInt = x3.toInt + (1 : Int) := ti_add (show -2147483648 ≤ x3.toInt + (1 : Int) by omega) (show x3.toInt + (1 : Int) ≤ 2147483647 by omega)
      exact ih _ _ _ hI Fσ Of15_σ Of34_σ Of1_σ Of30_σ Of18_σ (by omega) (by omega) (by omega)
    have C12 : ¬ r9.toInt = (0 : Int) := ti_ne c12
    rw [j_X4_shown_49_e]
    have b17 := ti_lo x2
    have b18 := ti_hi x2
    have b19 := ti_lo (x2 + (1 : Int32))
    have b20 := ti_hi (x2 + (1 : Int32))
    have t21 : (x3 + (1 : Int32)).toInt = x3.toInt + (1 : Int) := ti_add (show -2147483648 ≤ x3.toInt + (1 : Int) by omega) (show x3.toInt + (1 : Int) ≤ 2147483647 by omega)
    exact ih _ _ _ hI Fσ Of15_σ Of34_σ Of1_σ Of30_σ Of18_σ (by omega) (by omega) (by omega)
set_option maxHeartbeats 4000000 in
set_option maxRecDepth 100000 in
theorem s_X4_shown {F : Nat} (hF : 73786976294838206464 ≤ F) {x1 : Int32} {τ : Mem} (hI : wiM τ) : sf (f_X4_shown F x1 τ) (fun r s => wiM s ∧ (∀ k, k < 101 → s k = τ k) ∧ s 101 15 = τ 101 15 ∧ s 101 34 = τ 101 34 ∧ s 101 1 = τ 101 1 ∧ s 101 30 = τ 101 30 ∧ s 101 18 = τ 101 18 ∧ -2147483648 ≤ r.toInt ∧ r.toInt ≤ 2147483647) := by
  have Fτ : ∀ k, k < 101 → τ k = τ k := fun _ _ => rfl
  have Of15_τ : τ 101 15 = τ 101 15 := rfl
  have Of34_τ : τ 101 34 = τ 101 34 := rfl
  have Of1_τ : τ 101 1 = τ 101 1 := rfl
  have Of30_τ : τ 101 30 = τ 101 30 := rfl
  have Of18_τ : τ 101 18 = τ 101 18 := rfl
  rw [f_X4_shown_e]
  refine sf_lt (fun s1 hs1 => ?_)
  have Is1 : wiM s1 := by rw [hs1]; exact wm_fld hI (by decide) (by decide) (by decide) (by decide) (by decide) (by decide) (by decide)
  have Fs1 : ∀ k, k < 101 → s1 k = τ k := fun k hk => (show s1 k = τ k by rw [hs1, up2_k (by omega)]).trans (Fτ k hk)
  have Of15_s1 : s1 101 15 = τ 101 15 := (show s1 101 15 = τ 101 15 by rw [hs1, up2_i (by decide)]).trans Of15_τ
  have Of34_s1 : s1 101 34 = τ 101 34 := (show s1 101 34 = τ 101 34 by rw [hs1, up2_i (by decide)]).trans Of34_τ
  have Of1_s1 : s1 101 1 = τ 101 1 := (show s1 101 1 = τ 101 1 by rw [hs1, up2_i (by decide)]).trans Of1_τ
  have Of30_s1 : s1 101 30 = τ 101 30 := (show s1 101 30 = τ 101 30 by rw [hs1, up2_i (by decide)]).trans Of30_τ
  have Of18_s1 : s1 101 18 = τ 101 18 := (show s1 101 18 = τ 101 18 by rw [hs1, up2_i (by decide)]).trans Of18_τ
  have b2 := ti_lo x1
  have b3 := ti_hi x1
  refine sf_bnd (s_X4_isView hF Is1) (fun r4 u5 p6 => ?_)
  obtain ⟨e9, p6⟩ := p6
  have e9 := e9.symm
  subst e9
  rcases p6 with ⟨rfl, q7, q8⟩ | p6
  · refine sf_ite (fun c9 => ?_) (fun c9 => ?_)
    · have C9 : (1 : Int) = (0 : Int) := ti_eq c9
      exfalso; omega
    have C9 : ¬ (1 : Int) = (0 : Int) := ti_ne c9
    have l_0 : (0 : Int32).toInt = 0 := rfl
    exact sl_X4_shown_22 hF (by omega) (by omega) _ _ _ _ Is1 Fs1 Of15_s1 Of34_s1 Of1_s1 Of30_s1 Of18_s1 (by omega) (by decide) (by decide)
  obtain ⟨rfl, q10⟩ := p6
  refine sf_ite (fun c11 => ?_) (fun c11 => ?_)
  · have C11 : (0 : Int) = (0 : Int) := ti_eq c11
    refine sf_bnd (s_X4_refuse hF Is1 (by decide) (by decide)) (fun r12 u13 p14 => ?_)
    obtain ⟨Iu13, Fu13_, Of15_u13_, Of34_u13_, Of1_u13_, Of30_u13_, Of18_u13_, p14_1, p14_2, p14_x0⟩ := p14
    have Fu13 : ∀ k, k < 101 → u13 k = τ k := fun k hk => (Fu13_ k hk).trans (Fs1 k hk)
    have Of15_u13 : u13 101 15 = τ 101 15 := Of15_u13_.trans Of15_s1
    have Of34_u13 : u13 101 34 = τ 101 34 := Of34_u13_.trans Of34_s1
    have Of1_u13 : u13 101 1 = τ 101 1 := Of1_u13_.trans Of1_s1
    have Of30_u13 : u13 101 30 = τ 101 30 := Of30_u13_.trans Of30_s1
    have Of18_u13 : u13 101 18 = τ 101 18 := Of18_u13_.trans Of18_s1
    replace p14_x0 : r12.toInt = (-1 : Int) := p14_x0
    exact sf_ret ⟨Iu13, Fu13, Of15_u13, Of34_u13, Of1_u13, Of30_u13, Of18_u13, ti_lo _, ti_hi _⟩
  have C11 : ¬ (0 : Int) = (0 : Int) := ti_ne c11
  exfalso; omega
