set_option maxHeartbeats 4000000 in
set_option maxRecDepth 100000 in
theorem sl_X4_bestPane_74 {F : Nat} (hF : 73786976294838206464 ≤ F) {x1 : Int32} {x2 : Int32} {x3 : Int32} {x4 : Int32} {x6 : Int32} {τ : Mem} (x1_1 : 0 ≤ x1.toInt) (x1_2 : x1.toInt ≤ 4) (x2_1 : 0 ≤ x2.toInt) (x2_2 : x2.toInt ≤ 23) (x3_1 : 0 ≤ x3.toInt) (x3_2 : x3.toInt ≤ 999) (x4_1 : 0 ≤ x4.toInt) (x4_2 : x4.toInt ≤ 1) (x6_1 : -9 ≤ x6.toInt) (x6_2 : x6.toInt ≤ 5) : ∀ (N : Nat) (x7 : Int32) (x8 : Int32) (x9 : Int32) (σ : Mem), wiM σ → (∀ k, k < 101 → σ k = τ k) → σ 101 15 = τ 101 15 → σ 101 34 = τ 101 34 → σ 101 1 = τ 101 1 → σ 101 30 = τ 101 30 → σ 101 18 = τ 101 18 → 7 < x9.toInt + N → -1 ≤ x7.toInt → x7.toInt ≤ 9 → -1 ≤ x8.toInt → x8.toInt ≤ 2147483647 → 0 ≤ x9.toInt → x9.toInt ≤ 7 → sf (lp_X4_bestPane_74 F x1 x2 x3 x4 x6 N x7 x8 x9 σ) (fun r s => wiM s ∧ (∀ k, k < 101 → s k = τ k) ∧ s 101 15 = τ 101 15 ∧ s 101 34 = τ 101 34 ∧ s 101 1 = τ 101 1 ∧ s 101 30 = τ 101 30 ∧ s 101 18 = τ 101 18 ∧ -2147483648 ≤ r.toInt ∧ r.toInt ≤ 2147483647) := by
  intro N
  induction N with
  | zero => intro x7 x8 x9 σ hI Fσ Of15_σ Of34_σ Of1_σ Of30_σ Of18_σ hN x7_1 x7_2 x8_1 x8_2 x9_1 x9_2; exfalso; omega
  | succ N ih =>
    intro x7 x8 x9 σ hI Fσ Of15_σ Of34_σ Of1_σ Of30_σ Of18_σ hN x7_1 x7_2 x8_1 x8_2 x9_1 x9_2
    rw [lp_X4_bestPane_74_s]
    have m1 := wx_X4_1 hI
    have e2 : (σ 101 1).toInt = (τ 101 1).toInt := congrArg Int32.toInt Of1_σ
    refine sf_ite (fun c3 => ?_) (fun c3 => ?_)
    · have C3 : (σ 101 1).toInt < x9.toInt := ti_lt c3
      have t4 : ((24 : Int32) * x1).toInt = (24 : Int) * x1.toInt := ti_mul (show -2147483648 ≤ (24 : Int) * x1.toInt by omega) (show (24 : Int) * x1.toInt ≤ 2147483647 by omega)
      have t5 : (((24 : Int32) * x1) + x2).toInt = ((24 : Int32) * x1).toInt + x2.toInt := ti_add (show -2147483648 ≤ ((24 : Int32) * x1).toInt + x2.toInt by omega) (show ((24 : Int32) * x1).toInt + x2.toInt ≤ 2147483647 by omega)
      refine sf_chk (ti_in (by omega) (by omega)) ?_
      have v6 : Int32.toNatClampNeg (((24 : Int32) * x1) + x2) = (((24 : Int32) * x1) + x2).toInt.toNat := rfl
      refine sf_lt (fun s7 hs7 => ?_)
      have Is7 : wiM s7 := by rw [hs7]; exact wx_put_106 hI (by omega) (by omega)
      have Fs7 : ∀ k, k < 101 → s7 k = τ k := fun k hk => (show s7 k = σ k by rw [hs7, up2_k (by omega)]).trans (Fσ k hk)
      have Of15_s7 : s7 101 15 = τ 101 15 := (show s7 101 15 = σ 101 15 by rw [hs7, up2_k (by omega)]).trans Of15_σ
      have Of34_s7 : s7 101 34 = τ 101 34 := (show s7 101 34 = σ 101 34 by rw [hs7, up2_k (by omega)]).trans Of34_σ
      have Of1_s7 : s7 101 1 = τ 101 1 := (show s7 101 1 = σ 101 1 by rw [hs7, up2_k (by omega)]).trans Of1_σ
      have Of30_s7 : s7 101 30 = τ 101 30 := (show s7 101 30 = σ 101 30 by rw [hs7, up2_k (by omega)]).trans Of30_σ
      have Of18_s7 : s7 101 18 = τ 101 18 := (show s7 101 18 = σ 101 18 by rw [hs7, up2_k (by omega)]).trans Of18_σ
      refine sf_ite (fun c8 => ?_) (fun c8 => ?_)
      · have C8 : x4.toInt = (0 : Int) := ti_eq c8
        exact sf_ret ⟨Is7, Fs7, Of15_s7, Of34_s7, Of1_s7, Of30_s7, Of18_s7, ti_lo _, ti_hi _⟩
      have C8 : ¬ x4.toInt = (0 : Int) := ti_ne c8
      have b9 := ti_lo x8
      have b10 := ti_hi x8
      exact sf_ret ⟨Is7, Fs7, Of15_s7, Of34_s7, Of1_s7, Of30_s7, Of18_s7, ti_lo _, ti_hi _⟩
    have C3 : x9.toInt ≤ (σ 101 1).toInt := ti_nlt c3
    refine sf_ite (fun c11 => ?_) (fun c11 => ?_)
    · have C11 : x9.toInt = (σ 101 1).toInt := ti_eq c11
      rw [j_X4_bestPane_109_e]
      have t12 : ((24 : Int32) * x1).toInt = (24 : Int) * x1.toInt := ti_mul (show -2147483648 ≤ (24 : Int) * x1.toInt by omega) (show (24 : Int) * x1.toInt ≤ 2147483647 by omega)
      have t13 : (((24 : Int32) * x1) + x2).toInt = ((24 : Int32) * x1).toInt + x2.toInt := ti_add (show -2147483648 ≤ ((24 : Int32) * x1).toInt + x2.toInt by omega) (show ((24 : Int32) * x1).toInt + x2.toInt ≤ 2147483647 by omega)
      refine sf_chk (ti_in (by omega) (by omega)) ?_
      have v14 : Int32.toNatClampNeg (((24 : Int32) * x1) + x2) = (((24 : Int32) * x1) + x2).toInt.toNat := rfl
      refine sf_lt (fun s15 hs15 => ?_)
      have Is15 : wiM s15 := by rw [hs15]; exact wx_put_106 hI (by decide) (by decide)
      have Fs15 : ∀ k, k < 101 → s15 k = τ k := fun k hk => (show s15 k = σ k by rw [hs15, up2_k (by omega)]).trans (Fσ k hk)
      have Of15_s15 : s15 101 15 = τ 101 15 := (show s15 101 15 = σ 101 15 by rw [hs15, up2_k (by omega)]).trans Of15_σ
      have Of34_s15 : s15 101 34 = τ 101 34 := (show s15 101 34 = σ 101 34 by rw [hs15, up2_k (by omega)]).trans Of34_σ
      have Of1_s15 : s15 101 1 = τ 101 1 := (show s15 101 1 = σ 101 1 by rw [hs15, up2_k (by omega)]).trans Of1_σ
      have Of30_s15 : s15 101 30 = τ 101 30 := (show s15 101 30 = σ 101 30 by rw [hs15, up2_k (by omega)]).trans Of30_σ
      have Of18_s15 : s15 101 18 = τ 101 18 := (show s15 101 18 = σ 101 18 by rw [hs15, up2_k (by omega)]).trans Of18_σ
      refine sf_bnd (s_X4_worthAnew hF Is15 (by omega) (by omega) (by omega) (by omega)) (fun r16 u17 p18 => ?_)
      obtain ⟨Iu17, Fu17_, Of15_u17_, Of34_u17_, Of1_u17_, Of30_u17_, Of18_u17_, p18_1, p18_2⟩ := p18
      have Fu17 : ∀ k, k < 101 → u17 k = τ k := fun k hk => (Fu17_ k hk).trans (Fs15 k hk)
      have Of15_u17 : u17 101 15 = τ 101 15 := Of15_u17_.trans Of15_s15
      have Of34_u17 : u17 101 34 = τ 101 34 := Of34_u17_.trans Of34_s15
      have Of1_u17 : u17 101 1 = τ 101 1 := Of1_u17_.trans Of1_s15
      have Of30_u17 : u17 101 30 = τ 101 30 := Of30_u17_.trans Of30_s15
      have Of18_u17 : u17 101 18 = τ 101 18 := Of18_u17_.trans Of18_s15
      have b19 := ti_lo r16
      have b20 := ti_hi r16
      have b21 := ti_lo x8
      have b22 := ti_hi x8
      refine sf_ite (fun c23 => ?_) (fun c23 => ?_)
      · have C23 : r16.toInt ≤ x8.toInt := ti_le c23
        rw [j_X4_bestPane_146_e]
        refine sf_ite (fun c24 => ?_) (fun c24 => ?_)
        · have C24 : r16.toInt ≤ x8.toInt := ti_le c24
          rw [j_X4_bestPane_162_e]
          have t25 : (x9 + (1 : Int32)).toInt = x9.toInt + (1 : Int) := ti_add (show -2147483648 ≤ x9.toInt + (1 : Int) by omega) (show x9.toInt + (1 : Int) ≤ 2147483647 by omega)
          exact ih _ _ _ _ Iu17 Fu17 Of15_u17 Of34_u17 Of1_u17 Of30_u17 Of18_u17 (by omega) (by omega) (by omega) (by omega) (by omega) (by omega) (by omega)
        have C24 : x8.toInt < r16.toInt := ti_nle c24
        rw [j_X4_bestPane_162_e]
        have t26 : (x9 + (1 : Int32)).toInt = x9.toInt + (1 : Int) := ti_add (show -2147483648 ≤ x9.toInt + (1 : Int) by omega) (show x9.toInt + (1 : Int) ≤ 2147483647 by omega)
        exact ih _ _ _ _ Iu17 Fu17 Of15_u17 Of34_u17 Of1_u17 Of30_u17 Of18_u17 (by omega) (by omega) (by omega) (by omega) (by omega) (by omega) (by omega)
      have C23 : x8.toInt < r16.toInt := ti_nle c23
      have m27 := wx_X4_1 Iu17
      have m28 := wx_X4_1 Is15
      have e29 : (s15 101 1).toInt = (σ 101 1).toInt := congrArg Int32.toInt (by rw [hs15, up2_k (by omega)])
      have e30 : (u17 101 1).toInt = (s15 101 1).toInt := congrArg Int32.toInt Of1_u17_
      refine sf_ite (fun c31 => ?_) (fun c31 => ?_)
      · have C31 : x9.toInt = (u17 101 1).toInt := ti_eq c31
        rw [j_X4_bestPane_146_e]
        refine sf_ite (fun c32 => ?_) (fun c32 => ?_)
        · have C32 : r16.toInt ≤ x8.toInt := ti_le c32
          rw [j_X4_bestPane_162_e]
          have t33 : (x9 + (1 : Int32)).toInt = x9.toInt + (1 : Int) := ti_add (show -2147483648 ≤ x9.toInt + (1 : Int) by omega) (show x9.toInt + (1 : Int) ≤ 2147483647 by omega)
          exact ih _ _ _ _ Iu17 Fu17 Of15_u17 Of34_u17 Of1_u17 Of30_u17 Of18_u17 (by omega) (by decide) (by decide) (by omega) (by omega) (by omega) (by omega)
        have C32 : x8.toInt < r16.toInt := ti_nle c32
        rw [j_X4_bestPane_162_e]
        have t34 : (x9 + (1 : Int32)).toInt = x9.toInt + (1 : Int) := ti_add (show -2147483648 ≤ x9.toInt + (1 : Int) by omega) (show x9.toInt + (1 : Int) ≤ 2147483647 by omega)
        exact ih _ _ _ _ Iu17 Fu17 Of15_u17 Of34_u17 Of1_u17 Of30_u17 Of18_u17 (by omega) (by decide) (by decide) (by omega) (by omega) (by omega) (by omega)
      have C31 : ¬ x9.toInt = (u17 101 1).toInt := ti_ne c31
      rw [j_X4_bestPane_146_e]
      refine sf_ite (fun c35 => ?_) (fun c35 => ?_)
      · have C35 : r16.toInt ≤ x8.toInt := ti_le c35
        rw [j_X4_bestPane_162_e]
        have t36 : (x9 + (1 : Int32)).toInt = x9.toInt + (1 : Int) := ti_add (show -2147483648 ≤ x9.toInt + (1 : Int) by omega) (show x9.toInt + (1 : Int) ≤ 2147483647 by omega)
        exact ih _ _ _ _ Iu17 Fu17 Of15_u17 Of34_u17 Of1_u17 Of30_u17 Of18_u17 (by omega) (by omega) (by omega) (by omega) (by omega) (by omega) (by omega)
      have C35 : x8.toInt < r16.toInt := ti_nle c35
      rw [j_X4_bestPane_162_e]
      have t37 : (x9 + (1 : Int32)).toInt = x9.toInt + (1 : Int) := ti_add (show -2147483648 ≤ x9.toInt + (1 : Int) by omega) (show x9.toInt + (1 : Int) ≤ 2147483647 by omega)
      exact ih _ _ _ _ Iu17 Fu17 Of15_u17 Of34_u17 Of1_u17 Of30_u17 Of18_u17 (by omega) (by omega) (by omega) (by omega) (by omega) (by omega) (by omega)
    have C11 : ¬ x9.toInt = (σ 101 1).toInt := ti_ne c11
    rw [j_X4_bestPane_109_e]
    have t38 : ((24 : Int32) * x1).toInt = (24 : Int) * x1.toInt := ti_mul (show -2147483648 ≤ (24 : Int) * x1.toInt by omega) (show (24 : Int) * x1.toInt ≤ 2147483647 by omega)
    have t39 : (((24 : Int32) * x1) + x2).toInt = ((24 : Int32) * x1).toInt + x2.toInt := ti_add (show -2147483648 ≤ ((24 : Int32) * x1).toInt + x2.toInt by omega) (show ((24 : Int32) * x1).toInt + x2.toInt ≤ 2147483647 by omega)
    refine sf_chk (ti_in (by omega) (by omega)) ?_
    have v40 : Int32.toNatClampNeg (((24 : Int32) * x1) + x2) = (((24 : Int32) * x1) + x2).toInt.toNat := rfl
    refine sf_lt (fun s41 hs41 => ?_)
    have Is41 : wiM s41 := by rw [hs41]; exact wx_put_106 hI (by omega) (by omega)
    have Fs41 : ∀ k, k < 101 → s41 k = τ k := fun k hk => (show s41 k = σ k by rw [hs41, up2_k (by omega)]).trans (Fσ k hk)
    have Of15_s41 : s41 101 15 = τ 101 15 := (show s41 101 15 = σ 101 15 by rw [hs41, up2_k (by omega)]).trans Of15_σ
    have Of34_s41 : s41 101 34 = τ 101 34 := (show s41 101 34 = σ 101 34 by rw [hs41, up2_k (by omega)]).trans Of34_σ
    have Of1_s41 : s41 101 1 = τ 101 1 := (show s41 101 1 = σ 101 1 by rw [hs41, up2_k (by omega)]).trans Of1_σ
    have Of30_s41 : s41 101 30 = τ 101 30 := (show s41 101 30 = σ 101 30 by rw [hs41, up2_k (by omega)]).trans Of30_σ
    have Of18_s41 : s41 101 18 = τ 101 18 := (show s41 101 18 = σ 101 18 by rw [hs41, up2_k (by omega)]).trans Of18_σ
    refine sf_bnd (s_X4_worthAnew hF Is41 (by omega) (by omega) (by omega) (by omega)) (fun r42 u43 p44 => ?_)
    obtain ⟨Iu43, Fu43_, Of15_u43_, Of34_u43_, Of1_u43_, Of30_u43_, Of18_u43_, p44_1, p44_2⟩ := p44
    have Fu43 : ∀ k, k < 101 → u43 k = τ k := fun k hk => (Fu43_ k hk).trans (Fs41 k hk)
    have Of15_u43 : u43 101 15 = τ 101 15 := Of15_u43_.trans Of15_s41
    have Of34_u43 : u43 101 34 = τ 101 34 := Of34_u43_.trans Of34_s41
    have Of1_u43 : u43 101 1 = τ 101 1 := Of1_u43_.trans Of1_s41
    have Of30_u43 : u43 101 30 = τ 101 30 := Of30_u43_.trans Of30_s41
    have Of18_u43 : u43 101 18 = τ 101 18 := Of18_u43_.trans Of18_s41
    have b45 := ti_lo r42
    have b46 := ti_hi r42
    have b47 := ti_lo x8
    have b48 := ti_hi x8
    refine sf_ite (fun c49 => ?_) (fun c49 => ?_)
    · have C49 : r42.toInt ≤ x8.toInt := ti_le c49
      rw [j_X4_bestPane_146_e]
      refine sf_ite (fun c50 => ?_) (fun c50 => ?_)
      · have C50 : r42.toInt ≤ x8.toInt := ti_le c50
        rw [j_X4_bestPane_162_e]
        have t51 : (x9 + (1 : Int32)).toInt = x9.toInt + (1 : Int) := ti_add (show -2147483648 ≤ x9.toInt + (1 : Int) by omega) (show x9.toInt + (1 : Int) ≤ 2147483647 by omega)
        exact ih _ _ _ _ Iu43 Fu43 Of15_u43 Of34_u43 Of1_u43 Of30_u43 Of18_u43 (by omega) (by omega) (by omega) (by omega) (by omega) (by omega) (by omega)
      have C50 : x8.toInt < r42.toInt := ti_nle c50
      rw [j_X4_bestPane_162_e]
      have t52 : (x9 + (1 : Int32)).toInt = x9.toInt + (1 : Int) := ti_add (show -2147483648 ≤ x9.toInt + (1 : Int) by omega) (show x9.toInt + (1 : Int) ≤ 2147483647 by omega)
      exact ih _ _ _ _ Iu43 Fu43 Of15_u43 Of34_u43 Of1_u43 Of30_u43 Of18_u43 (by omega) (by omega) (by omega) (by omega) (by omega) (by omega) (by omega)
    have C49 : x8.toInt < r42.toInt := ti_nle c49
    have m53 := wx_X4_1 Iu43
    have m54 := wx_X4_1 Is41
    have e55 : (s41 101 1).toInt = (σ 101 1).toInt := congrArg Int32.toInt (by rw [hs41, up2_k (by omega)])
    have e56 : (u43 101 1).toInt = (s41 101 1).toInt := congrArg Int32.toInt Of1_u43_
    refine sf_ite (fun c57 => ?_) (fun c57 => ?_)
    · have C57 : x9.toInt = (u43 101 1).toInt := ti_eq c57
      rw [j_X4_bestPane_146_e]
      refine sf_ite (fun c58 => ?_) (fun c58 => ?_)
      · have C58 : r42.toInt ≤ x8.toInt := ti_le c58
        rw [j_X4_bestPane_162_e]
        have t59 : (x9 + (1 : Int32)).toInt = x9.toInt + (1 : Int) := ti_add (show -2147483648 ≤ x9.toInt + (1 : Int) by omega) (show x9.toInt + (1 : Int) ≤ 2147483647 by omega)
        exact ih _ _ _ _ Iu43 Fu43 Of15_u43 Of34_u43 Of1_u43 Of30_u43 Of18_u43 (by omega) (by decide) (by decide) (by omega) (by omega) (by omega) (by omega)
      have C58 : x8.toInt < r42.toInt := ti_nle c58
      rw [j_X4_bestPane_162_e]
      have t60 : (x9 + (1 : Int32)).toInt = x9.toInt + (1 : Int) := ti_add (show -2147483648 ≤ x9.toInt + (1 : Int) by omega) (show x9.toInt + (1 : Int) ≤ 2147483647 by omega)
      exact ih _ _ _ _ Iu43 Fu43 Of15_u43 Of34_u43 Of1_u43 Of30_u43 Of18_u43 (by omega) (by decide) (by decide) (by omega) (by omega) (by omega) (by omega)
    have C57 : ¬ x9.toInt = (u43 101 1).toInt := ti_ne c57
    rw [j_X4_bestPane_146_e]
    refine sf_ite (fun c61 => ?_) (fun c61 => ?_)
    · have C61 : r42.toInt ≤ x8.toInt := ti_le c61
      rw [j_X4_bestPane_162_e]
      have t62 : (x9 + (1 : Int32)).toInt = x9.toInt + (1 : Int) := ti_add (show -2147483648 ≤ x9.toInt + (1 : Int) by omega) (show x9.toInt + (1 : Int) ≤ 2147483647 by omega)
      exact ih _ _ _ _ Iu43 Fu43 Of15_u43 Of34_u43 Of1_u43 Of30_u43 Of18_u43 (by omega) (by omega) (by omega) (by omega) (by omega) (by omega) (by omega)
    have C61 : x8.toInt < r42.toInt := ti_nle c61
    rw [j_X4_bestPane_162_e]
    have t63 : (x9 + (1 : Int32)).toInt = x9.toInt + (1 : Int) := ti_add (show -2147483648 ≤ x9.toInt + (1 : Int) by omega) (show x9.toInt + (1 : Int) ≤ 2147483647 by omega)
    exact ih _ _ _ _ Iu43 Fu43 Of15_u43 Of34_u43 Of1_u43 Of30_u43 Of18_u43 (by omega) (by omega) (by omega) (by omega) (by omega) (by omega) (by omega)
set_option maxHeartbeats 4000000 in
set_option maxRecDepth 100000 in
theorem s_X4_bestPane {F : Nat} (hF : 73786976294838206464 ≤ F) {x1 : Int32} {x2 : Int32} {x3 : Int32} {x4 : Int32} {τ : Mem} (hI : wiM τ) : sf (f_X4_bestPane F x1 x2 x3 x4 τ) (fun r s => wiM s ∧ (∀ k, k < 101 → s k = τ k) ∧ s 101 15 = τ 101 15 ∧ s 101 34 = τ 101 34 ∧ s 101 1 = τ 101 1 ∧ s 101 30 = τ 101 30 ∧ s 101 18 = τ 101 18 ∧ -2147483648 ≤ r.toInt ∧ r.toInt ≤ 2147483647) := by
  have Fτ : ∀ k, k < 101 → τ k = τ k := fun _ _ => rfl
  have Of15_τ : τ 101 15 = τ 101 15 := rfl
  have Of34_τ : τ 101 34 = τ 101 34 := rfl
  have Of1_τ : τ 101 1 = τ 101 1 := rfl
  have Of30_τ : τ 101 30 = τ 101 30 := rfl
  have Of18_τ : τ 101 18 = τ 101 18 := rfl
  rw [f_X4_bestPane_e]
  refine sf_lt (fun s1 hs1 => ?_)
  have Is1 : wiM s1 := by rw [hs1]; exact wm_fld hI (by decide) (by decide) (by decide) (by decide) (by decide) (by decide) (by decide)
  have Fs1 : ∀ k, k < 101 → s1 k = τ k := fun k hk => (show s1 k = τ k by rw [hs1, up2_k (by omega)]).trans (Fτ k hk)
  have Of15_s1 : s1 101 15 = τ 101 15 := (show s1 101 15 = τ 101 15 by rw [hs1, up2_i (by decide)]).trans Of15_τ
  have Of34_s1 : s1 101 34 = τ 101 34 := (show s1 101 34 = τ 101 34 by rw [hs1, up2_i (by decide)]).trans Of34_τ
  have Of1_s1 : s1 101 1 = τ 101 1 := (show s1 101 1 = τ 101 1 by rw [hs1, up2_i (by decide)]).trans Of1_τ
  have Of30_s1 : s1 101 30 = τ 101 30 := (show s1 101 30 = τ 101 30 by rw [hs1, up2_i (by decide)]).trans Of30_τ
  have Of18_s1 : s1 101 18 = τ 101 18 := (show s1 101 18 = τ 101 18 by rw [hs1, up2_i (by decide)]).trans Of18_τ
  have b2 := ti_lo x1
  have b3 := ti_hi x1
  refine sf_bnd (s_X4_isLooker hF Is1) (fun r4 u5 p6 => ?_)
  obtain ⟨e9, p6⟩ := p6
  have e9 := e9.symm
  subst e9
  rcases p6 with ⟨rfl, q7, q8⟩ | p6
  · refine sf_ite (fun c9 => ?_) (fun c9 => ?_)
    · have C9 : (1 : Int) = (0 : Int) := ti_eq c9
      exfalso; omega
    have C9 : ¬ (1 : Int) = (0 : Int) := ti_ne c9
    have b10 := ti_lo x2
    have b11 := ti_hi x2
    refine sf_bnd (s_X4_isHour hF Is1) (fun r12 u13 p14 => ?_)
    obtain ⟨e9, p14⟩ := p14
    have e9 := e9.symm
    subst e9
    rcases p14 with ⟨rfl, q15, q16⟩ | p14
    · refine sf_ite (fun c17 => ?_) (fun c17 => ?_)
      · have C17 : (1 : Int) = (0 : Int) := ti_eq c17
        exfalso; omega
      have C17 : ¬ (1 : Int) = (0 : Int) := ti_ne c17
      refine sf_in ?_
      rw [f_X4_wrongNumber_e]
      have b18 := ti_lo x3
      have b19 := ti_hi x3
      refine sf_ite (fun c20 => ?_) (fun c20 => ?_)
      · have C20 : (0 : Int) ≤ x3.toInt := ti_le c20
        refine sf_ite (fun c21 => ?_) (fun c21 => ?_)
        · have C21 : x3.toInt ≤ (999 : Int) := ti_le c21
          refine sf_ret ?_
          rw [j_X4_bestPane_32_e]
          refine sf_in ?_
          rw [f_X4_wrongBit_e]
          refine sf_ite (fun c22 => ?_) (fun c22 => ?_)
          · have C22 : (0 : Int) = (0 : Int) := ti_eq c22
            refine sf_in ?_
            rw [f_X4_in_e]
            have b23 := ti_lo x4
            have b24 := ti_hi x4
            have b25 := ti_lo (lg_cmp (Int32.toInt64 x4) (0 : Int64))
            have b26 := ti_hi (lg_cmp (Int32.toInt64 x4) (0 : Int64))
            refine sf_ite (fun c27 => ?_) (fun c27 => ?_)
            · have C27 : (lg_cmp (Int32.toInt64 x4) (0 : Int64)).toInt < (0 : Int) := ti_lt c27
              have L27 : x4.toInt < (0 : Int) := by have q := lg_ltl c27; (repeat (rw [Int32.toInt_toInt64] at q)); exact q
              rw [j_X4_in_17_e]
              refine sf_ret ?_
              refine sf_ite (fun c28 => ?_) (fun c28 => ?_)
              · have C28 : (0 : Int) = (0 : Int) := ti_eq c28
                refine sf_ret ?_
                refine sf_ite (fun c29 => ?_) (fun c29 => ?_)
                · have C29 : (0 : Int) ≤ (-2 : Int) := ti_le c29
                  exfalso; omega
                have C29 : (-2 : Int) < (0 : Int) := ti_nle c29
                refine sf_bnd (s_X4_refuse hF Is1 (by decide) (by decide)) (fun r30 u31 p32 => ?_)
                obtain ⟨Iu31, Fu31_, Of15_u31_, Of34_u31_, Of1_u31_, Of30_u31_, Of18_u31_, p32_1, p32_2, p32_x0⟩ := p32
                have Fu31 : ∀ k, k < 101 → u31 k = τ k := fun k hk => (Fu31_ k hk).trans (Fs1 k hk)
                have Of15_u31 : u31 101 15 = τ 101 15 := Of15_u31_.trans Of15_s1
                have Of34_u31 : u31 101 34 = τ 101 34 := Of34_u31_.trans Of34_s1
                have Of1_u31 : u31 101 1 = τ 101 1 := Of1_u31_.trans Of1_s1
                have Of30_u31 : u31 101 30 = τ 101 30 := Of30_u31_.trans Of30_s1
                have Of18_u31 : u31 101 18 = τ 101 18 := Of18_u31_.trans Of18_s1
                replace p32_x0 : r30.toInt = (-2 : Int) := p32_x0
                exact sf_ret ⟨Iu31, Fu31, Of15_u31, Of34_u31, Of1_u31, Of30_u31, Of18_u31, ti_lo _, ti_hi _⟩
              have C28 : ¬ (0 : Int) = (0 : Int) := ti_ne c28
              exfalso; omega
            have C27 : (0 : Int) ≤ (lg_cmp (Int32.toInt64 x4) (0 : Int64)).toInt := ti_nlt c27
            have L27 : (0 : Int) ≤ x4.toInt := by have q := lg_ltln c27; (repeat (rw [Int32.toInt_toInt64] at q)); exact q
            have b33 := ti_lo (lg_cmp (Int32.toInt64 x4) (Int32.toInt64 (1 : Int32)))
            have b34 := ti_hi (lg_cmp (Int32.toInt64 x4) (Int32.toInt64 (1 : Int32)))
            refine sf_ite (fun c35 => ?_) (fun c35 => ?_)
            · have C35 : (0 : Int) < (lg_cmp (Int32.toInt64 x4) (Int32.toInt64 (1 : Int32))).toInt := ti_lt c35
              have L35 : (1 : Int) < x4.toInt := by have q := lg_ltr c35; (repeat (rw [Int32.toInt_toInt64] at q)); exact q
              rw [j_X4_in_17_e]
              refine sf_ret ?_
              refine sf_ite (fun c36 => ?_) (fun c36 => ?_)
              · have C36 : (0 : Int) = (0 : Int) := ti_eq c36
                refine sf_ret ?_
                refine sf_ite (fun c37 => ?_) (fun c37 => ?_)
                · have C37 : (0 : Int) ≤ (-2 : Int) := ti_le c37
                  exfalso; omega
                have C37 : (-2 : Int) < (0 : Int) := ti_nle c37
                refine sf_bnd (s_X4_refuse hF Is1 (by decide) (by decide)) (fun r38 u39 p40 => ?_)
                obtain ⟨Iu39, Fu39_, Of15_u39_, Of34_u39_, Of1_u39_, Of30_u39_, Of18_u39_, p40_1, p40_2, p40_x0⟩ := p40
                have Fu39 : ∀ k, k < 101 → u39 k = τ k := fun k hk => (Fu39_ k hk).trans (Fs1 k hk)
                have Of15_u39 : u39 101 15 = τ 101 15 := Of15_u39_.trans Of15_s1
                have Of34_u39 : u39 101 34 = τ 101 34 := Of34_u39_.trans Of34_s1
                have Of1_u39 : u39 101 1 = τ 101 1 := Of1_u39_.trans Of1_s1
                have Of30_u39 : u39 101 30 = τ 101 30 := Of30_u39_.trans Of30_s1
                have Of18_u39 : u39 101 18 = τ 101 18 := Of18_u39_.trans Of18_s1
                replace p40_x0 : r38.toInt = (-2 : Int) := p40_x0
                exact sf_ret ⟨Iu39, Fu39, Of15_u39, Of34_u39, Of1_u39, Of30_u39, Of18_u39, ti_lo _, ti_hi _⟩
              have C36 : ¬ (0 : Int) = (0 : Int) := ti_ne c36
              exfalso; omega
            have C35 : (lg_cmp (Int32.toInt64 x4) (Int32.toInt64 (1 : Int32))).toInt ≤ (0 : Int) := ti_nlt c35
            have L35 : x4.toInt ≤ (1 : Int) := by have q := lg_ltrn c35; (repeat (rw [Int32.toInt_toInt64] at q)); exact q
            refine sf_ret ?_
            refine sf_ite (fun c41 => ?_) (fun c41 => ?_)
            · have C41 : (1 : Int) = (0 : Int) := ti_eq c41
              exfalso; omega
            have C41 : ¬ (1 : Int) = (0 : Int) := ti_ne c41
            rw [j_X4_wrongBit_20_e]
            refine sf_ret ?_
            refine sf_ite (fun c42 => ?_) (fun c42 => ?_)
            · have C42 : (0 : Int) ≤ (0 : Int) := ti_le c42
              have t43 : ((24 : Int32) * x1).toInt = (24 : Int) * x1.toInt := ti_mul (show -2147483648 ≤ (24 : Int) * x1.toInt by omega) (show (24 : Int) * x1.toInt ≤ 2147483647 by omega)
              have t44 : (((24 : Int32) * x1) + x2).toInt = ((24 : Int32) * x1).toInt + x2.toInt := ti_add (show -2147483648 ≤ ((24 : Int32) * x1).toInt + x2.toInt by omega) (show ((24 : Int32) * x1).toInt + x2.toInt ≤ 2147483647 by omega)
              refine sf_chk (ti_in (by omega) (by omega)) ?_
              have v45 : Int32.toNatClampNeg (((24 : Int32) * x1) + x2) = (((24 : Int32) * x1) + x2).toInt.toNat := rfl
              have m47 := wx_106 Is1 (Int32.toNatClampNeg (((24 : Int32) * x1) + x2))
              refine sf_lt (fun z46 hz46 => ?_)
              have hz46_ : z46.toInt = (s1 106 (Int32.toNatClampNeg (((24 : Int32) * x1) + x2))).toInt := (show z46.toInt = (s1 106 (Int32.toNatClampNeg (((24 : Int32) * x1) + x2))).toInt from congrArg Int32.toInt hz46)
              have l_0 : (0 : Int32).toInt = 0 := rfl
              exact sl_X4_bestPane_74 hF (by omega) (by omega) (by omega) (by omega) (by omega) (by omega) (by omega) (by omega) (by omega) (by omega) _ _ _ _ _ Is1 Fs1 Of15_s1 Of34_s1 Of1_s1 Of30_s1 Of18_s1 (by omega) (by decide) (by decide) (by decide) (by decide) (by decide) (by decide)
            have C42 : (0 : Int) < (0 : Int) := ti_nle c42
            exfalso; omega
          have C22 : ¬ (0 : Int) = (0 : Int) := ti_ne c22
          exfalso; omega
        have C21 : (999 : Int) < x3.toInt := ti_nle c21
        refine sf_ret ?_
        rw [j_X4_bestPane_32_e]
        refine sf_in ?_
        rw [f_X4_wrongBit_e]
        refine sf_ite (fun c48 => ?_) (fun c48 => ?_)
        · have C48 : (-6 : Int) = (0 : Int) := ti_eq c48
          exfalso; omega
        have C48 : ¬ (-6 : Int) = (0 : Int) := ti_ne c48
        rw [j_X4_wrongBit_20_e]
        refine sf_ret ?_
        refine sf_ite (fun c49 => ?_) (fun c49 => ?_)
        · have C49 : (0 : Int) ≤ (-6 : Int) := ti_le c49
          exfalso; omega
        have C49 : (-6 : Int) < (0 : Int) := ti_nle c49
        refine sf_bnd (s_X4_refuse hF Is1 (by decide) (by decide)) (fun r50 u51 p52 => ?_)
        obtain ⟨Iu51, Fu51_, Of15_u51_, Of34_u51_, Of1_u51_, Of30_u51_, Of18_u51_, p52_1, p52_2, p52_x0⟩ := p52
        have Fu51 : ∀ k, k < 101 → u51 k = τ k := fun k hk => (Fu51_ k hk).trans (Fs1 k hk)
        have Of15_u51 : u51 101 15 = τ 101 15 := Of15_u51_.trans Of15_s1
        have Of34_u51 : u51 101 34 = τ 101 34 := Of34_u51_.trans Of34_s1
        have Of1_u51 : u51 101 1 = τ 101 1 := Of1_u51_.trans Of1_s1
        have Of30_u51 : u51 101 30 = τ 101 30 := Of30_u51_.trans Of30_s1
        have Of18_u51 : u51 101 18 = τ 101 18 := Of18_u51_.trans Of18_s1
        replace p52_x0 : r50.toInt = (-6 : Int) := p52_x0
        exact sf_ret ⟨Iu51, Fu51, Of15_u51, Of34_u51, Of1_u51, Of30_u51, Of18_u51, ti_lo _, ti_hi _⟩
      have C20 : x3.toInt < (0 : Int) := ti_nle c20
      refine sf_ret ?_
      rw [j_X4_bestPane_32_e]
      refine sf_in ?_
      rw [f_X4_wrongBit_e]
      refine sf_ite (fun c53 => ?_) (fun c53 => ?_)
      · have C53 : (-4 : Int) = (0 : Int) := ti_eq c53
        exfalso; omega
      have C53 : ¬ (-4 : Int) = (0 : Int) := ti_ne c53
      rw [j_X4_wrongBit_20_e]
      refine sf_ret ?_
      refine sf_ite (fun c54 => ?_) (fun c54 => ?_)
      · have C54 : (0 : Int) ≤ (-4 : Int) := ti_le c54
        exfalso; omega
      have C54 : (-4 : Int) < (0 : Int) := ti_nle c54
      refine sf_bnd (s_X4_refuse hF Is1 (by decide) (by decide)) (fun r55 u56 p57 => ?_)
      obtain ⟨Iu56, Fu56_, Of15_u56_, Of34_u56_, Of1_u56_, Of30_u56_, Of18_u56_, p57_1, p57_2, p57_x0⟩ := p57
      have Fu56 : ∀ k, k < 101 → u56 k = τ k := fun k hk => (Fu56_ k hk).trans (Fs1 k hk)
      have Of15_u56 : u56 101 15 = τ 101 15 := Of15_u56_.trans Of15_s1
      have Of34_u56 : u56 101 34 = τ 101 34 := Of34_u56_.trans Of34_s1
      have Of1_u56 : u56 101 1 = τ 101 1 := Of1_u56_.trans Of1_s1
      have Of30_u56 : u56 101 30 = τ 101 30 := Of30_u56_.trans Of30_s1
      have Of18_u56 : u56 101 18 = τ 101 18 := Of18_u56_.trans Of18_s1
      replace p57_x0 : r55.toInt = (-4 : Int) := p57_x0
      exact sf_ret ⟨Iu56, Fu56, Of15_u56, Of34_u56, Of1_u56, Of30_u56, Of18_u56, ti_lo _, ti_hi _⟩
    obtain ⟨rfl, q58⟩ := p14
    refine sf_ite (fun c59 => ?_) (fun c59 => ?_)
    · have C59 : (0 : Int) = (0 : Int) := ti_eq c59
      rw [j_X4_bestPane_31_e]
      rw [j_X4_bestPane_32_e]
      refine sf_in ?_
      rw [f_X4_wrongBit_e]
      refine sf_ite (fun c60 => ?_) (fun c60 => ?_)
      · have C60 : (-1 : Int) = (0 : Int) := ti_eq c60
        exfalso; omega
      have C60 : ¬ (-1 : Int) = (0 : Int) := ti_ne c60
      rw [j_X4_wrongBit_20_e]
      refine sf_ret ?_
      refine sf_ite (fun c61 => ?_) (fun c61 => ?_)
      · have C61 : (0 : Int) ≤ (-1 : Int) := ti_le c61
        exfalso; omega
      have C61 : (-1 : Int) < (0 : Int) := ti_nle c61
      refine sf_bnd (s_X4_refuse hF Is1 (by decide) (by decide)) (fun r62 u63 p64 => ?_)
      obtain ⟨Iu63, Fu63_, Of15_u63_, Of34_u63_, Of1_u63_, Of30_u63_, Of18_u63_, p64_1, p64_2, p64_x0⟩ := p64
      have Fu63 : ∀ k, k < 101 → u63 k = τ k := fun k hk => (Fu63_ k hk).trans (Fs1 k hk)
      have Of15_u63 : u63 101 15 = τ 101 15 := Of15_u63_.trans Of15_s1
      have Of34_u63 : u63 101 34 = τ 101 34 := Of34_u63_.trans Of34_s1
      have Of1_u63 : u63 101 1 = τ 101 1 := Of1_u63_.trans Of1_s1
      have Of30_u63 : u63 101 30 = τ 101 30 := Of30_u63_.trans Of30_s1
      have Of18_u63 : u63 101 18 = τ 101 18 := Of18_u63_.trans Of18_s1
      replace p64_x0 : r62.toInt = (-1 : Int) := p64_x0
      exact sf_ret ⟨Iu63, Fu63, Of15_u63, Of34_u63, Of1_u63, Of30_u63, Of18_u63, ti_lo _, ti_hi _⟩
    have C59 : ¬ (0 : Int) = (0 : Int) := ti_ne c59
    exfalso; omega
  obtain rfl := p6
  refine sf_ite (fun c65 => ?_) (fun c65 => ?_)
  · have C65 : (0 : Int) = (0 : Int) := ti_eq c65
    rw [j_X4_bestPane_31_e]
    rw [j_X4_bestPane_32_e]
    refine sf_in ?_
    rw [f_X4_wrongBit_e]
    refine sf_ite (fun c66 => ?_) (fun c66 => ?_)
    · have C66 : (-1 : Int) = (0 : Int) := ti_eq c66
      exfalso; omega
    have C66 : ¬ (-1 : Int) = (0 : Int) := ti_ne c66
    rw [j_X4_wrongBit_20_e]
    refine sf_ret ?_
    refine sf_ite (fun c67 => ?_) (fun c67 => ?_)
    · have C67 : (0 : Int) ≤ (-1 : Int) := ti_le c67
      exfalso; omega
    have C67 : (-1 : Int) < (0 : Int) := ti_nle c67
    refine sf_bnd (s_X4_refuse hF Is1 (by decide) (by decide)) (fun r68 u69 p70 => ?_)
    obtain ⟨Iu69, Fu69_, Of15_u69_, Of34_u69_, Of1_u69_, Of30_u69_, Of18_u69_, p70_1, p70_2, p70_x0⟩ := p70
    have Fu69 : ∀ k, k < 101 → u69 k = τ k := fun k hk => (Fu69_ k hk).trans (Fs1 k hk)
    have Of15_u69 : u69 101 15 = τ 101 15 := Of15_u69_.trans Of15_s1
    have Of34_u69 : u69 101 34 = τ 101 34 := Of34_u69_.trans Of34_s1
    have Of1_u69 : u69 101 1 = τ 101 1 := Of1_u69_.trans Of1_s1
    have Of30_u69 : u69 101 30 = τ 101 30 := Of30_u69_.trans Of30_s1
    have Of18_u69 : u69 101 18 = τ 101 18 := Of18_u69_.trans Of18_s1
    replace p70_x0 : r68.toInt = (-1 : Int) := p70_x0
    exact sf_ret ⟨Iu69, Fu69, Of15_u69, Of34_u69, Of1_u69, Of30_u69, Of18_u69, ti_lo _, ti_hi _⟩
  have C65 : ¬ (0 : Int) = (0 : Int) := ti_ne c65
  exfalso; omega
